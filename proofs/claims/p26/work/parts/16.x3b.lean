section HRC
variable {p : Program} {l : Launch} {e : Env} {R : Room} {s : State} {m : MethodId} {args : Array Value} {below : List Frame} {meth : Method} {c : Code} {H : Heap} {locs : List Loc} {cells slots : Nat} {Q : State → Prop}
variable {cc : ByteArray} {pc : Nat} {ls : Array Slot} {rest : List Value} {g : GE} {A : Nat → Prop} {h : Nat → va_E}
/-- System.arraycopy between rows of ints -/
theorem r_copyi (hx : p.tables.exec = Jvm.exec) (hb : c.code = cc) (hml : c.maxLocals = ls.size) {own : String} {index : Nat} (hown : s.vm.findClass own = some m.cls) (hlink : (Cond.methodLink own index arraycopyName).before args s = true) (hnat : (Cond.native arraycopyName).before args s = true) (hstat : (Cond.static arraycopyName).before args s = true) (hini : (Cond.initialized "java/lang/System").before args s = true)
    (w : WD g A s h H locs) {k0 k1 n0 n1 a b n : Nat} {f f1 : Nat → Int32} {sp dp nn : Int32} (hk0 : k0 < g.2.2.2) (hk1 : k1 < g.2.2.2) (hc0 : h k0 = .inl (g.2.1 0, n0, .inl f)) (hc1 : h k1 = .inl (g.2.1 0, n1, .inl f1)) (hsp : sp.toInt = ((a : Nat) : Int)) (hdp : dp.toInt = ((b : Nat) : Int)) (hnn : nn.toInt = ((n : Nat) : Int)) (h4 : a + n ≤ n0) (h5 : b + n ≤ n1)
    (hframes : 1 ≤ R.frames) (hlocals : (rest.map fun v => v.category).sum + (nativeFrameWords "java/lang/System" "arraycopy" 5 + 11) ≤ R.locals) (hdg : decode cc pc = .ok (.invokestatic index, 3))
    (kk : ∀ (h' : Nat → va_E) (H1 : Heap) (locs1 : List Loc), h' = va_up h k1 (.inl (g.2.1 0, n1, .inl (va_cpy f f1 a b n))) → WD g A s h' H1 locs1 → W p l e R s m args below meth c H1 locs1 cells slots Q (F0 m (pc + 3) ls rest)) : W p l e R s m args below meth c H locs cells slots Q (F0 m pc ls (.int nn :: .int dp :: .ref (g.2.2.1 k1) :: .int sp :: .ref (g.2.2.1 k0) :: rest)) := by
  have z : ∀ {x : Int32} {j : Nat}, x.toInt = ((j : Nat) : Int) → ¬ x < 0 := fun hx q => by
    have := (i_lt hx (by decide : (0 : Int32).toInt = (0 : Int))).mp q
    omega
  refine va_copyi hx hb hml hown hlink hnat hstat hini w.1 w.2.1 w.2.2.1 w.2.2.2.1 k0 k1 0 0 (hw_get2 hk0 hc0) (hw_get2 hk1 hc1) rfl rfl rfl (z hsp) (z hdp) (z hnn) (by rw [i_nat hsp, i_nat hnn]; exact h4) (by rw [i_nat hdp, i_nat hnn]; exact h5) (fun _ _ => rfl) hframes hlocals hdg fun H1 locs1 hP hD hS => ?_
  rw [i_nat hsp, i_nat hdp, i_nat hnn] at hP hD
  exact kk _ H1 locs1 rfl (w.put hk1 rfl hP hD hS)
end HRC
/-- whether a letter may be where another one is -/
def mFit (M : PRG) (f pl k : Nat) : Prop := mMay (pN M) (pA M) f k ∧ mParts (pN M) (pA M) k = mParts (pN M) (pA M) (pB M f pl)
/-- one letter put -/
def mSet (M : PRG) (f pl k : Nat) : PRG := (pN M, pA M, pK M, pL M, fun i j => if i = f ∧ j = pl then k else pB M i j)
def mKind (M : PRG) (f k : Nat) : PRG := (pN M, pA M, fun i => if i = f then k else pK M i, pL M, pB M)
/-- the next letter that fits -/
def mNext (M : PRG) (f pl k : Nat) : Prop := ∃ s : Nat, 1 ≤ s ∧ s ≤ 14 ∧ k = (pB M f pl + s) % 14 ∧ mFit M f pl k ∧ ∀ s_ : Nat, 1 ≤ s_ → s_ < s → ¬ mFit M f pl ((pB M f pl + s_) % 14)
theorem mNext.inj {M : PRG} {f pl k k' : Nat} (h : mNext M f pl k) (h2 : mNext M f pl k') : k = k' := by
  obtain ⟨s, a1, a2, a3, a4, a5⟩ := h
  obtain ⟨t, b1, b2, b3, b4, b5⟩ := h2
  rcases Nat.lt_trichotomy s t with q | q | q
  · exact absurd (by rw [← a3]; exact a4) (b5 s a1 q)
  · rw [a3, b3, q]
  · exact absurd (by rw [← b3]; exact b4) (a5 t b1 q)
theorem mSet_dep {M : PRG} {f pl k : Nat} (h : mFit M f pl k) (i : Nat) : ∀ p, mDep (mSet M f pl k) i p = mDep M i p
  | 0 => rfl
  | p + 1 => by
    show mDep (mSet M f pl k) i p + mParts (pN M) (pA M) (if i = f ∧ p = pl then k else pB M i p) - 1 = mDep M i p + mParts (pN M) (pA M) (pB M i p) - 1
    rw [mSet_dep h i p]
    split
    · rename_i q; rw [h.2, q.1, q.2]
    · rfl
theorem mSet_ok {M : PRG} {f pl k : Nat} (hP : PV M) (h : mFit M f pl k) (hk : k < 14) : PV (mSet M f pl k) := by
  refine ⟨hP.1, hP.2.1, fun i hi => ?_⟩
  obtain ⟨a1, a2, a3, a4, a5, a6⟩ := hP.2.2 i hi
  refine ⟨a1, a2, a3, a4, fun p hp => ?_, by rw [mSet_dep h]; exact a6⟩
  rw [mSet_dep h]
  obtain ⟨b1, b2, b3⟩ := a5 p hp
  show (if i = f ∧ p = pl then k else pB M i p) < 14 ∧ mMay (pN M) (pA M) i (if i = f ∧ p = pl then k else pB M i p) ∧ _
  split
  · rename_i q; exact ⟨hk, by rw [q.1]; exact h.1, b3⟩
  · exact ⟨b1, b2, b3⟩
theorem mKind_dep {M : PRG} {f k : Nat} (i : Nat) : ∀ p, mDep (mKind M f k) i p = mDep M i p
  | 0 => rfl
  | p + 1 => by
    show mDep (mKind M f k) i p + mParts (pN M) (pA M) (pB M i p) - 1 = mDep M i p + mParts (pN M) (pA M) (pB M i p) - 1
    rw [mKind_dep i p]
theorem mKind_ok {M : PRG} {f k : Nat} (hP : PV M) (hk : k ≤ 3) : PV (mKind M f k) := by
  refine ⟨hP.1, hP.2.1, fun i hi => ?_⟩
  obtain ⟨a1, a2, a3, a4, a5, a6⟩ := hP.2.2 i hi
  refine ⟨a1, ?_, a3, a4, fun p hp => by rw [mKind_dep]; exact a5 p hp, by rw [mKind_dep]; exact a6⟩
  show (if i = f then k else pK M i) ≤ 3
  split
  · exact hk
  · exact a2
section PRS2
variable {M : PRG} {n : Int32} {ga gk gl ga' gk' gl' gz : Nat → Int32} {gb gb' : Nat → Nat → Int32}
theorem PrS.cp (S : PrS M n ga gk gl gb) (hP : PV M) (h : ∀ i, i < 4 → ga' i = ga i ∧ gk' i = gk i ∧ gl' i = gl i ∧ ∀ j, j < 24 → gb' i j = gb i j) : PrS M n ga' gk' gl' gb' := by
  have h4 := hP.2.1
  refine ⟨S.1, fun i hi => ?_, fun i hi => ?_, fun i hi => ?_, fun i hi j hj => ?_⟩
  · rw [(h i (by omega)).1]; exact S.2.1 i hi
  · rw [(h i (by omega)).2.1]; exact S.2.2.1 i hi
  · rw [(h i (by omega)).2.2.1]; exact S.2.2.2.1 i hi
  · have := (hP.2.2 i hi).2.2.2.1
    rw [(h i (by omega)).2.2.2 j (by omega)]; exact S.2.2.2.2 i hi j hj
theorem PrS.put (S : PrS M n ga gk gl gb) {f pl k : Nat} {x : Int32} (hx : x.toInt = ((k : Nat) : Int)) : PrS (mSet M f pl k) n ga gk gl (va_up gb f (upd (gb f) pl x)) := by
  refine ⟨S.1, S.2.1, S.2.2.1, S.2.2.2.1, fun i hi j hj => ?_⟩
  show (va_up gb f (upd (gb f) pl x) i j).toInt = (((if i = f ∧ j = pl then k else pB M i j) : Nat) : Int)
  by_cases e : i = f
  · subst e
    rw [va_up_self]
    by_cases e2 : j = pl
    · subst e2; rw [pk_us, if_pos ⟨rfl, rfl⟩]; exact hx
    · rw [pk_un e2, if_neg (fun q => e2 q.2)]; exact S.2.2.2.2 i hi j hj
  · rw [va_up_ne _ _ e, if_neg (fun q => e q.1)]; exact S.2.2.2.2 i hi j hj
theorem PrS.kind (S : PrS M n ga gk gl gb) {f k : Nat} {x : Int32} (hx : x.toInt = ((k : Nat) : Int)) : PrS (mKind M f k) n ga (upd gk f x) gl gb := by
  refine ⟨S.1, S.2.1, fun i hi => ?_, S.2.2.2.1, S.2.2.2.2⟩
  show (upd gk f x i).toInt = (((if i = f then k else pK M i) : Nat) : Int)
  by_cases e : i = f
  · subst e; rw [pk_us, if_pos rfl]; exact hx
  · rw [pk_un e, if_neg e]; exact S.2.2.1 i hi
theorem PrS.self (S : PrS M n ga gk gl gb) (f pl : Nat) : PrS (mSet M f pl (pB M f pl)) n ga gk gl gb := by
  refine ⟨S.1, S.2.1, S.2.2.1, S.2.2.2.1, fun i hi j hj => ?_⟩
  show (gb i j).toInt = (((if i = f ∧ j = pl then pB M f pl else pB M i j) : Nat) : Int)
  split
  · rename_i q; rw [q.1, q.2]; rw [q.1] at hi; rw [q.1, q.2] at hj; exact S.2.2.2.2 f hi pl hj
  · exact S.2.2.2.2 i hi j hj
end PRS2
/-- one function's fields are another program's -/
def CpF (ga1 gk1 gl1 : Nat → Int32) (gb1 : Nat → Nat → Int32) (ga2 gk2 gl2 : Nat → Int32) (gb2 : Nat → Nat → Int32) (j : Nat) : Prop := ga1 j = ga2 j ∧ gk1 j = gk2 j ∧ gl1 j = gl2 j ∧ ∀ q, q < 24 → gb1 j q = gb2 j q
section CPF
variable {ga1 gk1 gl1 ga2 gk2 gl2 ga3 gk3 gl3 : Nat → Int32} {gb1 gb2 gb3 : Nat → Nat → Int32} {i j : Nat} {x y z : Int32} {w : Nat → Int32}
theorem tk_old (h : ∀ j, j < i → CpF ga1 gk1 gl1 gb1 ga2 gk2 gl2 gb2 j) (hj : j < i) (e1 : upd ga1 i x = ga3) (e2 : upd gk1 i y = gk3) (e3 : upd gl1 i z = gl3) (e4 : va_up gb1 i w = gb3) : CpF ga3 gk3 gl3 gb3 ga2 gk2 gl2 gb2 j := by
  subst e1 e2 e3 e4
  obtain ⟨h1, h2, h3, h4⟩ := h j hj
  have n : j ≠ i := by omega
  exact ⟨(pk_un n).trans h1, (pk_un n).trans h2, (pk_un n).trans h3, fun q hq => by rw [va_up_ne _ _ n]; exact h4 q hq⟩
theorem tk_new (e1 : upd ga1 i (ga2 i) = ga3) (e2 : upd gk1 i (gk2 i) = gk3) (e3 : upd gl1 i (gl2 i) = gl3) (e4 : va_up gb1 i (va_cpy (gb2 i) (gb1 i) 0 0 24) = gb3) : CpF ga3 gk3 gl3 gb3 ga2 gk2 gl2 gb2 i := by
  subst e1 e2 e3 e4
  exact ⟨pk_us, pk_us, pk_us, fun q hq => by rw [va_up_self, pk_cpy_in (Nat.zero_le _) (by omega)]; congr 1; omega⟩
end CPF
/-- A History at t: the object, functions, places, befores -/
def HiA (g : GE) (h : Nat → va_E) (t : Nat) (c : Int32) (gf gp gb : Nat → Int32) : Prop :=
  t + 4 ≤ g.2.2.2 ∧ h t = .inr (1, [.ref (g.2.2.1 (t + 1)), .ref (g.2.2.1 (t + 2)), .ref (g.2.2.1 (t + 3)), .int c]) ∧ h (t + 1) = .inl (g.2.1 0, 8, .inl gf) ∧ h (t + 2) = .inl (g.2.1 0, 8, .inl gp) ∧ h (t + 3) = .inl (g.2.1 0, 8, .inl gb)
section HIS
variable {g : GE} {h h' : Nat → va_E} {t : Nat} {c c' : Int32} {gf gp gb gz : Nat → Int32}
theorem HiA.fr (P : HiA g h t c gf gp gb) (hf : ∀ k, t ≤ k → k < t + 4 → h' k = h k) : HiA g h' t c gf gp gb := by
  obtain ⟨a0, a1, a2, a3, a4⟩ := P
  exact ⟨a0, by rw [hf _ (by omega) (by omega)]; exact a1, by rw [hf _ (by omega) (by omega)]; exact a2, by rw [hf _ (by omega) (by omega)]; exact a3, by rw [hf _ (by omega) (by omega)]; exact a4⟩
theorem HiA.s0 (P : HiA g h t c gf gp gb) (e : h' = va_up h t (.inr (1, [.ref (g.2.2.1 (t + 1)), .ref (g.2.2.1 (t + 2)), .ref (g.2.2.1 (t + 3)), .int c']))) : HiA g h' t c' gf gp gb := by
  obtain ⟨a0, a1, a2, a3, a4⟩ := P
  subst e
  exact ⟨a0, va_up_self _ _ _, by rw [va_up_ne _ _ (by omega)]; exact a2, by rw [va_up_ne _ _ (by omega)]; exact a3, by rw [va_up_ne _ _ (by omega)]; exact a4⟩
theorem HiA.s1 (P : HiA g h t c gf gp gb) (e : h' = va_up h (t + 1) (.inl (g.2.1 0, 8, .inl gz))) : HiA g h' t c gz gp gb := by
  obtain ⟨a0, a1, a2, a3, a4⟩ := P
  subst e
  exact ⟨a0, by rw [va_up_ne _ _ (by omega)]; exact a1, va_up_self _ _ _, by rw [va_up_ne _ _ (by omega)]; exact a3, by rw [va_up_ne _ _ (by omega)]; exact a4⟩
theorem HiA.s2 (P : HiA g h t c gf gp gb) (e : h' = va_up h (t + 2) (.inl (g.2.1 0, 8, .inl gz))) : HiA g h' t c gf gz gb := by
  obtain ⟨a0, a1, a2, a3, a4⟩ := P
  subst e
  exact ⟨a0, by rw [va_up_ne _ _ (by omega)]; exact a1, by rw [va_up_ne _ _ (by omega)]; exact a2, va_up_self _ _ _, by rw [va_up_ne _ _ (by omega)]; exact a4⟩
theorem HiA.s3 (P : HiA g h t c gf gp gb) (e : h' = va_up h (t + 3) (.inl (g.2.1 0, 8, .inl gz))) : HiA g h' t c gf gp gz := by
  obtain ⟨a0, a1, a2, a3, a4⟩ := P
  subst e
  exact ⟨a0, by rw [va_up_ne _ _ (by omega)]; exact a1, by rw [va_up_ne _ _ (by omega)]; exact a2, by rw [va_up_ne _ _ (by omega)]; exact a3, va_up_self _ _ _⟩
end HIS
theorem inX3_fits_X3 : ∀ w ∈ wsX30, w ∈ wsX3_fits := by decide +kernel
abbrev rm_X3_fits : Room := { frames := 2, cells := 0, slots := 0, locals := 43 }
set_option maxHeartbeats 4000000 in
set_option maxRecDepth 100000 in
theorem c_X3_fits (l : Launch) {g : GE} {h : Nat → va_E} {o : Nat} {n : Int32} {ga gk gl : Nat → Int32} {gb : Nat → Nat → Int32} (P : PrA g h o n ga gk gl gb) {M : PRG} (S : PrS M n ga gk gl gb) (hP : PV M) (p0 p1 p2 : Int32) {f pl : Nat} (hp0 : p0.toInt = (f : Int)) (hp1 : p1.toInt = (pl : Int)) (hf : f < pN M) (hpl : pl < pL M f) (hp2 : p2.toInt < 14) : MI l yX3_fits wsX3_fits rm_X3_fits [.ref (g.2.2.1 o), .int p0, .int p1, .int p2] g h (fun r h2 => h2 = h ∧ Bq r (0 ≤ p2.toInt ∧ mFit M f pl p2.toInt.toNat)) := by
  refine Met.ofW (cc := cX3_fits) (maxL := 4) (ret := (some .boolean)) (by decide) rfl ?_
  intro p e s m args below meth c s₁ B hml hv
  obtain ⟨rfl, w0⟩ := hv
  have hx := B.exec
  have hb := B.bytes
  have hr := B.returns
  have hts := atoms_spec (ws := wsX3_fits) B.pre
  have hown : s.vm.findClass RX3 = some m.cls := findClass_of_methodNamed B.named
  have hlocks := B.notSynchronized
  have w := w0.start
  clear w0
  have hl := lv_entry ([.ref (g.2.2.1 o), .int p0, .int p1, .int p2]) (n := 4) (Nat.le_of_ble_eq_true rfl)
  rw [lg_entry_eq]
  generalize (lg_sl ([.ref (g.2.2.1 o), .int p0, .int p1, .int p2]) ++ List.replicate (4 - (lg_sl ([.ref (g.2.2.1 o), .int p0, .int p1, .int p2])).length) Slot.unset).toArray = ls at hl ⊢
  have hl : lv_has ls 4 [(0, .ref (g.2.2.1 o)), (1, .int p0), (2, .int p1), (3, .int p2)] := hl
  have hn4 := hP.2.1
  obtain ⟨ha3, hk3, hl1, hl24, hpb, -⟩ := hP.2.2 f hf
  have hb_ := hpb pl hpl
  have hn := S.1
  have hgl := S.2.2.2.1 p0.toInt.toNat (by omega)
  have hfe : p0.toInt.toNat = f := by omega
  rw [hfe] at hgl
  refine lv_aload_n hx hb dX3_fits_0 rfl (lv_at hl 0 rfl) ?_
  refine lv_iload_n hx hb dX3_fits_1 rfl (lv_at hl 1 rfl) ?_
  refine lv_iload_n hx hb dX3_fits_2 rfl (lv_at hl 2 rfl) ?_
  refine r_callI w (va_runV (As := [.int p0, .int p1]) (rest := []) ⟨hx, hb, hml, hown, hts⟩ (c_X3_hasPlace l P p0 p1 (by omega)) (cwV 2 hts gX3_fits_X3_hasPlace rfl rfl rfl (by decide +kernel) ⟨Nat.le_of_ble_eq_true rfl, Nat.le_of_ble_eq_true rfl⟩) (r_preV w (by have := P.1; omega) P.c0 rfl) rfl rfl hl.1 rfl (lv_room (Nat.le_of_ble_eq_true rfl)) dX3_fits_3 ⟨Nat.zero_le _, Nat.zero_le _⟩) (fun r2 h1 H locs hp w => ?_)
  obtain ⟨eh_, qq3⟩ := hp
  have eh_ := eh_.symm
  subst eh_
  refine lv_if_eq (tgt := 42) hx hb dX3_fits_6 (by decide) (fun c4 => ?_) (fun c4 => ?_)
  · have c4 := qq3.eq c4
    rw [hfe] at c4; exfalso; omega
  · have c4 := qq3.ne c4
    refine lv_aload_n hx hb dX3_fits_9 rfl (lv_at hl 0 rfl) ?_
    refine lv_iload_n hx hb dX3_fits_10 rfl (lv_at hl 1 rfl) ?_
    refine lv_iload_n hx hb dX3_fits_11 rfl (lv_at hl 3 rfl) ?_
    refine r_callI w (va_runV (As := [.int p0, .int p2]) (rest := []) ⟨hx, hb, hml, hown, hts⟩ (c_X3_mayStand l P S.1 hn4 (S.ha hP) p0 p2 (by omega)) (cwV 2 hts gX3_fits_X3_mayStand rfl rfl rfl (by decide +kernel) ⟨Nat.le_of_ble_eq_true rfl, Nat.le_of_ble_eq_true rfl⟩) (r_preV w (by have := P.1; omega) P.c0 rfl) rfl rfl hl.1 rfl (lv_room (Nat.le_of_ble_eq_true rfl)) dX3_fits_12 ⟨Nat.zero_le _, Nat.zero_le _⟩) (fun r6 h5 H locs hp w => ?_)
    obtain ⟨eh_, qq7⟩ := hp
    have eh_ := eh_.symm
    subst eh_
    refine lv_if_eq (tgt := 42) hx hb dX3_fits_15 (by decide) (fun c8 => ?_) (fun c8 => ?_)
    · have c8 := qq7.eq c8
      refine lv_iconst (v := 0) hx hb dX3_fits_42 (by decide) ?_
      refine r_zret (v := 0) hx hb hr rfl hlocks w dX3_fits_43 ?_
      exact ⟨rfl, Bq.f (fun q_ => c8 ⟨by omega, by omega, q_.1, by rw [hfe]; exact q_.2.1⟩)⟩
    · have c8 := qq7.ne c8
      obtain ⟨kN, hkN⟩ : ∃ q : Nat, p2.toInt = (q : Int) := ⟨p2.toInt.toNat, by omega⟩
      refine lv_aload_n hx hb dX3_fits_18 rfl (lv_at hl 0 rfl) ?_
      refine lv_iload_n hx hb dX3_fits_19 rfl (lv_at hl 3 rfl) ?_
      refine r_callI w (va_runV (As := [.int p2]) (rest := []) ⟨hx, hb, hml, hown, hts⟩ (c_X3_partsOf l P S.1 hn4 (S.ha hP) p2 hkN (by omega)) (cwV 1 hts gX3_fits_X3_partsOf rfl rfl rfl (by decide +kernel) ⟨Nat.le_of_ble_eq_true rfl, Nat.le_of_ble_eq_true rfl⟩) (r_preV w (by have := P.1; omega) P.c0 rfl) rfl rfl hl.1 rfl (lv_room (Nat.le_of_ble_eq_true rfl)) dX3_fits_20 ⟨Nat.zero_le _, Nat.zero_le _⟩) (fun r10 h9 H locs hp w => ?_)
      obtain ⟨eh_, qq11⟩ := hp
      have eh_ := eh_.symm
      subst eh_
      refine lv_aload_n hx hb dX3_fits_23 rfl (lv_at hl 0 rfl) ?_
      refine lv_aload_n hx hb dX3_fits_24 rfl (lv_at hl 0 rfl) ?_
      refine r_get (C := RX3) (T := TX3) (N := 5) (ci := 2) hx hb hts inX3_fits_X3 hown w (by have := P.1; omega) P.c0 rfl 4 (by decide) (hts (Cond.fieldLink RX3 21 "EarlyValues$Program" "bodies" "[[I") (List.mem_of_getElem? (i := 1) (by decide +kernel))) rfl rfl dX3_fits_25 ?_
      refine lv_iload_n hx hb dX3_fits_28 rfl (lv_at hl 1 rfl) ?_
      refine r_aald (t := 4) (j := f) hx hb w (by decide) (by have := P.1; omega) P.c4 hp0 (by omega) (rowsF_in (by omega)) dX3_fits_29 ?_
      refine lv_iload_n hx hb dX3_fits_30 rfl (lv_at hl 2 rfl) ?_
      refine r_iald (j := pl) hx hb w (by have := P.1; omega) (P.c5 (i := f) (by omega)) hp1 (by omega) dX3_fits_31 ?_
      refine r_callI w (va_runV (As := [.int (gb f pl)]) (rest := [.int r10]) ⟨hx, hb, hml, hown, hts⟩ (c_X3_partsOf l P S.1 hn4 (S.ha hP) (gb f pl) (S.2.2.2.2 f (by omega) pl (by omega)) (by omega)) (cwV 1 hts gX3_fits_X3_partsOf rfl rfl rfl (by decide +kernel) ⟨Nat.le_of_ble_eq_true rfl, Nat.le_of_ble_eq_true rfl⟩) (r_preV w (by have := P.1; omega) P.c0 rfl) rfl rfl hl.1 rfl (lv_room (Nat.le_of_ble_eq_true rfl)) dX3_fits_32 ⟨Nat.zero_le _, Nat.zero_le _⟩) (fun r13 h12 H locs hp w => ?_)
      obtain ⟨eh_, qq14⟩ := hp
      have eh_ := eh_.symm
      subst eh_
      refine lv_icmp_ne (tgt := 42) hx hb dX3_fits_35 (by decide) (fun c15 => ?_) (fun c15 => ?_)
      · have c15 : ¬ ((((mParts (pN M) (pA M) kN) : Nat) : Int) = (((mParts (pN M) (pA M) (pB M f pl)) : Nat) : Int)) := fun q => c15 ((i_eq qq11 qq14).mpr q)
        refine lv_iconst (v := 0) hx hb dX3_fits_42 (by decide) ?_
        refine r_zret (v := 0) hx hb hr rfl hlocks w dX3_fits_43 ?_
        have hke : p2.toInt.toNat = kN := by omega
        rw [hfe] at c8
        exact ⟨rfl, Bq.f (fun q_ => absurd q_.2.2 (by rw [hke]; omega))⟩
      · have c15 : (((mParts (pN M) (pA M) kN) : Nat) : Int) = (((mParts (pN M) (pA M) (pB M f pl)) : Nat) : Int) := (i_eq qq11 qq14).mp c15
        refine lv_iconst (v := 1) hx hb dX3_fits_38 (by decide) ?_
        refine lv_goto (tgt := 43) hx hb dX3_fits_39 (by decide) ?_
        refine r_zret (v := 1) hx hb hr rfl hlocks w dX3_fits_43 ?_
        have hke : p2.toInt.toNat = kN := by omega
        rw [hfe] at c8
        exact ⟨rfl, Bq.t ⟨by omega, c8.2.2.2, by rw [hke]; omega⟩⟩

theorem inX3_takeFrom_X3 : ∀ w ∈ wsX30, w ∈ wsX3_takeFrom := by decide +kernel
abbrev rm_X3_takeFrom : Room := { frames := 1, cells := 0, slots := 0, locals := 20 }
set_option maxHeartbeats 4000000 in
set_option maxRecDepth 100000 in
theorem c_X3_takeFrom (l : Launch) {g : GE} {h : Nat → va_E} {o : Nat} {n : Int32} {ga gk gl : Nat → Int32} {gb : Nat → Nat → Int32} (P : PrA g h o n ga gk gl gb) {o2 : Nat} {n2 : Int32} {ga2 gk2 gl2 : Nat → Int32} {gb2 : Nat → Nat → Int32} (Q : PrA g h o2 n2 ga2 gk2 gl2 gb2) (hdis : o + 9 ≤ o2 ∨ o2 + 9 ≤ o) : MV l yX3_takeFrom wsX3_takeFrom rm_X3_takeFrom [.ref (g.2.2.1 o), .ref (g.2.2.1 o2)] g h (fun h2 => (∀ k, ¬ (o ≤ k ∧ k < o + 9) → h2 k = h k) ∧ ∃ (ga3 gk3 gl3 : Nat → Int32) (gb3 : Nat → Nat → Int32), PrA g h2 o n2 ga3 gk3 gl3 gb3 ∧ ∀ j, j < 4 → CpF ga3 gk3 gl3 gb3 ga2 gk2 gl2 gb2 j) := by
  refine Met.ofW (cc := cX3_takeFrom) (maxL := 3) (ret := none) (by decide) rfl ?_
  intro p e s m args below meth c s₁ B hml hv
  obtain ⟨rfl, w0⟩ := hv
  have hx := B.exec
  have hb := B.bytes
  have hr := B.returns
  have hts := atoms_spec (ws := wsX3_takeFrom) B.pre
  have hown : s.vm.findClass RX3 = some m.cls := findClass_of_methodNamed B.named
  have hlocks := B.notSynchronized
  have w := w0.start
  clear w0
  have hl := lv_entry ([.ref (g.2.2.1 o), .ref (g.2.2.1 o2)]) (n := 3) (Nat.le_of_ble_eq_true rfl)
  rw [lg_entry_eq]
  generalize (lg_sl ([.ref (g.2.2.1 o), .ref (g.2.2.1 o2)]) ++ List.replicate (3 - (lg_sl ([.ref (g.2.2.1 o), .ref (g.2.2.1 o2)])).length) Slot.unset).toArray = ls at hl ⊢
  have hl : lv_has ls 3 [(0, .ref (g.2.2.1 o)), (1, .ref (g.2.2.1 o2))] := hl
  have cuts : ∀ N : Nat, (∀ (i : Nat) (x2 : Int32) (ga1 : Nat → Int32) (gk1 : Nat → Int32) (gl1 : Nat → Int32) (gb1 : Nat → Nat → Int32) (hc : Nat → va_E) (H : Heap) (locs : List Loc) (ls : Array Slot), WD g (inW g) s hc H locs → lv_has ls 3 [(0, .ref (g.2.2.1 o)), (1, .ref (g.2.2.1 o2)), (2, .int x2)] → (i ≤ 4) → (x2.toInt = ((i : Nat) : Int)) → (∀ j, j < i → CpF ga1 gk1 gl1 gb1 ga2 gk2 gl2 gb2 j) → (PrA g hc o n2 ga1 gk1 gl1 gb1) → (PrA g hc o2 n2 ga2 gk2 gl2 gb2) → (∀ k, ¬ (o ≤ k ∧ k < o + 9) → hc k = h k) → 4 - i < N → W p l e (headSpec wsX3_takeFrom rm_X3_takeFrom).room s m ([.ref (g.2.2.1 o), .ref (g.2.2.1 o2)] : List Value).toArray below meth c H locs 0 0 (MQ below (va_Qv (fun h2 => (∀ k, ¬ (o ≤ k ∧ k < o + 9) → h2 k = h k) ∧ ∃ (ga3 gk3 gl3 : Nat → Int32) (gb3 : Nat → Nat → Int32), PrA g h2 o n2 ga3 gk3 gl3 gb3 ∧ ∀ j, j < 4 → CpF ga3 gk3 gl3 gb3 ga2 gk2 gl2 gb2 j) (Wd g) (inW g)) ([.ref (g.2.2.1 o), .ref (g.2.2.1 o2)] : List Value).toArray s 0 0 (inW g)) (F0 m 10 ls [])) := by
    intro N
    induction N with
    | zero => exact by intros; omega
    | succ N ih =>
      have ih10 := ih
      · intro i x2 ga1 gk1 gl1 gb1 hc H locs ls w hl hi hx2 hcp P Q hfr hN_
        refine lv_iload_n hx hb dX3_takeFrom_10 rfl (lv_at hl 2 rfl) ?_
        refine lv_iconst (v := 4) hx hb dX3_takeFrom_11 (by decide) ?_
        refine lv_icmp_ge (tgt := 76) hx hb dX3_takeFrom_12 (by decide) (fun c1 => ?_) (fun c1 => ?_)
        · have c1 : ((4 : Nat) : Int) ≤ ((i : Nat) : Int) := (i_le (by decide : (4 : Int32).toInt = ((4 : Nat) : Int)) hx2).mp c1
          refine r_vret hx hb hr hlocks w dX3_takeFrom_76 ?_
          exact ⟨hfr, _, _, _, _, P, fun j_ hj_ => hcp j_ (by omega)⟩
        · have c1 : ¬ (((4 : Nat) : Int) ≤ ((i : Nat) : Int)) := fun q => c1 ((i_le (by decide : (4 : Int32).toInt = ((4 : Nat) : Int)) hx2).mpr q)
          refine lv_aload_n hx hb dX3_takeFrom_15 rfl (lv_at hl 0 rfl) ?_
          refine r_get (C := RX3) (T := TX3) (N := 5) (ci := 2) hx hb hts inX3_takeFrom_X3 hown w (by have := P.1; omega) P.c0 rfl 1 (by decide) (hts (Cond.fieldLink RX3 9 "EarlyValues$Program" "arguments" "[I") (List.mem_of_getElem? (i := 2) (by decide +kernel))) rfl rfl dX3_takeFrom_16 ?_
          refine lv_iload_n hx hb dX3_takeFrom_19 rfl (lv_at hl 2 rfl) ?_
          refine lv_aload_n hx hb dX3_takeFrom_20 rfl (lv_at hl 1 rfl) ?_
          refine r_get (C := RX3) (T := TX3) (N := 5) (ci := 2) hx hb hts inX3_takeFrom_X3 hown w (by have := Q.1; omega) Q.c0 rfl 1 (by decide) (hts (Cond.fieldLink RX3 9 "EarlyValues$Program" "arguments" "[I") (List.mem_of_getElem? (i := 2) (by decide +kernel))) rfl rfl dX3_takeFrom_21 ?_
          refine lv_iload_n hx hb dX3_takeFrom_24 rfl (lv_at hl 2 rfl) ?_
          refine r_iald (j := i) hx hb w (by have := Q.1; omega) Q.c1 hx2 (by omega) dX3_takeFrom_25 ?_
          refine r_iast (j := i) hx hb w (by have := P.1; omega) P.c1 hx2 (by omega) dX3_takeFrom_26 (fun h2 H locs eh2 w => ?_)
          have P := P.s1 eh2
          generalize egz3 : upd ga1 i (ga2 i) = gz3 at P
          have hfr : ∀ k_, ¬ (o ≤ k_ ∧ k_ < o + 9) → h2 k_ = h k_ := fun k_ hk_ => by rw [eh2, va_up_ne _ _ (by omega)]; exact hfr k_ hk_
          have Q := Q.fr (h' := h2) (fun k_ h1_ h2_ => by rw [eh2, va_up_ne _ _ (by omega)])
          refine lv_aload_n hx hb dX3_takeFrom_27 rfl (lv_at hl 0 rfl) ?_
          refine r_get (C := RX3) (T := TX3) (N := 5) (ci := 2) hx hb hts inX3_takeFrom_X3 hown w (by have := P.1; omega) P.c0 rfl 2 (by decide) (hts (Cond.fieldLink RX3 13 "EarlyValues$Program" "kinds" "[I") (List.mem_of_getElem? (i := 3) (by decide +kernel))) rfl rfl dX3_takeFrom_28 ?_
          refine lv_iload_n hx hb dX3_takeFrom_31 rfl (lv_at hl 2 rfl) ?_
          refine lv_aload_n hx hb dX3_takeFrom_32 rfl (lv_at hl 1 rfl) ?_
          refine r_get (C := RX3) (T := TX3) (N := 5) (ci := 2) hx hb hts inX3_takeFrom_X3 hown w (by have := Q.1; omega) Q.c0 rfl 2 (by decide) (hts (Cond.fieldLink RX3 13 "EarlyValues$Program" "kinds" "[I") (List.mem_of_getElem? (i := 3) (by decide +kernel))) rfl rfl dX3_takeFrom_33 ?_
          refine lv_iload_n hx hb dX3_takeFrom_36 rfl (lv_at hl 2 rfl) ?_
          refine r_iald (j := i) hx hb w (by have := Q.1; omega) Q.c2 hx2 (by omega) dX3_takeFrom_37 ?_
          refine r_iast (j := i) hx hb w (by have := P.1; omega) P.c2 hx2 (by omega) dX3_takeFrom_38 (fun h4 H locs eh4 w => ?_)
          have P := P.s2 eh4
          generalize egz5 : upd gk1 i (gk2 i) = gz5 at P
          have hfr : ∀ k_, ¬ (o ≤ k_ ∧ k_ < o + 9) → h4 k_ = h k_ := fun k_ hk_ => by rw [eh4, va_up_ne _ _ (by omega)]; exact hfr k_ hk_
          have Q := Q.fr (h' := h4) (fun k_ h1_ h2_ => by rw [eh4, va_up_ne _ _ (by omega)])
          refine lv_aload_n hx hb dX3_takeFrom_39 rfl (lv_at hl 0 rfl) ?_
          refine r_get (C := RX3) (T := TX3) (N := 5) (ci := 2) hx hb hts inX3_takeFrom_X3 hown w (by have := P.1; omega) P.c0 rfl 3 (by decide) (hts (Cond.fieldLink RX3 16 "EarlyValues$Program" "lengths" "[I") (List.mem_of_getElem? (i := 4) (by decide +kernel))) rfl rfl dX3_takeFrom_40 ?_
          refine lv_iload_n hx hb dX3_takeFrom_43 rfl (lv_at hl 2 rfl) ?_
          refine lv_aload_n hx hb dX3_takeFrom_44 rfl (lv_at hl 1 rfl) ?_
          refine r_get (C := RX3) (T := TX3) (N := 5) (ci := 2) hx hb hts inX3_takeFrom_X3 hown w (by have := Q.1; omega) Q.c0 rfl 3 (by decide) (hts (Cond.fieldLink RX3 16 "EarlyValues$Program" "lengths" "[I") (List.mem_of_getElem? (i := 4) (by decide +kernel))) rfl rfl dX3_takeFrom_45 ?_
          refine lv_iload_n hx hb dX3_takeFrom_48 rfl (lv_at hl 2 rfl) ?_
          refine r_iald (j := i) hx hb w (by have := Q.1; omega) Q.c3 hx2 (by omega) dX3_takeFrom_49 ?_
          refine r_iast (j := i) hx hb w (by have := P.1; omega) P.c3 hx2 (by omega) dX3_takeFrom_50 (fun h6 H locs eh6 w => ?_)
          have P := P.s3 eh6
          generalize egz7 : upd gl1 i (gl2 i) = gz7 at P
          have hfr : ∀ k_, ¬ (o ≤ k_ ∧ k_ < o + 9) → h6 k_ = h k_ := fun k_ hk_ => by rw [eh6, va_up_ne _ _ (by omega)]; exact hfr k_ hk_
          have Q := Q.fr (h' := h6) (fun k_ h1_ h2_ => by rw [eh6, va_up_ne _ _ (by omega)])
          refine lv_aload_n hx hb dX3_takeFrom_51 rfl (lv_at hl 1 rfl) ?_
          refine r_get (C := RX3) (T := TX3) (N := 5) (ci := 2) hx hb hts inX3_takeFrom_X3 hown w (by have := Q.1; omega) Q.c0 rfl 4 (by decide) (hts (Cond.fieldLink RX3 21 "EarlyValues$Program" "bodies" "[[I") (List.mem_of_getElem? (i := 5) (by decide +kernel))) rfl rfl dX3_takeFrom_52 ?_
          refine lv_iload_n hx hb dX3_takeFrom_55 rfl (lv_at hl 2 rfl) ?_
          refine r_aald (t := 4) (j := i) hx hb w (by decide) (by have := Q.1; omega) Q.c4 hx2 (by omega) (rowsF_in (by omega)) dX3_takeFrom_56 ?_
          refine lv_iconst (v := 0) hx hb dX3_takeFrom_57 (by decide) ?_
          refine lv_aload_n hx hb dX3_takeFrom_58 rfl (lv_at hl 0 rfl) ?_
          refine r_get (C := RX3) (T := TX3) (N := 5) (ci := 2) hx hb hts inX3_takeFrom_X3 hown w (by have := P.1; omega) P.c0 rfl 4 (by decide) (hts (Cond.fieldLink RX3 21 "EarlyValues$Program" "bodies" "[[I") (List.mem_of_getElem? (i := 5) (by decide +kernel))) rfl rfl dX3_takeFrom_59 ?_
          refine lv_iload_n hx hb dX3_takeFrom_62 rfl (lv_at hl 2 rfl) ?_
          refine r_aald (t := 4) (j := i) hx hb w (by decide) (by have := P.1; omega) P.c4 hx2 (by omega) (rowsF_in (by omega)) dX3_takeFrom_63 ?_
          refine lv_iconst (v := 0) hx hb dX3_takeFrom_64 (by decide) ?_
          refine lv_bipush (v := 24) hx hb dX3_takeFrom_65 (by decide) ?_
          refine r_copyi hx hb (hml.trans hl.1.symm) hown (hts (Cond.methodLink RX3 28 arraycopyName) (List.mem_of_getElem? (i := 6) (by decide +kernel))) (hts (Cond.native arraycopyName) (List.mem_of_getElem? (i := 7) (by decide +kernel))) (hts (Cond.static arraycopyName) (List.mem_of_getElem? (i := 8) (by decide +kernel))) (hts (Cond.initialized "java/lang/System") (List.mem_of_getElem? (i := 9) (by decide +kernel))) w (by have := Q.1; omega) (by have := P.1; omega) (Q.c5 (i := i) (by omega)) (P.c5 (i := i) (by omega)) (by decide : (0 : Int32).toInt = ((0 : Nat) : Int)) (by decide : (0 : Int32).toInt = ((0 : Nat) : Int)) (by decide : (24 : Int32).toInt = ((24 : Nat) : Int)) (by omega) (by omega) (Nat.le_of_ble_eq_true rfl) (Nat.le_of_ble_eq_true rfl) dX3_takeFrom_67 (fun h8 H locs eh8 w => ?_)
          have P := P.s5 (i := i) (by omega) eh8
          generalize egb9 : va_up gb1 i (va_cpy ((gb2 i)) ((gb1 i)) 0 0 24) = gb9 at P
          have hfr : ∀ k_, ¬ (o ≤ k_ ∧ k_ < o + 9) → h8 k_ = h k_ := fun k_ hk_ => by rw [eh8, va_up_ne _ _ (by omega)]; exact hfr k_ hk_
          have Q := Q.fr (h' := h8) (fun k_ h1_ h2_ => by rw [eh8, va_up_ne _ _ (by omega)])
          obtain ⟨y10, ey10⟩ : ∃ y : Int32, y = x2 + (1) := ⟨_, rfl⟩
          have ty10 : y10.toInt = (((i + 1) : Nat) : Int) := i_addN ey10 hx2 (by decide : (1 : Int32).toInt = ((1 : Nat) : Int)) (by omega)
          refine lv_iinc (v := y10) (lv' := [(2, .int y10), (0, .ref (g.2.2.1 o)), (1, .ref (g.2.2.1 o2))]) hx hb dX3_takeFrom_70 hl (k := 2) rfl (by rw [ey10]; rfl) (by decide) rfl (fun ls hl => ?_)
          refine lv_goto (tgt := 10) hx hb dX3_takeFrom_73 (by decide) ?_
          exact ih10 (i + 1) y10 gz3 gz5 gz7 gb9 h8 _ _ _ w (lv_sub hl [1, 2, 0] rfl) (by omega) ty10 (fun j_ hj_ => by rcases Nat.lt_succ_iff_lt_or_eq.mp hj_ with z_ | z_; exact tk_old hcp z_ egz3 egz5 egz7 egb9; rw [z_]; exact tk_new egz3 egz5 egz7 egb9) P Q hfr (by omega)
  have ih10 := cuts (5)
  refine lv_aload_n hx hb dX3_takeFrom_0 rfl (lv_at hl 0 rfl) ?_
  refine lv_aload_n hx hb dX3_takeFrom_1 rfl (lv_at hl 1 rfl) ?_
  refine r_get (C := RX3) (T := TX3) (N := 5) (ci := 2) hx hb hts inX3_takeFrom_X3 hown w (by have := Q.1; omega) Q.c0 rfl 0 (by decide) (hts (Cond.fieldLink RX3 24 "EarlyValues$Program" "functions" "I") (List.mem_of_getElem? (i := 1) (by decide +kernel))) rfl rfl dX3_takeFrom_2 ?_
  refine r_put (ty := .int) (C := RX3) (T := TX3) (N := 5) (ci := 2) hx hb hts inX3_takeFrom_X3 tyX3 tyX3_ok nmX3 hown w (by have := P.1; omega) P.c0 rfl 0 (by decide) (hts (Cond.fieldLink RX3 24 "EarlyValues$Program" "functions" "I") (List.mem_of_getElem? (i := 1) (by decide +kernel))) rfl rfl (by decide +kernel) rfl rfl (Nat.le_of_ble_eq_true rfl) dX3_takeFrom_5 (fun h11 H locs eh11 w => ?_)
  have P := P.s0 eh11
  have hfr : ∀ k_, ¬ (o ≤ k_ ∧ k_ < o + 9) → h11 k_ = h k_ := fun k_ hk_ => by rw [eh11, va_up_ne _ _ (by omega)]
  have Q := Q.fr (h' := h11) (fun k_ h1_ h2_ => by rw [eh11, va_up_ne _ _ (by omega)])
  refine lv_iconst (v := 0) hx hb dX3_takeFrom_8 (by decide) ?_
  refine lv_istore_n (lv' := [(2, .int 0), (0, .ref (g.2.2.1 o)), (1, .ref (g.2.2.1 o2))]) hx hb dX3_takeFrom_9 rfl hl (by decide) rfl (fun ls hl => ?_)
  exact ih10 0 0 ga gk gl gb h11 _ _ _ w (lv_sub hl [1, 2, 0] rfl) (by omega) ((by decide : (0 : Int32).toInt = ((0 : Nat) : Int))) (fun j_ hj_ => absurd hj_ (Nat.not_lt_zero _)) P Q hfr (by omega)

theorem inX3_allOf_X3 : ∀ w ∈ wsX30, w ∈ wsX3_allOf := by decide +kernel
abbrev rm_X3_allOf : Room := { frames := 0, cells := 0, slots := 0, locals := 0 }
set_option maxHeartbeats 4000000 in
set_option maxRecDepth 100000 in
theorem c_X3_allOf (l : Launch) {g : GE} {h : Nat → va_E} {o : Nat} {n : Int32} {ga gk gl : Nat → Int32} {gb : Nat → Nat → Int32} (P : PrA g h o n ga gk gl gb) {q : Nat} {gz : Nat → Int32} (A : RaA g h q 0 4 gz) {pn : Nat} {z : Nat → Nat} (hn : n.toInt = (pn : Int)) (hn4 : pn ≤ 4) (hz : ∀ i, i < pn → (gz i).toInt = (z i : Int) ∧ z i ≤ 24) : MI l yX3_allOf wsX3_allOf rm_X3_allOf [.ref (g.2.2.1 o), .ref (g.2.2.1 q)] g h (fun r h2 => h2 = h ∧ r.toInt = ((sm z pn : Nat) : Int)) := by
  refine Met.ofW (cc := cX3_allOf) (maxL := 4) (ret := (some .int)) (by decide) rfl ?_
  intro p e s m args below meth c s₁ B hml hv
  obtain ⟨rfl, w0⟩ := hv
  have hx := B.exec
  have hb := B.bytes
  have hr := B.returns
  have hts := atoms_spec (ws := wsX3_allOf) B.pre
  have hown : s.vm.findClass RX3 = some m.cls := findClass_of_methodNamed B.named
  have hlocks := B.notSynchronized
  have w := w0.start
  clear w0
  have hl := lv_entry ([.ref (g.2.2.1 o), .ref (g.2.2.1 q)]) (n := 4) (Nat.le_of_ble_eq_true rfl)
  rw [lg_entry_eq]
  generalize (lg_sl ([.ref (g.2.2.1 o), .ref (g.2.2.1 q)]) ++ List.replicate (4 - (lg_sl ([.ref (g.2.2.1 o), .ref (g.2.2.1 q)])).length) Slot.unset).toArray = ls at hl ⊢
  have hl : lv_has ls 4 [(0, .ref (g.2.2.1 o)), (1, .ref (g.2.2.1 q))] := hl
  have cuts : ∀ N : Nat, (∀ (i : Nat) (x2 : Int32) (x3 : Int32) (hc : Nat → va_E) (H : Heap) (locs : List Loc) (ls : Array Slot), WD g (inW g) s hc H locs → lv_has ls 4 [(0, .ref (g.2.2.1 o)), (1, .ref (g.2.2.1 q)), (2, .int x2), (3, .int x3)] → (i ≤ pn) → (x2.toInt = ((sm z i : Nat) : Int)) → (x3.toInt = ((i : Nat) : Int)) → (PrA g hc o n ga gk gl gb) → (RaA g hc q 0 4 gz) → (hc = h) → pn - i < N → W p l e (headSpec wsX3_allOf rm_X3_allOf).room s m ([.ref (g.2.2.1 o), .ref (g.2.2.1 q)] : List Value).toArray below meth c H locs 0 0 (MQ below (va_Qi (fun r h2 => h2 = h ∧ r.toInt = ((sm z pn : Nat) : Int)) (Wd g) (inW g)) ([.ref (g.2.2.1 o), .ref (g.2.2.1 q)] : List Value).toArray s 0 0 (inW g)) (F0 m 4 ls [])) := by
    intro N
    induction N with
    | zero => exact by intros; omega
    | succ N ih =>
      have ih4 := ih
      · intro i x2 x3 hc H locs ls w hl hi hx2 hx3 P A hh hN_
        refine lv_iload_n hx hb dX3_allOf_4 rfl (lv_at hl 3 rfl) ?_
        refine lv_aload_n hx hb dX3_allOf_5 rfl (lv_at hl 0 rfl) ?_
        refine r_get (C := RX3) (T := TX3) (N := 5) (ci := 2) hx hb hts inX3_allOf_X3 hown w (by have := P.1; omega) P.c0 rfl 0 (by decide) (hts (Cond.fieldLink RX3 24 "EarlyValues$Program" "functions" "I") (List.mem_of_getElem? (i := 1) (by decide +kernel))) rfl rfl dX3_allOf_6 ?_
        refine lv_icmp_ge (tgt := 30) hx hb dX3_allOf_9 (by decide) (fun c1 => ?_) (fun c1 => ?_)
        · have c1 : ((pn : Nat) : Int) ≤ ((i : Nat) : Int) := (i_le hn hx3).mp c1
          refine lv_iload_n hx hb dX3_allOf_30 rfl (lv_at hl 2 rfl) ?_
          refine r_iret (v := x2) hx hb hr hlocks w dX3_allOf_31 ?_
          exact ⟨hh, hx2.trans (by rw [show i = pn by omega])⟩
        · have c1 : ¬ (((pn : Nat) : Int) ≤ ((i : Nat) : Int)) := fun q => c1 ((i_le hn hx3).mpr q)
          have hzi := (hz i (by omega)).2
          have hsm := sm_ub (f := z) (c := 24) i (fun j_ hj_ => (hz j_ (by omega)).2)
          refine lv_iload_n hx hb dX3_allOf_12 rfl (lv_at hl 3 rfl) ?_
          refine lv_aload_n hx hb dX3_allOf_13 rfl (lv_at hl 1 rfl) ?_
          refine r_alen (t := 0) (v := 4) hx hb w (by decide) A.1 A.2 rfl dX3_allOf_14 ?_
          refine lv_icmp_ge (tgt := 30) hx hb dX3_allOf_15 (by decide) (fun c2 => ?_) (fun c2 => ?_)
          · have c2 : ((4 : Nat) : Int) ≤ ((i : Nat) : Int) := (i_le (by decide : (4 : Int32).toInt = ((4 : Nat) : Int)) hx3).mp c2
            exfalso; omega
          · have c2 : ¬ (((4 : Nat) : Int) ≤ ((i : Nat) : Int)) := fun q => c2 ((i_le (by decide : (4 : Int32).toInt = ((4 : Nat) : Int)) hx3).mpr q)
            refine lv_iload_n hx hb dX3_allOf_18 rfl (lv_at hl 2 rfl) ?_
            refine lv_aload_n hx hb dX3_allOf_19 rfl (lv_at hl 1 rfl) ?_
            refine lv_iload_n hx hb dX3_allOf_20 rfl (lv_at hl 3 rfl) ?_
            refine r_iald (j := i) hx hb w A.1 A.2 hx3 (by omega) dX3_allOf_21 ?_
            refine lv_iadd hx hb dX3_allOf_22 ?_
            refine lv_topi (fun y3 ey3 => ?_)
            have ty3 : y3.toInt = ((((sm z i) + (z i)) : Nat) : Int) := i_addN ey3 hx2 (hz i (by omega)).1 (by omega)
            refine lv_istore_n (lv' := [(2, .int y3), (0, .ref (g.2.2.1 o)), (1, .ref (g.2.2.1 q)), (3, .int x3)]) hx hb dX3_allOf_23 rfl hl (by decide) rfl (fun ls hl => ?_)
            obtain ⟨y4, ey4⟩ : ∃ y : Int32, y = x3 + (1) := ⟨_, rfl⟩
            have ty4 : y4.toInt = (((i + 1) : Nat) : Int) := i_addN ey4 hx3 (by decide : (1 : Int32).toInt = ((1 : Nat) : Int)) (by omega)
            refine lv_iinc (v := y4) (lv' := [(3, .int y4), (2, .int y3), (0, .ref (g.2.2.1 o)), (1, .ref (g.2.2.1 q))]) hx hb dX3_allOf_24 hl (k := 3) rfl (by rw [ey4]; rfl) (by decide) rfl (fun ls hl => ?_)
            refine lv_goto (tgt := 4) hx hb dX3_allOf_27 (by decide) ?_
            exact ih4 (i + 1) y3 y4 hc _ _ _ w (lv_sub hl [2, 3, 1, 0] rfl) (by omega) ty3 ty4 P A hh (by omega)
  have ih4 := cuts (5)
  refine lv_iconst (v := 0) hx hb dX3_allOf_0 (by decide) ?_
  refine lv_istore_n (lv' := [(2, .int 0), (0, .ref (g.2.2.1 o)), (1, .ref (g.2.2.1 q))]) hx hb dX3_allOf_1 rfl hl (by decide) rfl (fun ls hl => ?_)
  refine lv_iconst (v := 0) hx hb dX3_allOf_2 (by decide) ?_
  refine lv_istore_n (lv' := [(3, .int 0), (2, .int 0), (0, .ref (g.2.2.1 o)), (1, .ref (g.2.2.1 q))]) hx hb dX3_allOf_3 rfl hl (by decide) rfl (fun ls hl => ?_)
  exact ih4 0 0 0 h _ _ _ w (lv_sub hl [2, 3, 1, 0] rfl) (Nat.zero_le _) rfl ((by decide : (0 : Int32).toInt = ((0 : Nat) : Int))) P A rfl (by omega)

theorem inX1_clear_X1 : ∀ w ∈ wsX10, w ∈ wsX1_clear := by decide +kernel
abbrev rm_X1_clear : Room := { frames := 0, cells := 0, slots := 0, locals := 0 }
set_option maxHeartbeats 4000000 in
set_option maxRecDepth 100000 in
theorem c_X1_clear (l : Launch) {g : GE} {h : Nat → va_E} {t : Nat} {c : Int32} {gf gp gq : Nat → Int32} (K : HiA g h t c gf gp gq) : MV l yX1_clear wsX1_clear rm_X1_clear [.ref (g.2.2.1 t)] g h (fun h2 => (∀ k, ¬ (t ≤ k ∧ k < t + 4) → h2 k = h k) ∧ HiA g h2 t 0 gf gp gq) := by
  refine Met.ofW (cc := cX1_clear) (maxL := 1) (ret := none) (by decide) rfl ?_
  intro p e s m args below meth c s₁ B hml hv
  obtain ⟨rfl, w0⟩ := hv
  have hx := B.exec
  have hb := B.bytes
  have hr := B.returns
  have hts := atoms_spec (ws := wsX1_clear) B.pre
  have hown : s.vm.findClass RX1 = some m.cls := findClass_of_methodNamed B.named
  have hlocks := B.notSynchronized
  have w := w0.start
  clear w0
  have hl := lv_entry ([.ref (g.2.2.1 t)]) (n := 1) (Nat.le_of_ble_eq_true rfl)
  rw [lg_entry_eq]
  generalize (lg_sl ([.ref (g.2.2.1 t)]) ++ List.replicate (1 - (lg_sl ([.ref (g.2.2.1 t)])).length) Slot.unset).toArray = ls at hl ⊢
  have hl : lv_has ls 1 [(0, .ref (g.2.2.1 t))] := hl
  refine lv_aload_n hx hb dX1_clear_0 rfl (lv_at hl 0 rfl) ?_
  refine lv_iconst (v := 0) hx hb dX1_clear_1 (by decide) ?_
  refine r_put (ty := .int) (C := RX1) (T := TX1) (N := 4) (ci := 1) hx hb hts inX1_clear_X1 tyX1 tyX1_ok nmX1 hown w (by have := K.1; omega) K.2.1 rfl 3 (by decide) (hts (Cond.fieldLink RX1 19 "EarlyValues$History" "count" "I") (List.mem_of_getElem? (i := 1) (by decide +kernel))) rfl rfl (by decide +kernel) rfl rfl (Nat.le_of_ble_eq_true rfl) dX1_clear_2 (fun h1 H locs eh1 w => ?_)
  have K := K.s0 eh1
  have hfr : ∀ k_, ¬ (t ≤ k_ ∧ k_ < t + 4) → h1 k_ = h k_ := fun k_ hk_ => by rw [eh1, va_up_ne _ _ (by omega)]
  refine r_vret hx hb hr hlocks w dX1_clear_5 ?_
  exact ⟨hfr, K⟩

theorem inX1_add_X1 : ∀ w ∈ wsX10, w ∈ wsX1_add := by decide +kernel
abbrev rm_X1_add : Room := { frames := 1, cells := 0, slots := 0, locals := 20 }
set_option maxHeartbeats 4000000 in
set_option maxRecDepth 100000 in
theorem c_X1_add (l : Launch) {g : GE} {h : Nat → va_E} {t : Nat} {c : Int32} {gf gp gq : Nat → Int32} (K : HiA g h t c gf gp gq) {n : Nat} (hc : c.toInt = (n : Int)) (hn8 : n ≤ 8) (p0 p1 p2 : Int32) : MV l yX1_add wsX1_add rm_X1_add [.ref (g.2.2.1 t), .int p0, .int p1, .int p2] g h (fun h2 => (∀ k, ¬ (t ≤ k ∧ k < t + 4) → h2 k = h k) ∧ ∃ (c3 : Int32) (gf3 gp3 gq3 : Nat → Int32), HiA g h2 t c3 gf3 gp3 gq3 ∧ ((n < 8 ∧ c3.toInt = ((n + 1 : Nat) : Int) ∧ gf3 = upd gf n p0 ∧ gp3 = upd gp n p1 ∧ gq3 = upd gq n p2) ∨ (n = 8 ∧ c3.toInt = ((8 : Nat) : Int) ∧ gf3 = upd (va_cpy gf gf 1 0 7) 7 p0 ∧ gp3 = upd (va_cpy gp gp 1 0 7) 7 p1 ∧ gq3 = upd (va_cpy gq gq 1 0 7) 7 p2))) := by
  refine Met.ofW (cc := cX1_add) (maxL := 4) (ret := none) (by decide) rfl ?_
  intro p e s m args below meth c s₁ B hml hv
  obtain ⟨rfl, w0⟩ := hv
  have hx := B.exec
  have hb := B.bytes
  have hr := B.returns
  have hts := atoms_spec (ws := wsX1_add) B.pre
  have hown : s.vm.findClass RX1 = some m.cls := findClass_of_methodNamed B.named
  have hlocks := B.notSynchronized
  have w := w0.start
  clear w0
  have hl := lv_entry ([.ref (g.2.2.1 t), .int p0, .int p1, .int p2]) (n := 4) (Nat.le_of_ble_eq_true rfl)
  rw [lg_entry_eq]
  generalize (lg_sl ([.ref (g.2.2.1 t), .int p0, .int p1, .int p2]) ++ List.replicate (4 - (lg_sl ([.ref (g.2.2.1 t), .int p0, .int p1, .int p2])).length) Slot.unset).toArray = ls at hl ⊢
  have hl : lv_has ls 4 [(0, .ref (g.2.2.1 t)), (1, .int p0), (2, .int p1), (3, .int p2)] := hl
  refine lv_aload_n hx hb dX1_add_0 rfl (lv_at hl 0 rfl) ?_
  refine r_get (C := RX1) (T := TX1) (N := 4) (ci := 1) hx hb hts inX1_add_X1 hown w (by have := K.1; omega) K.2.1 rfl 3 (by decide) (hts (Cond.fieldLink RX1 19 "EarlyValues$History" "count" "I") (List.mem_of_getElem? (i := 1) (by decide +kernel))) rfl rfl dX1_add_1 ?_
  refine lv_bipush (v := 8) hx hb dX1_add_4 (by decide) ?_
  refine lv_icmp_lt (tgt := 66) hx hb dX1_add_6 (by decide) (fun c1 => ?_) (fun c1 => ?_)
  · have c1 : ((n : Nat) : Int) < ((8 : Nat) : Int) := (i_lt hc (by decide : (8 : Int32).toInt = ((8 : Nat) : Int))).mp c1
    refine lv_aload_n hx hb dX1_add_66 rfl (lv_at hl 0 rfl) ?_
    refine r_get (C := RX1) (T := TX1) (N := 4) (ci := 1) hx hb hts inX1_add_X1 hown w (by have := K.1; omega) K.2.1 rfl 0 (by decide) (hts (Cond.fieldLink RX1 9 "EarlyValues$History" "functions" "[I") (List.mem_of_getElem? (i := 2) (by decide +kernel))) rfl rfl dX1_add_67 ?_
    refine lv_aload_n hx hb dX1_add_70 rfl (lv_at hl 0 rfl) ?_
    refine r_get (C := RX1) (T := TX1) (N := 4) (ci := 1) hx hb hts inX1_add_X1 hown w (by have := K.1; omega) K.2.1 rfl 3 (by decide) (hts (Cond.fieldLink RX1 19 "EarlyValues$History" "count" "I") (List.mem_of_getElem? (i := 1) (by decide +kernel))) rfl rfl dX1_add_71 ?_
    refine lv_iload_n hx hb dX1_add_74 rfl (lv_at hl 1 rfl) ?_
    refine r_iast (j := n) hx hb w (by have := K.1; omega) K.2.2.1 hc (by omega) dX1_add_75 (fun h2 H locs eh2 w => ?_)
    have K := K.s1 eh2
    generalize egz3 : upd gf n p0 = gz3 at K
    have hfr : ∀ k_, ¬ (t ≤ k_ ∧ k_ < t + 4) → h2 k_ = h k_ := fun k_ hk_ => by rw [eh2, va_up_ne _ _ (by omega)]
    refine lv_aload_n hx hb dX1_add_76 rfl (lv_at hl 0 rfl) ?_
    refine r_get (C := RX1) (T := TX1) (N := 4) (ci := 1) hx hb hts inX1_add_X1 hown w (by have := K.1; omega) K.2.1 rfl 1 (by decide) (hts (Cond.fieldLink RX1 13 "EarlyValues$History" "places" "[I") (List.mem_of_getElem? (i := 7) (by decide +kernel))) rfl rfl dX1_add_77 ?_
    refine lv_aload_n hx hb dX1_add_80 rfl (lv_at hl 0 rfl) ?_
    refine r_get (C := RX1) (T := TX1) (N := 4) (ci := 1) hx hb hts inX1_add_X1 hown w (by have := K.1; omega) K.2.1 rfl 3 (by decide) (hts (Cond.fieldLink RX1 19 "EarlyValues$History" "count" "I") (List.mem_of_getElem? (i := 1) (by decide +kernel))) rfl rfl dX1_add_81 ?_
    refine lv_iload_n hx hb dX1_add_84 rfl (lv_at hl 2 rfl) ?_
    refine r_iast (j := n) hx hb w (by have := K.1; omega) K.2.2.2.1 hc (by omega) dX1_add_85 (fun h4 H locs eh4 w => ?_)
    have K := K.s2 eh4
    generalize egz5 : upd gp n p1 = gz5 at K
    have hfr : ∀ k_, ¬ (t ≤ k_ ∧ k_ < t + 4) → h4 k_ = h k_ := fun k_ hk_ => by rw [eh4, va_up_ne _ _ (by omega)]; exact hfr k_ hk_
    refine lv_aload_n hx hb dX1_add_86 rfl (lv_at hl 0 rfl) ?_
    refine r_get (C := RX1) (T := TX1) (N := 4) (ci := 1) hx hb hts inX1_add_X1 hown w (by have := K.1; omega) K.2.1 rfl 2 (by decide) (hts (Cond.fieldLink RX1 16 "EarlyValues$History" "befores" "[I") (List.mem_of_getElem? (i := 8) (by decide +kernel))) rfl rfl dX1_add_87 ?_
    refine lv_aload_n hx hb dX1_add_90 rfl (lv_at hl 0 rfl) ?_
    refine r_get (C := RX1) (T := TX1) (N := 4) (ci := 1) hx hb hts inX1_add_X1 hown w (by have := K.1; omega) K.2.1 rfl 3 (by decide) (hts (Cond.fieldLink RX1 19 "EarlyValues$History" "count" "I") (List.mem_of_getElem? (i := 1) (by decide +kernel))) rfl rfl dX1_add_91 ?_
    refine lv_iload_n hx hb dX1_add_94 rfl (lv_at hl 3 rfl) ?_
    refine r_iast (j := n) hx hb w (by have := K.1; omega) K.2.2.2.2 hc (by omega) dX1_add_95 (fun h6 H locs eh6 w => ?_)
    have K := K.s3 eh6
    generalize egz7 : upd gq n p2 = gz7 at K
    have hfr : ∀ k_, ¬ (t ≤ k_ ∧ k_ < t + 4) → h6 k_ = h k_ := fun k_ hk_ => by rw [eh6, va_up_ne _ _ (by omega)]; exact hfr k_ hk_
    refine lv_aload_n hx hb dX1_add_96 rfl (lv_at hl 0 rfl) ?_
    refine lv_dup hx hb dX1_add_97 rfl ?_
    refine r_get (C := RX1) (T := TX1) (N := 4) (ci := 1) hx hb hts inX1_add_X1 hown w (by have := K.1; omega) K.2.1 rfl 3 (by decide) (hts (Cond.fieldLink RX1 19 "EarlyValues$History" "count" "I") (List.mem_of_getElem? (i := 1) (by decide +kernel))) rfl rfl dX1_add_98 ?_
    refine lv_iconst (v := 1) hx hb dX1_add_101 (by decide) ?_
    refine lv_iadd hx hb dX1_add_102 ?_
    refine lv_topi (fun y8 ey8 => ?_)
    have ty8 : y8.toInt = (((n + 1) : Nat) : Int) := i_addN ey8 hc (by decide : (1 : Int32).toInt = ((1 : Nat) : Int)) (by omega)
    refine r_put (ty := .int) (C := RX1) (T := TX1) (N := 4) (ci := 1) hx hb hts inX1_add_X1 tyX1 tyX1_ok nmX1 hown w (by have := K.1; omega) K.2.1 rfl 3 (by decide) (hts (Cond.fieldLink RX1 19 "EarlyValues$History" "count" "I") (List.mem_of_getElem? (i := 1) (by decide +kernel))) rfl rfl (by decide +kernel) rfl rfl (Nat.le_of_ble_eq_true rfl) dX1_add_103 (fun h9 H locs eh9 w => ?_)
    have K := K.s0 eh9
    have hfr : ∀ k_, ¬ (t ≤ k_ ∧ k_ < t + 4) → h9 k_ = h k_ := fun k_ hk_ => by rw [eh9, va_up_ne _ _ (by omega)]; exact hfr k_ hk_
    refine r_vret hx hb hr hlocks w dX1_add_106 ?_
    refine ⟨hfr, _, _, _, _, K, Or.inl ⟨by omega, ty8.trans (by omega), by first | rfl | exact egz3.symm, by first | rfl | exact egz5.symm, by first | rfl | exact egz7.symm⟩⟩
  · have c1 : ¬ (((n : Nat) : Int) < ((8 : Nat) : Int)) := fun q => c1 ((i_lt hc (by decide : (8 : Int32).toInt = ((8 : Nat) : Int))).mpr q)
    refine lv_aload_n hx hb dX1_add_9 rfl (lv_at hl 0 rfl) ?_
    refine lv_bipush (v := 7) hx hb dX1_add_10 (by decide) ?_
    refine r_put (ty := .int) (C := RX1) (T := TX1) (N := 4) (ci := 1) hx hb hts inX1_add_X1 tyX1 tyX1_ok nmX1 hown w (by have := K.1; omega) K.2.1 rfl 3 (by decide) (hts (Cond.fieldLink RX1 19 "EarlyValues$History" "count" "I") (List.mem_of_getElem? (i := 1) (by decide +kernel))) rfl rfl (by decide +kernel) rfl rfl (Nat.le_of_ble_eq_true rfl) dX1_add_12 (fun h10 H locs eh10 w => ?_)
    have K := K.s0 eh10
    have hfr : ∀ k_, ¬ (t ≤ k_ ∧ k_ < t + 4) → h10 k_ = h k_ := fun k_ hk_ => by rw [eh10, va_up_ne _ _ (by omega)]
    refine lv_aload_n hx hb dX1_add_15 rfl (lv_at hl 0 rfl) ?_
    refine r_get (C := RX1) (T := TX1) (N := 4) (ci := 1) hx hb hts inX1_add_X1 hown w (by have := K.1; omega) K.2.1 rfl 0 (by decide) (hts (Cond.fieldLink RX1 9 "EarlyValues$History" "functions" "[I") (List.mem_of_getElem? (i := 2) (by decide +kernel))) rfl rfl dX1_add_16 ?_
    refine lv_iconst (v := 1) hx hb dX1_add_19 (by decide) ?_
    refine lv_aload_n hx hb dX1_add_20 rfl (lv_at hl 0 rfl) ?_
    refine r_get (C := RX1) (T := TX1) (N := 4) (ci := 1) hx hb hts inX1_add_X1 hown w (by have := K.1; omega) K.2.1 rfl 0 (by decide) (hts (Cond.fieldLink RX1 9 "EarlyValues$History" "functions" "[I") (List.mem_of_getElem? (i := 2) (by decide +kernel))) rfl rfl dX1_add_21 ?_
    refine lv_iconst (v := 0) hx hb dX1_add_24 (by decide) ?_
    refine lv_aload_n hx hb dX1_add_25 rfl (lv_at hl 0 rfl) ?_
    refine r_get (C := RX1) (T := TX1) (N := 4) (ci := 1) hx hb hts inX1_add_X1 hown w (by have := K.1; omega) K.2.1 rfl 3 (by decide) (hts (Cond.fieldLink RX1 19 "EarlyValues$History" "count" "I") (List.mem_of_getElem? (i := 1) (by decide +kernel))) rfl rfl dX1_add_26 ?_
    refine r_copyi hx hb (hml.trans hl.1.symm) hown (hts (Cond.methodLink RX1 23 arraycopyName) (List.mem_of_getElem? (i := 3) (by decide +kernel))) (hts (Cond.native arraycopyName) (List.mem_of_getElem? (i := 4) (by decide +kernel))) (hts (Cond.static arraycopyName) (List.mem_of_getElem? (i := 5) (by decide +kernel))) (hts (Cond.initialized "java/lang/System") (List.mem_of_getElem? (i := 6) (by decide +kernel))) w (by have := K.1; omega) (by have := K.1; omega) K.2.2.1 K.2.2.1 (by decide : (1 : Int32).toInt = ((1 : Nat) : Int)) (by decide : (0 : Int32).toInt = ((0 : Nat) : Int)) (by decide : (7 : Int32).toInt = ((7 : Nat) : Int)) (by omega) (by omega) (Nat.le_of_ble_eq_true rfl) (Nat.le_of_ble_eq_true rfl) dX1_add_29 (fun h11 H locs eh11 w => ?_)
    have K := K.s1 eh11
    generalize egz12 : va_cpy gf gf 1 0 7 = gz12 at K
    have hfr : ∀ k_, ¬ (t ≤ k_ ∧ k_ < t + 4) → h11 k_ = h k_ := fun k_ hk_ => by rw [eh11, va_up_ne _ _ (by omega)]; exact hfr k_ hk_
    refine lv_aload_n hx hb dX1_add_32 rfl (lv_at hl 0 rfl) ?_
    refine r_get (C := RX1) (T := TX1) (N := 4) (ci := 1) hx hb hts inX1_add_X1 hown w (by have := K.1; omega) K.2.1 rfl 1 (by decide) (hts (Cond.fieldLink RX1 13 "EarlyValues$History" "places" "[I") (List.mem_of_getElem? (i := 7) (by decide +kernel))) rfl rfl dX1_add_33 ?_
    refine lv_iconst (v := 1) hx hb dX1_add_36 (by decide) ?_
    refine lv_aload_n hx hb dX1_add_37 rfl (lv_at hl 0 rfl) ?_
    refine r_get (C := RX1) (T := TX1) (N := 4) (ci := 1) hx hb hts inX1_add_X1 hown w (by have := K.1; omega) K.2.1 rfl 1 (by decide) (hts (Cond.fieldLink RX1 13 "EarlyValues$History" "places" "[I") (List.mem_of_getElem? (i := 7) (by decide +kernel))) rfl rfl dX1_add_38 ?_
    refine lv_iconst (v := 0) hx hb dX1_add_41 (by decide) ?_
    refine lv_aload_n hx hb dX1_add_42 rfl (lv_at hl 0 rfl) ?_
    refine r_get (C := RX1) (T := TX1) (N := 4) (ci := 1) hx hb hts inX1_add_X1 hown w (by have := K.1; omega) K.2.1 rfl 3 (by decide) (hts (Cond.fieldLink RX1 19 "EarlyValues$History" "count" "I") (List.mem_of_getElem? (i := 1) (by decide +kernel))) rfl rfl dX1_add_43 ?_
    refine r_copyi hx hb (hml.trans hl.1.symm) hown (hts (Cond.methodLink RX1 23 arraycopyName) (List.mem_of_getElem? (i := 3) (by decide +kernel))) (hts (Cond.native arraycopyName) (List.mem_of_getElem? (i := 4) (by decide +kernel))) (hts (Cond.static arraycopyName) (List.mem_of_getElem? (i := 5) (by decide +kernel))) (hts (Cond.initialized "java/lang/System") (List.mem_of_getElem? (i := 6) (by decide +kernel))) w (by have := K.1; omega) (by have := K.1; omega) K.2.2.2.1 K.2.2.2.1 (by decide : (1 : Int32).toInt = ((1 : Nat) : Int)) (by decide : (0 : Int32).toInt = ((0 : Nat) : Int)) (by decide : (7 : Int32).toInt = ((7 : Nat) : Int)) (by omega) (by omega) (Nat.le_of_ble_eq_true rfl) (Nat.le_of_ble_eq_true rfl) dX1_add_46 (fun h13 H locs eh13 w => ?_)
    have K := K.s2 eh13
    generalize egz14 : va_cpy gp gp 1 0 7 = gz14 at K
    have hfr : ∀ k_, ¬ (t ≤ k_ ∧ k_ < t + 4) → h13 k_ = h k_ := fun k_ hk_ => by rw [eh13, va_up_ne _ _ (by omega)]; exact hfr k_ hk_
    refine lv_aload_n hx hb dX1_add_49 rfl (lv_at hl 0 rfl) ?_
    refine r_get (C := RX1) (T := TX1) (N := 4) (ci := 1) hx hb hts inX1_add_X1 hown w (by have := K.1; omega) K.2.1 rfl 2 (by decide) (hts (Cond.fieldLink RX1 16 "EarlyValues$History" "befores" "[I") (List.mem_of_getElem? (i := 8) (by decide +kernel))) rfl rfl dX1_add_50 ?_
    refine lv_iconst (v := 1) hx hb dX1_add_53 (by decide) ?_
    refine lv_aload_n hx hb dX1_add_54 rfl (lv_at hl 0 rfl) ?_
    refine r_get (C := RX1) (T := TX1) (N := 4) (ci := 1) hx hb hts inX1_add_X1 hown w (by have := K.1; omega) K.2.1 rfl 2 (by decide) (hts (Cond.fieldLink RX1 16 "EarlyValues$History" "befores" "[I") (List.mem_of_getElem? (i := 8) (by decide +kernel))) rfl rfl dX1_add_55 ?_
    refine lv_iconst (v := 0) hx hb dX1_add_58 (by decide) ?_
    refine lv_aload_n hx hb dX1_add_59 rfl (lv_at hl 0 rfl) ?_
    refine r_get (C := RX1) (T := TX1) (N := 4) (ci := 1) hx hb hts inX1_add_X1 hown w (by have := K.1; omega) K.2.1 rfl 3 (by decide) (hts (Cond.fieldLink RX1 19 "EarlyValues$History" "count" "I") (List.mem_of_getElem? (i := 1) (by decide +kernel))) rfl rfl dX1_add_60 ?_
    refine r_copyi hx hb (hml.trans hl.1.symm) hown (hts (Cond.methodLink RX1 23 arraycopyName) (List.mem_of_getElem? (i := 3) (by decide +kernel))) (hts (Cond.native arraycopyName) (List.mem_of_getElem? (i := 4) (by decide +kernel))) (hts (Cond.static arraycopyName) (List.mem_of_getElem? (i := 5) (by decide +kernel))) (hts (Cond.initialized "java/lang/System") (List.mem_of_getElem? (i := 6) (by decide +kernel))) w (by have := K.1; omega) (by have := K.1; omega) K.2.2.2.2 K.2.2.2.2 (by decide : (1 : Int32).toInt = ((1 : Nat) : Int)) (by decide : (0 : Int32).toInt = ((0 : Nat) : Int)) (by decide : (7 : Int32).toInt = ((7 : Nat) : Int)) (by omega) (by omega) (Nat.le_of_ble_eq_true rfl) (Nat.le_of_ble_eq_true rfl) dX1_add_63 (fun h15 H locs eh15 w => ?_)
    have K := K.s3 eh15
    generalize egz16 : va_cpy gq gq 1 0 7 = gz16 at K
    have hfr : ∀ k_, ¬ (t ≤ k_ ∧ k_ < t + 4) → h15 k_ = h k_ := fun k_ hk_ => by rw [eh15, va_up_ne _ _ (by omega)]; exact hfr k_ hk_
    refine lv_aload_n hx hb dX1_add_66 rfl (lv_at hl 0 rfl) ?_
    refine r_get (C := RX1) (T := TX1) (N := 4) (ci := 1) hx hb hts inX1_add_X1 hown w (by have := K.1; omega) K.2.1 rfl 0 (by decide) (hts (Cond.fieldLink RX1 9 "EarlyValues$History" "functions" "[I") (List.mem_of_getElem? (i := 2) (by decide +kernel))) rfl rfl dX1_add_67 ?_
    refine lv_aload_n hx hb dX1_add_70 rfl (lv_at hl 0 rfl) ?_
    refine r_get (C := RX1) (T := TX1) (N := 4) (ci := 1) hx hb hts inX1_add_X1 hown w (by have := K.1; omega) K.2.1 rfl 3 (by decide) (hts (Cond.fieldLink RX1 19 "EarlyValues$History" "count" "I") (List.mem_of_getElem? (i := 1) (by decide +kernel))) rfl rfl dX1_add_71 ?_
    refine lv_iload_n hx hb dX1_add_74 rfl (lv_at hl 1 rfl) ?_
    refine r_iast (j := 7) hx hb w (by have := K.1; omega) K.2.2.1 (by decide : (7 : Int32).toInt = ((7 : Nat) : Int)) (by omega) dX1_add_75 (fun h17 H locs eh17 w => ?_)
    have K := K.s1 eh17
    generalize egz18 : upd gz12 7 p0 = gz18 at K
    have hfr : ∀ k_, ¬ (t ≤ k_ ∧ k_ < t + 4) → h17 k_ = h k_ := fun k_ hk_ => by rw [eh17, va_up_ne _ _ (by omega)]; exact hfr k_ hk_
    refine lv_aload_n hx hb dX1_add_76 rfl (lv_at hl 0 rfl) ?_
    refine r_get (C := RX1) (T := TX1) (N := 4) (ci := 1) hx hb hts inX1_add_X1 hown w (by have := K.1; omega) K.2.1 rfl 1 (by decide) (hts (Cond.fieldLink RX1 13 "EarlyValues$History" "places" "[I") (List.mem_of_getElem? (i := 7) (by decide +kernel))) rfl rfl dX1_add_77 ?_
    refine lv_aload_n hx hb dX1_add_80 rfl (lv_at hl 0 rfl) ?_
    refine r_get (C := RX1) (T := TX1) (N := 4) (ci := 1) hx hb hts inX1_add_X1 hown w (by have := K.1; omega) K.2.1 rfl 3 (by decide) (hts (Cond.fieldLink RX1 19 "EarlyValues$History" "count" "I") (List.mem_of_getElem? (i := 1) (by decide +kernel))) rfl rfl dX1_add_81 ?_
    refine lv_iload_n hx hb dX1_add_84 rfl (lv_at hl 2 rfl) ?_
    refine r_iast (j := 7) hx hb w (by have := K.1; omega) K.2.2.2.1 (by decide : (7 : Int32).toInt = ((7 : Nat) : Int)) (by omega) dX1_add_85 (fun h19 H locs eh19 w => ?_)
    have K := K.s2 eh19
    generalize egz20 : upd gz14 7 p1 = gz20 at K
    have hfr : ∀ k_, ¬ (t ≤ k_ ∧ k_ < t + 4) → h19 k_ = h k_ := fun k_ hk_ => by rw [eh19, va_up_ne _ _ (by omega)]; exact hfr k_ hk_
    refine lv_aload_n hx hb dX1_add_86 rfl (lv_at hl 0 rfl) ?_
    refine r_get (C := RX1) (T := TX1) (N := 4) (ci := 1) hx hb hts inX1_add_X1 hown w (by have := K.1; omega) K.2.1 rfl 2 (by decide) (hts (Cond.fieldLink RX1 16 "EarlyValues$History" "befores" "[I") (List.mem_of_getElem? (i := 8) (by decide +kernel))) rfl rfl dX1_add_87 ?_
    refine lv_aload_n hx hb dX1_add_90 rfl (lv_at hl 0 rfl) ?_
    refine r_get (C := RX1) (T := TX1) (N := 4) (ci := 1) hx hb hts inX1_add_X1 hown w (by have := K.1; omega) K.2.1 rfl 3 (by decide) (hts (Cond.fieldLink RX1 19 "EarlyValues$History" "count" "I") (List.mem_of_getElem? (i := 1) (by decide +kernel))) rfl rfl dX1_add_91 ?_
    refine lv_iload_n hx hb dX1_add_94 rfl (lv_at hl 3 rfl) ?_
    refine r_iast (j := 7) hx hb w (by have := K.1; omega) K.2.2.2.2 (by decide : (7 : Int32).toInt = ((7 : Nat) : Int)) (by omega) dX1_add_95 (fun h21 H locs eh21 w => ?_)
    have K := K.s3 eh21
    generalize egz22 : upd gz16 7 p2 = gz22 at K
    have hfr : ∀ k_, ¬ (t ≤ k_ ∧ k_ < t + 4) → h21 k_ = h k_ := fun k_ hk_ => by rw [eh21, va_up_ne _ _ (by omega)]; exact hfr k_ hk_
    refine lv_aload_n hx hb dX1_add_96 rfl (lv_at hl 0 rfl) ?_
    refine lv_dup hx hb dX1_add_97 rfl ?_
    refine r_get (C := RX1) (T := TX1) (N := 4) (ci := 1) hx hb hts inX1_add_X1 hown w (by have := K.1; omega) K.2.1 rfl 3 (by decide) (hts (Cond.fieldLink RX1 19 "EarlyValues$History" "count" "I") (List.mem_of_getElem? (i := 1) (by decide +kernel))) rfl rfl dX1_add_98 ?_
    refine lv_iconst (v := 1) hx hb dX1_add_101 (by decide) ?_
    refine lv_iadd hx hb dX1_add_102 ?_
    refine lv_topi (fun y23 ey23 => ?_)
    have ty23 : y23.toInt = (((7 + 1) : Nat) : Int) := i_addN ey23 (by decide : (7 : Int32).toInt = ((7 : Nat) : Int)) (by decide : (1 : Int32).toInt = ((1 : Nat) : Int)) (by omega)
    refine r_put (ty := .int) (C := RX1) (T := TX1) (N := 4) (ci := 1) hx hb hts inX1_add_X1 tyX1 tyX1_ok nmX1 hown w (by have := K.1; omega) K.2.1 rfl 3 (by decide) (hts (Cond.fieldLink RX1 19 "EarlyValues$History" "count" "I") (List.mem_of_getElem? (i := 1) (by decide +kernel))) rfl rfl (by decide +kernel) rfl rfl (Nat.le_of_ble_eq_true rfl) dX1_add_103 (fun h24 H locs eh24 w => ?_)
    have K := K.s0 eh24
    have hfr : ∀ k_, ¬ (t ≤ k_ ∧ k_ < t + 4) → h24 k_ = h k_ := fun k_ hk_ => by rw [eh24, va_up_ne _ _ (by omega)]; exact hfr k_ hk_
    refine r_vret hx hb hr hlocks w dX1_add_106 ?_
    refine ⟨hfr, _, _, _, _, K, Or.inr ⟨by omega, ty23.trans (by omega), ?_, ?_, ?_⟩⟩
    all_goals (subst_vars; rfl)

