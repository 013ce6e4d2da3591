-- ===== THE START: classes, array classes, texts, an empty world =====
theorem arr_of {args : Array Value} {s : State} {ty : FieldType} (h : (Cond.arrayClass ty).before args s = true) : ∃ cA, ArrOfT s cA ty ∧ s.vm.findClass ("[" ++ ty.toString) = some cA := by
  obtain ⟨cA, kA, comp, h1, h2, h3⟩ := Cond.arrayClass_spec h
  exact ⟨cA, fun n z => ⟨(fun k h => by cases h), kA, h2, comp, h3⟩, h1⟩
theorem arr_obj {s : State} {C : String} (h : va_AO C s) : ∃ cA, ArrOfT s cA (.object C) ∧ va_RA s cA (.object C) := by
  obtain ⟨comp, c, k, h1, -, h3, h4, h5⟩ := Cond.arrayOver_spec h
  exact ⟨c, fun n z => ⟨(fun k h => by cases h), k, h3, comp, h4⟩, k, comp, h3, h4, h1, h5⟩
theorem arr_arr {s : State} {t : FieldType} (h : va_AOA t s) : ∃ cA, ArrOfT s cA (.array t) ∧ s.vm.findClass ("[" ++ (FieldType.array t).toString) = some cA := by
  have h0 : (Cond.arrayOver (.array t)).holds #[] s none s [] = true := h
  simp only [Cond.holds, Cond.value, beq_iff_eq] at h0
  cases hc : s.vm.findClass (FieldType.array t).toString with
  | none => simp [hc] at h0
  | some comp =>
    simp only [hc, Option.bind_some, Option.bind_eq_some_iff, Option.map_eq_some_iff] at h0
    obtain ⟨c, hi, k, hk, hb⟩ := h0
    obtain ⟨hlt, hp, -⟩ := Array.findIdx?_eq_some_iff_getElem.mp hi
    have hkk : s.vm.classes[c] = k := (Array.getElem?_eq_some_iff.mp hk).2
    rw [hkk] at hp
    cases hkind : k.kind with
    | array component ty =>
      rw [hkind] at hb hp
      simp at hb hp
      exact ⟨c, fun n z => ⟨(fun k h => by cases h), k, hk, comp, by rw [hkind, hp, hb.1]⟩, hb.2⟩
    | _ => rw [hkind] at hb; simp at hb
set_option maxRecDepth 20000 in
theorem st_cl : (Cond.instantiable RX0 13 ∈ lw_tbl ∧ Cond.instantiable RX1 4 ∈ lw_tbl ∧ Cond.instantiable RX3 5 ∈ lw_tbl ∧ Cond.instantiable RX4 13 ∈ lw_tbl) ∧ (Cond.instantiable RX5 5 ∈ lw_tbl ∧ Cond.instantiable RX6 13 ∈ lw_tbl ∧ Cond.instantiable RX8 11 ∈ lw_tbl) := by decide +kernel
set_option maxRecDepth 20000 in
theorem st_ar : Cond.arrayClass .int ∈ lw_tbl ∧ Cond.arrayClass .char ∈ lw_tbl ∧ Cond.arrayClass .byte ∈ lw_tbl ∧ Cond.arrayOver (.object "EarlyValues$Program") ∈ lw_tbl ∧ Cond.arrayOver (.array .int) ∈ lw_tbl ∧ Cond.arrayOver (.array .byte) ∈ lw_tbl := by decide +kernel
theorem st_K {args : Array Value} {s : State} (hts : ∀ w ∈ lw_tbl, w.before args s = true) (htl : ∀ w ∈ wsL_law, w.before args s = true) : ∃ (D : va_G) (cT : Nat → ClassId), va_K D vwCl (TYS cT) s := by
  obtain ⟨c0, i0, k0⟩ := u_known htl inlX0 (hts _ st_cl.1.1)
  obtain ⟨c1, i1, k1⟩ := u_known htl inlX1 (hts _ st_cl.1.2.1)
  obtain ⟨c3, i3, k3⟩ := u_known htl inlX3 (hts _ st_cl.1.2.2.1)
  obtain ⟨c4, i4, k4⟩ := u_known htl inlX4 (hts _ st_cl.1.2.2.2)
  obtain ⟨c5, i5, k5⟩ := u_known htl inlX5 (hts _ st_cl.2.1)
  obtain ⟨c6, i6, k6⟩ := u_known htl inlX6 (hts _ st_cl.2.2.1)
  obtain ⟨c8, i8, k8⟩ := u_known htl inlX8 (hts _ st_cl.2.2.2)
  obtain ⟨a0, b0, d0⟩ := arr_of (hts _ st_ar.1)
  obtain ⟨a1, b1, d1⟩ := arr_of (hts _ st_ar.2.1)
  obtain ⟨a2, b2, d2⟩ := arr_of (hts _ st_ar.2.2.1)
  obtain ⟨a3, b3, d3⟩ := arr_obj (va_AO.of (hts _ st_ar.2.2.2.1))
  obtain ⟨a4, b4, d4⟩ := arr_arr (va_AOA.of (hts _ st_ar.2.2.2.2.1))
  obtain ⟨a5, b5, d5⟩ := arr_arr (va_AOA.of (hts _ st_ar.2.2.2.2.2))
  refine ⟨(fun c => match c with | 0 => c0 | 1 => c1 | 2 => c3 | 3 => c4 | 4 => c5 | 5 => c6 | _ => c8, fun c => match c with | 0 => i0 | 1 => i1 | 2 => i3 | 3 => i4 | 4 => i5 | 5 => i6 | _ => i8), fun k => match k with | 0 => a0 | 1 => a1 | 2 => a2 | 3 => a3 | 4 => a4 | _ => a5, ?_, ?_⟩
  · intro c q hq
    have hc : c < 7 := (List.getElem?_eq_some_iff.mp hq).1
    rcases (show c = 0 ∨ c = 1 ∨ c = 2 ∨ c = 3 ∨ c = 4 ∨ c = 5 ∨ c = 6 by omega) with rfl | rfl | rfl | rfl | rfl | rfl | rfl
    · obtain rfl := Option.some.inj (hq : some _ = some q); exact k0
    · obtain rfl := Option.some.inj (hq : some _ = some q); exact k1
    · obtain rfl := Option.some.inj (hq : some _ = some q); exact k3
    · obtain rfl := Option.some.inj (hq : some _ = some q); exact k4
    · obtain rfl := Option.some.inj (hq : some _ = some q); exact k5
    · obtain rfl := Option.some.inj (hq : some _ = some q); exact k6
    · obtain rfl := Option.some.inj (hq : some _ = some q); exact k8
  · intro c q hq
    have hc : c < 6 := (List.getElem?_eq_some_iff.mp hq).1
    rcases (show c = 0 ∨ c = 1 ∨ c = 2 ∨ c = 3 ∨ c = 4 ∨ c = 5 by omega) with rfl | rfl | rfl | rfl | rfl | rfl
    · obtain rfl := Option.some.inj (hq : some _ = some q); exact ⟨b0, d0⟩
    · obtain rfl := Option.some.inj (hq : some _ = some q); exact ⟨b1, d1⟩
    · obtain rfl := Option.some.inj (hq : some _ = some q); exact ⟨b2, d2⟩
    · obtain rfl := Option.some.inj (hq : some _ = some q); exact ⟨b3, d3⟩
    · obtain rfl := Option.some.inj (hq : some _ = some q); exact ⟨b4, d4⟩
    · obtain rfl := Option.some.inj (hq : some _ = some q); exact ⟨b5, d5⟩
theorem st_X {args : Array Value} {s : State} (hts : ∀ w ∈ lw_tbl, w.before args s = true) : AOX s := ⟨va_AOA.of (hts _ st_ar.2.2.2.2.1), va_AOA.of (hts _ st_ar.2.2.2.2.2), va_AO.of (hts _ st_ar.2.2.2.1)⟩
-- the two texts
def stm (i : Nat) : Term := match i with | 0 => .string "EarlyValues" 65 | _ => .string "EarlyValues$Letters" 11
abbrev stv (i : Nat) : Term := .field (stm i) "java/lang/String" "value" "[B"
abbrev stN : List Cond := flatC (Jvm.Cond.and given_1 narrow_1)
set_option maxRecDepth 20000 in
theorem st_s0 : ∀ i : Nat, i < 2 → Cond.exactly (stm i) "java/lang/String" ∈ stN ∧ Cond.eq (.field (stm i) "java/lang/String" "coder" "B") (.int 0) ∈ stN ∧ Cond.arrayOf (stv i) .byte ∈ stN ∧ Cond.eq (.length (stv i)) (.int (Int32.ofNat (tlen.getD i 0))) ∈ stN := by decide +kernel
set_option maxRecDepth 20000 in
theorem st_s1 : ∀ i : Nat, i < 2 → ∀ j : Nat, j < tlen.getD i 0 → Cond.eq (.elem (stv i) (.int (Int32.ofNat j))) (.int ((tbyt.getD i []).getD j 0)) ∈ stN := by decide +kernel
set_option maxRecDepth 20000 in
theorem st_s2 : Cond.not (Cond.eq (stm 0) (stm 1)) ∈ stN ∨ Cond.not (Cond.eq (stm 1) (stm 0)) ∈ stN := by decide +kernel
set_option maxRecDepth 20000 in
theorem st_s3 : Cond.eq (.static "java/lang/String" "COMPACT_STRINGS" "Z") (.int 1) ∈ stN ∧ Cond.isRef (.static "jdk/internal/util/Preconditions" "SIOOBE_FORMATTER" "Ljava/util/function/BiFunction;") ∈ stN := by decide +kernel
set_option maxRecDepth 20000 in
theorem st_s4 : (Cond.laysStatic "java/lang/String" "COMPACT_STRINGS" "Z" ∈ lw_tbl ∧ Cond.initialized "java/lang/String" ∈ lw_tbl ∧ Cond.laysStatic "jdk/internal/util/Preconditions" "SIOOBE_FORMATTER" "Ljava/util/function/BiFunction;" ∈ lw_tbl ∧ Cond.initialized "jdk/internal/util/Preconditions" ∈ lw_tbl) ∧ Cond.stringRef "EarlyValues" 65 tx0 ∈ lw_tbl ∧ Cond.stringRef "EarlyValues$Letters" 11 tx1 ∈ lw_tbl := by decide +kernel
set_option maxRecDepth 20000 in
theorem st_s5 : dcl "less" "(I)I" ∈ lw_tbl ∧ dcl "sum" "(II)I" ∈ lw_tbl ∧ dcl "chosen" "(III)I" ∈ lw_tbl ∧ dcl "mayGrow" "(I)Z" ∈ lw_tbl := by decide +kernel
theorem st_E {args : Array Value} {s : State} (hts : ∀ w ∈ lw_tbl, w.before args s = true) (hgv : (Jvm.Cond.and given_1 narrow_1).before args s = true) : ∃ ad : Nat → Nat, ∀ (D : va_G) (cT : Nat → ClassId), EV (D, cT, ad, 0) (fun q => s.heap.size ≤ q) s s.heap := by
  have hs := flat_of_before _ hgv
  have hA : ∀ a : Nat, a < s.heap.size → ¬ (fun q => s.heap.size ≤ q) a := fun a h1 h2 => by
    have h3 : s.heap.size ≤ a := h2
    omega
  obtain ⟨adK, adV, hS, hev⟩ := vk_Sof (N := 2) (tm := stm) (len := tlen) (byt := tbyt) (s := s) (args := args) (A := fun q => s.heap.size ≤ q)
    (fun i hi => by
      rcases (show i = 0 ∨ i = 1 by omega) with rfl | rfl
      · decide
      · decide)
    (fun i hi => hs _ (st_s0 i hi).1) (fun i hi => hs _ (st_s0 i hi).2.1) (fun i hi => hs _ (st_s0 i hi).2.2.1) (fun i hi => hs _ (st_s0 i hi).2.2.2)
    (fun i hi j hj => hs _ (st_s1 i hi j hj))
    (fun i j hi hj hij => by
      rcases (show (i = 0 ∧ j = 1) ∨ (i = 1 ∧ j = 0) by omega) with ⟨rfl, rfl⟩ | ⟨rfl, rfl⟩
      · exact st_s2.elim (fun h => Or.inl (hs _ h)) (fun h => Or.inr (hs _ h))
      · exact st_s2.elim (fun h => Or.inr (hs _ h)) (fun h => Or.inl (hs _ h)))
    hA
  refine ⟨fun k => match k with | 0 => adK 0 | 1 => adK 1 | k + 2 => adV k, fun D cT => ?_⟩
  refine ⟨va_Nw.of rfl (hts _ st_s5.1), va_Nw.of rfl (hts _ st_s5.2.1), va_Nw.of rfl (hts _ st_s5.2.2.1), va_Nw.of rfl (hts _ st_s5.2.2.2), va_Zof (hts _ st_s4.1.1) (hts _ st_s4.1.2.1) (va_eqt (hs _ st_s3.1)) hA, ?_, vk_R.of (hts _ st_s4.2.1) (hev 0 (by decide)), vk_R.of (hts _ st_s4.2.2) (hev 1 (by decide)), va_Zqof (hts _ st_s4.1.2.2.1) (hts _ st_s4.1.2.2.2) (hs _ st_s3.2) hA⟩
  refine ⟨fun i hi => ?_, fun i j hi hj e => ?_⟩
  · rcases (show i = 0 ∨ i = 1 by omega) with rfl | rfl
    · exact hS.1 0 (by decide)
    · exact hS.1 1 (by decide)
  · rcases (show i = 0 ∨ i = 1 by omega) with rfl | rfl <;> rcases (show j = 0 ∨ j = 1 by omega) with rfl | rfl
    · rfl
    · exact hS.2 0 1 hi hj e
    · exact hS.2 1 0 hi hj e
    · rfl
theorem st_W {args : Array Value} {s : State} (hts : ∀ w ∈ lw_tbl, w.before args s = true) (htl : ∀ w ∈ wsL_law, w.before args s = true) (hgv : (Jvm.Cond.and given_1 narrow_1).before args s = true) : ∃ (g : GE) (h : Nat → va_E), g.2.2.2 = 0 ∧ WD g (fun q => s.heap.size ≤ q) s h s.heap [] ∧ AOX s := by
  obtain ⟨D, cT, hK⟩ := st_K hts htl
  obtain ⟨ad, hE⟩ := st_E hts hgv
  refine ⟨(D, cT, ad, 0), fun _ => .inr (0, []), rfl, ⟨hK, fun k q hq => ?_, ⟨fun i j p q hp hq _ => ?_, fun k q hq => ?_⟩, va_S.rf, hE D cT⟩, st_X hts⟩
  · exact absurd (hw_lt hq).1 (Nat.not_lt_zero _)
  · exact absurd (hw_lt hp).1 (Nat.not_lt_zero _)
  · exact absurd (hw_lt hq).1 (Nat.not_lt_zero _)
