/-! THE CLAIM OUT OF ONE WALK OF THE LAW'S BODY. Your part is whole_start (and what it stands on); all else here is the same for every law, but numbers. -/
def R_law : String := "EarlyValuesLaw"
def lw_P (b : Addr) (xs : List Int32) (args : Array Value) (s : State) : Prop := args = #[.ref b] ∧ s.IntsAt b xs ∧ xs.length ≤ 2560 ∧ (Jvm.Cond.and given_1 narrow_1).before args s = true
def lw_Q (_ : Array Value) (s : State) (o : Outcome) (t : State) : Prop := o = .returned (some (.int 1)) ∧ Framed s o t [] 600000 7302250
def lw_Z (below : List Frame) (a : Array Value) (s : State) : State → Prop := fun t => ∃ o, t.status = .running ∧ Ended t below o ∧ lw_Q a s o t
/-- the law's own end, with 1 on the stack, nothing written that was there before, its room as the claim has it -/
theorem lw_ret {p : Program} {l : Launch} {e : Env} {s : State} {m : MethodId} {below : List Frame} {meth : Method} {c : Code} {b : Nat} (hx : p.tables.exec = Jvm.exec) (hb : c.code = code) (hr : meth.sig.returnType = ret) (hlocks : meth.locks = false) {pc : Nat} {H : Heap} {ls : Array Slot} (hdg : decode code pc = .ok (.ireturn, 1)) : W p l e room_1 s m #[Value.ref b] below meth c H [] 600000 7302250 (lw_Z below #[Value.ref b] s) (F0 m pc ls [.int 1]) := by
  intro T hT X
  obtain ⟨fs, hret, hrun, hended, hW, hframe⟩ := X.leave (v := some (.int 1)) (hlocks := hlocks) (fun h => by rw [hr] at h; cases h)
  have hmeth' : T.vm.method? m = some meth := X.method'
  refine ⟨T.setFrames fs, ?_, .returned (some (.int 1)), hrun, hended, rfl, ⟨_, rfl⟩, hW, hframe⟩
  jvm_step X.here [X.here.top, hx, hb, hdg, hmeth', hr, ret, narrow_b1]
  (try refine ⟨rfl, ?_⟩); (try refine ⟨rfl, ?_⟩)
  first | (intro acts; rw [hret _ acts rfl rfl rfl]) | rw [hret _ _ rfl rfl rfl]
  exact Steps.refl _
/-- what holds at the law's entry: the machine, the code, the tables' words (any of lw_tbl by 'hts w (by decide +kernel)'), the script of L ints xs at the cell b, what the Statement gives of the start (any of its parts by flat_of_before) -/
def lw_At (p : Program) (s : State) (m : MethodId) (meth : Method) (c : Code) (b L : Nat) (xs : Nat → Int32) : Prop :=
  p.tables.exec = Jvm.exec ∧ c.code = code ∧ meth.sig.returnType = ret ∧ c.maxLocals = 4 ∧ s.vm.findClass R_law = some m.cls ∧ (∀ w ∈ lw_tbl, w.before #[Value.ref b] s = true) ∧ va_X b L xs s s.heap ∧ b < s.heap.size ∧ meth.locks = false ∧ (Jvm.Cond.and given_1 narrow_1).before #[Value.ref b] s = true
set_option maxRecDepth 20000 in
/-- the law's loop: both sides stand for one state, the counter is k -/
theorem law_loop {p : Program} {l : Launch} {e : Env} {s : State} {m : MethodId} {below : List Frame} {meth : Method} {c : Code} {b L : Nat} {xs : Nat → Int32} {g : GE} {cells slots : Nat} (C : LwC p s m c #[Value.ref b] b L xs cells slots) (hr : meth.sig.returnType = ret) (hlocks : meth.locks = false) :
    ∀ (n k : Nat) (i : Int32), i.toInt = (k : Int) → k ≤ 2560 → L + 1 ≤ k + n → ∀ (st : ST) (h : Nat → va_E) (H : Heap) (locs : List Loc), LwI g h s st H locs → ∀ (ls : Array Slot), LwL g b i ls → W p l e room_1 s m #[Value.ref b] below meth c H locs cells slots (lw_Z below #[Value.ref b] s) (F0 m 18 ls []) := by
  obtain ⟨hx, hb, hml, hown, hts, hX, hbl, hL, hcs⟩ := id C
  have fin : ∀ (st : ST) (h : Nat → va_E) (H : Heap) (locs : List Loc), LwI g h s st H locs → ∀ (ls : Array Slot), W p l e room_1 s m #[Value.ref b] below meth c H locs cells slots (lw_Z below #[Value.ref b] s) (F0 m 815 ls []) := by
    intro st h H locs I ls
    refine lv_iconst (v := 1) hx hb dL_law_815 (by decide) ?_
    refine va_forget (fun q hq => I.1.2.2.2.1.2.2 q hq) ?_
    refine W.widen (k := 600000) (n := 7302250) hcs.1 hcs.2 ?_
    exact lw_ret hx hb hr hlocks dL_law_816
  intro n
  induction n with
  | zero =>
    intro k i hi hk hn st h H locs I ls hl
    have hk1 : L + 1 ≤ k := hn
    refine lv_iload_n hx hb dL_law_18 rfl (lv_at hl 0 rfl) ?_
    refine lv_aload_n hx hb dL_law_19 rfl (lv_at hl 3 rfl) ?_
    refine va_slen hx hb hX hbl (Nat.not_le.mpr hbl) I.1.2.2.2.1 dL_law_20 ?_
    refine lv_iconst (v := 5) hx hb dL_law_21 (by decide) ?_
    refine lv_isub hx hb dL_law_22 ?_
    refine lv_topi (fun y ey => ?_)
    have hLi : (Int32.ofNat L).toInt = (L : Int) := Int32.toInt_ofNat_of_lt (by omega)
    have hy : y.toInt = (L : Int) - 5 := i_sub ey hLi (by decide : (5 : Int32).toInt = 5) (by omega)
    refine lv_icmp_gt (tgt := 815) hx hb dL_law_23 (by decide) (fun c1 => ?_) (fun c1 => ?_)
    · exact fin st h H locs I ls
    · exact absurd ((i_lt hy hi).mpr (by omega)) c1
  | succ n ih =>
    intro k i hi hk hn st h H locs I ls hl
    refine lv_iload_n hx hb dL_law_18 rfl (lv_at hl 0 rfl) ?_
    refine lv_aload_n hx hb dL_law_19 rfl (lv_at hl 3 rfl) ?_
    refine va_slen hx hb hX hbl (Nat.not_le.mpr hbl) I.1.2.2.2.1 dL_law_20 ?_
    refine lv_iconst (v := 5) hx hb dL_law_21 (by decide) ?_
    refine lv_isub hx hb dL_law_22 ?_
    refine lv_topi (fun y ey => ?_)
    have hLi : (Int32.ofNat L).toInt = (L : Int) := Int32.toInt_ofNat_of_lt (by omega)
    have hy : y.toInt = (L : Int) - 5 := i_sub ey hLi (by decide : (5 : Int32).toInt = 5) (by omega)
    refine lv_icmp_gt (tgt := 815) hx hb dL_law_23 (by decide) (fun c1 => ?_) (fun c1 => ?_)
    · exact fin st h H locs I ls
    have hkL : k + 5 ≤ L := by
      have := mt (i_lt hy hi).mpr c1
      omega
    have K : ∀ (st2 : ST) (h2 : Nat → va_E) (H2 : Heap) (locs2 : List Loc), LwI g h2 s st2 H2 locs2 → W p l e room_1 s m #[Value.ref b] below meth c H2 locs2 cells slots (lw_Z below #[Value.ref b] s) (F0 m 809 ls []) := by
      intro st2 h2 H2 locs2 I2
      obtain ⟨i2, ei2⟩ : ∃ y : Int32, y = i + 5 := ⟨_, rfl⟩
      have hi2 : i2.toInt = ((k + 5 : Nat) : Int) := i_addN ei2 hi (by decide : (5 : Int32).toInt = ((5 : Nat) : Int)) (by omega)
      refine lv_iinc (v := i2) (lv' := [(3, .int i2), (2, .ref (g.2.2.1 143)), (1, .ref (g.2.2.1 0)), (0, .ref b)]) hx hb dL_law_809 hl (k := 0) rfl (by rw [ei2]; rfl) (by decide) rfl (fun ls2 hl2 => ?_)
      refine lv_goto (tgt := 18) hx hb dL_law_812 (by decide) ?_
      exact ih (k + 5) i2 hi2 (by omega) (by omega) st2 h2 H2 locs2 I2 ls2 hl2
    refine lv_aload_n hx hb dL_law_26 rfl (lv_at hl 3 rfl) ?_
    refine lv_iload_n hx hb dL_law_27 rfl (lv_at hl 0 rfl) ?_
    refine lw_sld C I.1 hi (by omega) dL_law_28 ?_
    refine lv_bipush (v := 31) hx hb dL_law_29 (by decide) ?_
    refine lv_iand hx hb dL_law_31 ?_
    refine lv_topi (fun z ez => ?_)
    by_cases hz : z.toInt < 0 ∨ 22 < z.toInt
    · exact lv_tableOut (tgt := 809) hx hb dL_law_32 hz (by decide) (K st h H locs I)
    obtain ⟨j, hj⟩ : ∃ j : Nat, z.toInt = (j : Int) := ⟨z.toInt.toNat, by omega⟩
    rcases (show j = 0 ∨ j = 1 ∨ j = 2 ∨ j = 3 ∨ j = 4 ∨ j = 5 ∨ j = 6 ∨ j = 7 ∨ j = 8 ∨ j = 9 ∨ j = 10 ∨ j = 11 ∨ j = 12 ∨ j = 13 ∨ j = 14 ∨ j = 15 ∨ j = 16 ∨ j = 17 ∨ j = 18 ∨ j = 19 ∨ j = 20 ∨ j = 21 ∨ j = 22 by omega) with rfl | rfl | rfl | rfl | rfl | rfl | rfl | rfl | rfl | rfl | rfl | rfl | rfl | rfl | rfl | rfl | rfl | rfl | rfl | rfl | rfl | rfl | rfl
    · exact lv_tableIn (off := 108) (tgt := 140) hx hb dL_law_32 (by rw [hj]; decide) (by rw [hj]; decide) (by rw [hj]; rfl) (by decide) (lc_write C I hl hi (by omega) K)
    · exact lv_tableIn (off := 131) (tgt := 163) hx hb dL_law_32 (by rw [hj]; decide) (by rw [hj]; decide) (by rw [hj]; rfl) (by decide) (lc_wipe C I hl hi (by omega) K)
    · exact lv_tableIn (off := 144) (tgt := 176) hx hb dL_law_32 (by rw [hj]; decide) (by rw [hj]; decide) (by rw [hj]; rfl) (by decide) (lc_fault C I hl hi (by omega) K)
    · exact lv_tableIn (off := 157) (tgt := 189) hx hb dL_law_32 (by rw [hj]; decide) (by rw [hj]; decide) (by rw [hj]; rfl) (by decide) (lc_lay C I hl hi (by omega) K)
    · exact lv_tableIn (off := 170) (tgt := 202) hx hb dL_law_32 (by rw [hj]; decide) (by rw [hj]; decide) (by rw [hj]; rfl) (by decide) (lc_function C I hl hi (by omega) K)
    · exact lv_tableIn (off := 203) (tgt := 235) hx hb dL_law_32 (by rw [hj]; decide) (by rw [hj]; decide) (by rw [hj]; rfl) (by decide) (lc_letter C I hl hi (by omega) K)
    · exact lv_tableIn (off := 236) (tgt := 268) hx hb dL_law_32 (by rw [hj]; decide) (by rw [hj]; decide) (by rw [hj]; rfl) (by decide) (lc_put C I hl hi (by omega) K)
    · exact lv_tableIn (off := 279) (tgt := 311) hx hb dL_law_32 (by rw [hj]; decide) (by rw [hj]; decide) (by rw [hj]; rfl) (by decide) (lc_rename C I hl hi (by omega) K)
    · exact lv_tableIn (off := 312) (tgt := 344) hx hb dL_law_32 (by rw [hj]; decide) (by rw [hj]; decide) (by rw [hj]; rfl) (by decide) (lc_undo C I hl hi (by omega) K)
    · exact lv_tableIn (off := 325) (tgt := 357) hx hb dL_law_32 (by rw [hj]; decide) (by rw [hj]; decide) (by rw [hj]; rfl) (by decide) (lc_value C I hl hi (by omega) K)
    · exact lv_tableIn (off := 378) (tgt := 410) hx hb dL_law_32 (by rw [hj]; decide) (by rw [hj]; decide) (by rw [hj]; rfl) (by decide) (lc_rough C I hl hi (by omega) K)
    · exact lv_tableIn (off := 411) (tgt := 443) hx hb dL_law_32 (by rw [hj]; decide) (by rw [hj]; decide) (by rw [hj]; rfl) (by decide) (lc_fine C I hl hi (by omega) K)
    · exact lv_tableIn (off := 464) (tgt := 496) hx hb dL_law_32 (by rw [hj]; decide) (by rw [hj]; decide) (by rw [hj]; rfl) (by decide) (lc_rounds C I hl hi (by omega) K)
    · exact lv_tableIn (off := 487) (tgt := 519) hx hb dL_law_32 (by rw [hj]; decide) (by rw [hj]; decide) (by rw [hj]; rfl) (by decide) (lc_frontier C I hl hi (by omega) K)
    · exact lv_tableIn (off := 520) (tgt := 552) hx hb dL_law_32 (by rw [hj]; decide) (by rw [hj]; decide) (by rw [hj]; rfl) (by decide) (lc_strict C I hl hi (by omega) K)
    · exact lv_tableIn (off := 553) (tgt := 585) hx hb dL_law_32 (by rw [hj]; decide) (by rw [hj]; decide) (by rw [hj]; rfl) (by decide) (lc_early C I hl hi (by omega) K)
    · exact lv_tableIn (off := 586) (tgt := 618) hx hb dL_law_32 (by rw [hj]; decide) (by rw [hj]; decide) (by rw [hj]; rfl) (by decide) (lc_same C I hl hi (by omega) K)
    · exact lv_tableIn (off := 619) (tgt := 651) hx hb dL_law_32 (by rw [hj]; decide) (by rw [hj]; decide) (by rw [hj]; rfl) (by decide) (lc_first C I hl hi (by omega) K)
    · exact lv_tableIn (off := 652) (tgt := 684) hx hb dL_law_32 (by rw [hj]; decide) (by rw [hj]; decide) (by rw [hj]; rfl) (by decide) (lc_makes C I hl hi (by omega) K)
    · exact lv_tableIn (off := 685) (tgt := 717) hx hb dL_law_32 (by rw [hj]; decide) (by rw [hj]; decide) (by rw [hj]; rfl) (by decide) (lc_day C I hl hi (by omega) K)
    · exact lv_tableIn (off := 728) (tgt := 760) hx hb dL_law_32 (by rw [hj]; decide) (by rw [hj]; decide) (by rw [hj]; rfl) (by decide) (lc_keep C I hl hi (by omega) K)
    · exact lv_tableIn (off := 741) (tgt := 773) hx hb dL_law_32 (by rw [hj]; decide) (by rw [hj]; decide) (by rw [hj]; rfl) (by decide) (lc_back C I hl hi (by omega) K)
    · exact lv_tableIn (off := 754) (tgt := 786) hx hb dL_law_32 (by rw [hj]; decide) (by rw [hj]; decide) (by rw [hj]; rfl) (by decide) (lc_count C I hl hi (by omega) K)
set_option maxRecDepth 20000 in
/-- YOUR PART: from the entry, for every script of at most 2560 ints, the law comes to its end with true ('hflags': the launch's flags, for a law that throws: no stack traces) -/
theorem whole_start {p : Program} {e : Env} {s : State} {m : MethodId} {below : List Frame} {meth : Method} {c : Code} (l : Launch) (hflags : l.flags = flags0) {b L : Nat} {xs : Nat → Int32} (hL : L ≤ 2560) (C0 : lw_At p s m meth c b L xs) : W p l e room_1 s m #[Value.ref b] below meth c s.heap [] 0 0 (lw_Z below #[Value.ref b] s) (entryFrame m ([Value.ref b] : List Value).toArray 4) := by
  obtain ⟨hx, hb, hr, hml, hown, hts, hX, hbl, hlocks, hgv⟩ := C0
  have hts0 := hts
  have htl := wsL_hts hts
  have hts := htl
  have hown : s.vm.findClass RL = some m.cls := hown
  have hb : c.code = cL_law := hb
  obtain ⟨g, h, hg0, w, hAO⟩ := st_W hts0 htl hgv
  have hA : ∀ q : Nat, s.heap.size ≤ q → (fun q : Nat => s.heap.size ≤ q) q := fun _ h => h
  have hl := lv_entry ([.ref b]) (n := 4) (Nat.le_of_ble_eq_true rfl)
  rw [lg_entry_eq]
  generalize (lg_sl ([.ref b]) ++ List.replicate (4 - (lg_sl ([.ref b])).length) Slot.unset).toArray = ls at hl ⊢
  have hl : lv_has ls 4 [(0, .ref b)] := hl
  refine r_new (ci := 6) (fs := [.null, .null, .null, .null, .int 0, .null, .null, .null, .null, .null, .null]) (C := RX8) (T := TX8) (N := 11) hx hb hts inlX8 tyX8 tyX8_ok hown (hts (Cond.classLink RL 7 RX8) (List.mem_of_getElem? (i := 0) (by decide +kernel))) (hts (Cond.instantiable RX8 11) (List.mem_of_getElem? (i := 1) (by decide +kernel))) (hts (Cond.initialized RX8) (List.mem_of_getElem? (i := 2) (by decide +kernel))) w hA rfl (fun j hj => by rcases (show j = 0 ∨ j = 1 ∨ j = 2 ∨ j = 3 ∨ j = 4 ∨ j = 5 ∨ j = 6 ∨ j = 7 ∨ j = 8 ∨ j = 9 ∨ j = 10 by omega) with rfl | rfl | rfl | rfl | rfl | rfl | rfl | rfl | rfl | rfl | rfl <;> rfl) (Nat.le_of_ble_eq_true rfl) (Nat.le_of_ble_eq_true rfl) dL_law_0 (fun g1 h1 H1 x1 n1 f1 c1 w1 => ?_)
  rw [hg0] at n1 c1 ⊢
  refine lv_dup hx hb dL_law_3 rfl ?_
  refine r_callN w1 hA (va_runI (As := []) (rest := [.ref (g1.2.2.1 0)]) ⟨hx, hb, hml, hown, hts⟩ (c_X8_init l (g0 := g1) (h0 := h1) (x := 0) (by omega) c1) (cwI 0 hts gL_law_X8_init rfl rfl rfl (hts (Cond.initialized RX8) (List.mem_of_getElem? (i := 2) (by decide +kernel))) (hts (Cond.methodLink RL 9 yX8_init) (List.mem_of_getElem? (i := 6) (by decide +kernel))) (hts (Cond.instanceMethod yX8_init) (List.mem_of_getElem? (i := 7) (by decide +kernel))) rfl (by decide +kernel) ⟨Nat.le_of_ble_eq_true rfl, Nat.le_of_ble_eq_true rfl⟩) (r_preN w1 hA hAO) rfl rfl hl.1 rfl (lv_room (Nat.le_of_ble_eq_true rfl)) dL_law_4 ⟨Nat.le_of_ble_eq_true rfl, Nat.le_of_ble_eq_true rfl⟩) (fun g2 h2 H2 locs2 x2 hp2 w2 => ?_)
  obtain ⟨n2, f2, C2⟩ := hp2
  have n2 : g2.2.2.2 = 143 := by omega
  clear f2 c1 f1 w w1
  refine lv_astore_n (lv' := [(1, .ref (g1.2.2.1 0)), (0, .ref b)]) hx hb dL_law_7 rfl hl (by decide) rfl (fun ls hl => ?_)
  have e10 : g2.2.2.1 0 = g1.2.2.1 0 := x2.at (by omega)
  rw [← e10] at hl
  refine r_new (ci := 7) (fs := [.int 0, .null, .null, .null, .null, .null, .null, .null, .int 0, .null, .null, .int 0, .null, .int 0, .null, .null, .int 0, .int 0, .int 0, .null]) (C := RX9) (T := TX9) (N := 20) hx hb hts inlX9 tyX9 tyX9_ok hown (hts (Cond.classLink RL 10 RX9) (List.mem_of_getElem? (i := 3) (by decide +kernel))) (hts (Cond.instantiable RX9 20) (List.mem_of_getElem? (i := 4) (by decide +kernel))) (hts (Cond.initialized RX9) (List.mem_of_getElem? (i := 5) (by decide +kernel))) w2 hA rfl (fun j hj => by rcases (show j = 0 ∨ j = 1 ∨ j = 2 ∨ j = 3 ∨ j = 4 ∨ j = 5 ∨ j = 6 ∨ j = 7 ∨ j = 8 ∨ j = 9 ∨ j = 10 ∨ j = 11 ∨ j = 12 ∨ j = 13 ∨ j = 14 ∨ j = 15 ∨ j = 16 ∨ j = 17 ∨ j = 18 ∨ j = 19 by omega) with rfl | rfl | rfl | rfl | rfl | rfl | rfl | rfl | rfl | rfl | rfl | rfl | rfl | rfl | rfl | rfl | rfl | rfl | rfl | rfl <;> rfl) (Nat.le_of_ble_eq_true rfl) (Nat.le_of_ble_eq_true rfl) dL_law_8 (fun g3 h3 H3 x3 n3 f3 c3 w3 => ?_)
  rw [n2] at n3 c3 ⊢
  refine lv_dup hx hb dL_law_11 rfl ?_
  refine r_callN w3 hA (va_runI (As := []) (rest := [.ref (g3.2.2.1 143)]) ⟨hx, hb, hml, hown, hts⟩ (c_X9_init l (g0 := g3) (h0 := h3) (r := 143) (by omega) c3) (cwI 0 hts gL_law_X9_init rfl rfl rfl (hts (Cond.initialized RX9) (List.mem_of_getElem? (i := 5) (by decide +kernel))) (hts (Cond.methodLink RL 12 yX9_init) (List.mem_of_getElem? (i := 283) (by decide +kernel))) (hts (Cond.instanceMethod yX9_init) (List.mem_of_getElem? (i := 284) (by decide +kernel))) rfl (by decide +kernel) ⟨Nat.le_of_ble_eq_true rfl, Nat.le_of_ble_eq_true rfl⟩) (r_preN w3 hA hAO) rfl rfl hl.1 rfl (lv_room (Nat.le_of_ble_eq_true rfl)) dL_law_12 ⟨Nat.le_of_ble_eq_true rfl, Nat.le_of_ble_eq_true rfl⟩) (fun g4 h4 H4 locs4 x4 hp4 w4 => ?_)
  obtain ⟨n4, f4, R4⟩ := hp4
  have n4 : g4.2.2.2 = 157 := by omega
  have C4 : ClsA g4 h4 0 stS := C2.ext (x3.trans x4) (fun k _ hk => (f4 k (by omega)).trans (f3 k (by omega)))
  have e20 : g4.2.2.1 0 = g2.2.2.1 0 := (x3.trans x4).at (by omega)
  have e21 : g4.2.2.1 143 = g3.2.2.1 143 := x4.at (by omega)
  rw [← e20] at hl
  rw [← e21]
  refine lv_astore_n (lv' := [(2, .ref (g4.2.2.1 143)), (1, .ref (g4.2.2.1 0)), (0, .ref b)]) hx hb dL_law_15 rfl hl (by decide) rfl (fun ls hl => ?_)
  refine lv_iconst (v := 0) hx hb dL_law_16 (by decide) ?_
  refine lv_istore_n (lv' := [(3, .int 0), (2, .ref (g4.2.2.1 143)), (1, .ref (g4.2.2.1 0)), (0, .ref b)]) hx hb dL_law_17 rfl hl (by decide) rfl (fun ls hl => ?_)
  exact law_loop ⟨hx, hb, hml, hown, hts, hX, hbl, hL, Nat.le_of_ble_eq_true rfl, Nat.le_of_ble_eq_true rfl⟩ hr hlocks (L + 1) 0 0 (by decide) (by omega) (by omega) stS h4 H4 locs4 ⟨w4, C4, R4⟩ ls hl
set_option maxHeartbeats 4000000 in
theorem lw_walk (l : Launch) (hflags : l.flags = flags0) (b : Addr) (xs : List Int32) : MetFree l x (headSpec (Jvm.Cond.code x code maxLocals ret :: tables_1) room_1) (lw_P b xs) (fun _ _ _ _ _ => True) lw_Q := by
  refine MetFree.of_bodyS (code := code) (maxLocals := maxLocals) (ret := ret) (by decide) ?_ ?_
  · intro args s m h hn
    obtain ⟨meth, c, h1, h2, h3, h4, h5, h6, -, -⟩ := Cond.code_spec hn (atoms_spec (ws := Jvm.Cond.code x code maxLocals ret :: tables_1) h _ List.mem_cons_self)
    exact ⟨meth, c, h1, h2, h3, h4, h5, h6⟩
  · intro p e s m args below meth c s₁ B hml0 hP _
    obtain ⟨rfl, hx, hbd, hgv⟩ := hP
    obtain ⟨scr, harrAt, hlist, hof, hsmall⟩ := hx
    obtain ⟨hcb, hkn, -, -⟩ := State.arrayAt?_spec harrAt
    have hown : s.vm.findClass R_law = some m.cls := findClass_of_methodNamed B.named
    have hts0 : ∀ c ∈ (Jvm.Cond.code x code maxLocals ret :: tables_1), c.before #[Value.ref b] s = true := atoms_spec (ws := Jvm.Cond.code x code maxLocals ret :: tables_1) B.pre
    have hts : ∀ w ∈ lw_tbl, w.before #[Value.ref b] s = true := k2_hts_sels lw_privs (fun w hw => hts0 w (List.mem_cons_of_mem _ hw)) lw_privs_ok
    have hml : c.maxLocals = 4 := B.maxLocals_eq (hts0 _ List.mem_cons_self)
    have X₀ : Stand p l e room_1 s m #[Value.ref b] below meth c s₁ [] 0 0 := Stand.of_body B
    have hh0 : s₁.heap = s.heap := by rw [B.state]; rfl
    have hsz : scr.slots.size = xs.length := by rw [← Array.length_toList, hlist, List.length_map]
    have hval : ∀ j : Nat, j < xs.length → scr.slots[j]? = some (.int (xs.getD j 0)) := fun j hj => by
      rw [← Array.getElem?_toList, hlist]
      simp [hj]
    have hbl : b < s.heap.size := (Array.getElem?_eq_some_iff.mp hcb).1
    have hX : va_X b xs.length (fun j => xs.getD j 0) s s.heap := ⟨scr, hcb, hof, hkn, hsz, hval⟩
    have K : W p l e room_1 s m #[Value.ref b] below meth c s₁.heap [] 0 0 (lw_Z below #[Value.ref b] s) (entryFrame m ([Value.ref b] : List Value).toArray 4) := by
      rw [hh0]
      exact whole_start l hflags hbd ⟨B.exec, B.bytes, B.returns, hml, hown, hts, hX, hbl, B.notSynchronized, hgv⟩
    obtain ⟨t, a1, o, b1, b2, b3⟩ := K s₁ rfl X₀
    exact ⟨t, o, a1, b1, b2, b3⟩
theorem lw_pre_spec {args : Array Value} {s : State} (h : (Jvm.Cond.and given_1 narrow_1).before args s = true) (hr : rest_1_c.before args s = true) : ∃ (b : Addr) (xs : List Int32), lw_P b xs args s := by
  have hs := flat_of_before _ h
  have hq := flat_of_before _ hr
  have hc : (Cond.count 1).before args s = true := hs _ (by decide +kernel)
  have harr : (Cond.arrayOf (.arg 0) .int).before args s = true := hs _ (by decide +kernel)
  have hle : (Cond.le (.length (.arg 0)) (.int 2560)).before args s = true := hs _ (by decide +kernel)
  have hlen : (Cond.isInt (.length (.arg 0))).before args s = true := hq _ (by decide +kernel)
  have hall : (Cond.all (.arg 0) (.isInt (.elem (.arg 0) (.index 0)))).before args s = true := hq _ (by decide +kernel)
  obtain ⟨b, xs, hb, hx⟩ := State.ints_of_pre rfl harr hlen hall
  have hsm : xs.length < 2 ^ 31 := hx.choose_spec.2.2.2
  have hev : (Term.length (.arg 0)).eval args s none [] s = some (.int xs.length.toInt32) := hx.length_eval hb
  have hv := Cond.le_ints hev (show (Term.int 2560).eval args s none [] s = some (.int 2560) from rfl)
  have hd : xs.length.toInt32 ≤ 2560 := by
    simpa [Cond.before, Cond.holds, hv] using hle
  have hN : xs.length ≤ 2560 := (Int32.ofNat_le_ofNat hsm (by decide)).mp (show Int32.ofNat xs.length ≤ Int32.ofNat 2560 from hd)
  exact ⟨b, xs, Cond.one_arg hc (show args[0]? = some (.ref b) from hb), hx, hN, h⟩
theorem lw_comes (l : Launch) (hflags : l.flags = flags0) : Comes l x (Jvm.Cond.code x code maxLocals ret :: tables_1) room_1 (fun tb e args s => Calls_1 tb e args s ∧ rest_1 tb e args s ∧ Pre_1 tb e args s)
    (fun _ _ args s o t => lw_Q args s o t) := by
  intro p e ha hc hk s m args below hf hfit hheap happ hpre
  obtain ⟨b, xs, hP⟩ := lw_pre_spec hpre.2.2 hpre.2.1
  obtain ⟨k, o, h1, h2, h3, hQ⟩ := lw_walk l hflags b xs p e ha hc hk s m args below hf ((Spec.applies_iff_loose hf).mp happ).1 hP trivial
  exact ⟨k, o, h1, h2, h3, hQ⟩
theorem lw_frame {s t : State} {o : Outcome} {args : Array Value} (h : Framed s o t [] 600000 7302250) :
    Framed s o t (fieldLocs frame_1_writes args s ++ arrayLocs frame_1_arrays args s ++ staticLocs frame_1_statics s) 600000 7302250 := h
theorem lw_limb (L : Cond) (hL : ∀ (args : Array Value) (s t : State), L.after args s (.returned (some (.int 1))) t = true) :
    ArmFor flags0 classFile x code maxLocals ret World_1 tables_1 room_1 Calls_1 rest_1 Pre_1
      (fun tb e a s o t => postC L tb e a s o t ∧ Framed s o t (fieldLocs frame_1_writes a s ++ arrayLocs frame_1_arrays a s ++ staticLocs frame_1_statics s) 600000 7302250) := by
  intro l hflags _ _ p e ha hc hk s m args below hf hfit hheap happ hpre
  obtain ⟨k, o, h1, h2, h3, rfl, hF⟩ := lw_comes l hflags p e ha hc hk s m args below hf hfit hheap happ hpre
  exact ⟨k, _, h1, h2, h3, hL args s _, lw_frame hF⟩
theorem i_vc : Claimed_1_1 ∧ Claimed_1_2 := ⟨lw_limb limb_1_1 (fun args s t => by simp [limb_1_1, Cond.after, Cond.holds, Cond.value]), lw_limb limb_1_2 (fun args s t => Cond.after_iff.mpr (by
  first | (rw [show limb_1_2 = Cond.eq .result (.int 1) from rfl, Cond.eq_ints (x := 1) (y := 1) rfl rfl]; simp; done) | (simp [limb_1_2, Cond.value, Term.eval]; done)))⟩
