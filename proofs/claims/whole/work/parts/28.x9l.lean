/-- the sign at a place of the text; 0 behind its end -/
def sgn (tx : Nat → Nat) (n i : Nat) : Nat := if i < n then tx i else 0
theorem sgn_le {tx : Nat → Nat} {n i : Nat} (h : ∀ i, i < n → 32 ≤ tx i ∧ tx i ≤ 126) : sgn tx n i ≤ 126 ∧ (i < n → 32 ≤ sgn tx n i) ∧ (n ≤ i → sgn tx n i = 0) := by
  unfold sgn
  split
  · rename_i q; have := h i q; omega
  · omega
def dgt (c : Nat) : Prop := 48 ≤ c ∧ c ≤ 51
/-- so many digits stand from i on (four at most) -/
def NumE (S : Nat → Nat) (i c : Nat) : Prop := c ≤ 4 ∧ (∀ j, j < c → dgt (S (i + j))) ∧ (c = 4 ∨ ¬ dgt (S (i + c)))
theorem NumE.inj {S : Nat → Nat} {i c d : Nat} (h1 : NumE S i c) (h2 : NumE S i d) : c = d := by
  obtain ⟨a1, a2, a3⟩ := h1
  obtain ⟨b1, b2, b3⟩ := h2
  rcases Nat.lt_trichotomy c d with q | q | q
  · rcases a3 with z | z
    · omega
    · exact absurd (b2 c q) z
  · exact q
  · rcases b3 with z | z
    · omega
    · exact absurd (a2 d q) z
/-- p letters of a body read, m parts are missing -/
def BodyR (S : Nat → Nat) (N : Nat) (A : Nat → Nat) (f i : Nat) : Nat → Nat → Prop
  | 0, m => m = 1
  | p + 1, m => ∃ m0, BodyR S N A f i p m0 ∧ 0 < m0 ∧ mNum ((S (i + p) : Nat) : Int) < 14 ∧ mMay N A f (mNum ((S (i + p) : Nat) : Int)) ∧ m = m0 + mParts N A (mNum ((S (i + p) : Nat) : Int)) - 1
theorem BodyR.inj {S : Nat → Nat} {N : Nat} {A : Nat → Nat} {f i : Nat} : ∀ {p m m' : Nat}, BodyR S N A f i p m → BodyR S N A f i p m' → m = m'
  | 0, _, _, h1, h2 => Eq.trans (show _ = 1 from h1) (show _ = 1 from h2).symm
  | p + 1, _, _, ⟨a, a1, _, _, _, a5⟩, ⟨b, b1, _, _, _, b5⟩ => by
    have e := BodyR.inj a1 b1
    subst e
    rw [a5, b5]
theorem BodyR.le {S : Nat → Nat} {N : Nat} {A : Nat → Nat} {f i p : Nat} : ∀ {j m : Nat}, BodyR S N A f i (p + (j + 1)) m → ∃ m0, BodyR S N A f i p m0 ∧ 0 < m0 ∧ mNum ((S (i + p) : Nat) : Int) < 14 ∧ mMay N A f (mNum ((S (i + p) : Nat) : Int))
  | 0, _, ⟨a, a1, a2, a3, a4, _⟩ => ⟨a, a1, a2, a3, a4⟩
  | j + 1, _, ⟨a, a1, _⟩ => BodyR.le (j := j) a1
theorem BodyR.uni {S : Nat → Nat} {N : Nat} {A : Nat → Nat} {f i p q : Nat} (h1 : BodyR S N A f i p 0) (h2 : BodyR S N A f i q 0) : p = q := by
  rcases Nat.lt_trichotomy p q with z | z | z
  · obtain ⟨j, rfl⟩ : ∃ j, q = p + (j + 1) := ⟨q - p - 1, by omega⟩
    obtain ⟨m0, b1, b2, _⟩ := BodyR.le h2
    have := BodyR.inj h1 b1
    omega
  · exact z
  · obtain ⟨j, rfl⟩ : ∃ j, p = q + (j + 1) := ⟨p - q - 1, by omega⟩
    obtain ⟨m0, b1, b2, _⟩ := BodyR.le h1
    have := BodyR.inj h2 b1
    omega
theorem BodyR.stop {S : Nat → Nat} {N : Nat} {A : Nat → Nat} {f i p m q : Nat} (h1 : BodyR S N A f i p m) (hm : 0 < m) (hs : p = 24 ∨ ¬ (mNum ((S (i + p) : Nat) : Int) < 14 ∧ mMay N A f (mNum ((S (i + p) : Nat) : Int)))) (hq : q ≤ 24) : ¬ BodyR S N A f i q 0 := by
  intro h2
  rcases Nat.lt_trichotomy p q with z | z | z
  · obtain ⟨j, rfl⟩ : ∃ j, q = p + (j + 1) := ⟨q - p - 1, by omega⟩
    obtain ⟨m0, b1, b2, b3, b4⟩ := BodyR.le h2
    rcases hs with y | y
    · omega
    · exact y ⟨b3, b4⟩
  · subst z
    have := BodyR.inj h1 h2
    omega
  · obtain ⟨j, rfl⟩ : ∃ j, p = q + (j + 1) := ⟨p - q - 1, by omega⟩
    obtain ⟨m0, b1, b2, _⟩ := BodyR.le h1
    have := BodyR.inj h2 b1
    omega
theorem BodyR.ub {S : Nat → Nat} {N : Nat} {A : Nat → Nat} {f i : Nat} (hA : ∀ i, i < N → A i ≤ 3) : ∀ {p m : Nat}, BodyR S N A f i p m → m ≤ 1 + 2 * p
  | 0, _, h => by have : _ = 1 := h; omega
  | p + 1, _, ⟨a, a1, _, _, _, a5⟩ => by
    have h1 := BodyR.ub hA a1
    have h2 := mParts_le (k := mNum ((S (i + p) : Nat) : Int)) hA
    omega
theorem nm_up {i c : Nat} {S : Nat → Nat} {ga gz : Nat → Int32} {x : Int32} (h : ∀ j, j < c → (ga j).toInt = ((S (i + j) - 48 : Nat) : Int)) (hx : x.toInt = ((S (i + c) - 48 : Nat) : Int)) (e : upd ga c x = gz) : ∀ j, j < c + 1 → (gz j).toInt = ((S (i + j) - 48 : Nat) : Int) := by
  subst e
  intro j hj
  by_cases q : j = c
  · rw [q, pk_us]; exact hx
  · rw [pk_un q]; exact h j (by omega)
theorem bd_up {i f p : Nat} {S : Nat → Nat} {gB gB1 gz : Nat → Int32} {x : Int32} (h : (∀ j, j < p → (gB1 (24 * f + j)).toInt = ((S (i + j) : Nat) : Int)) ∧ ∀ q, (q < 24 * f ∨ 24 * f + 24 ≤ q) → gB1 q = gB q) (hp : p < 24) (hx : x.toInt = ((S (i + p) : Nat) : Int)) (e : upd gB1 (24 * f + p) x = gz) : (∀ j, j < p + 1 → (gz (24 * f + j)).toInt = ((S (i + j) : Nat) : Int)) ∧ ∀ q, (q < 24 * f ∨ 24 * f + 24 ≤ q) → gz q = gB q := by
  subst e
  refine ⟨fun j hj => ?_, fun q hq => by rw [pk_un (by omega)]; exact h.2 q hq⟩
  by_cases q : j = p
  · rw [q, pk_us]; exact hx
  · rw [pk_un (by omega)]; exact h.1 j (by omega)
theorem inX9_here_X9 : ∀ w ∈ wsX90, w ∈ wsX9_here := by decide +kernel
abbrev rm_X9_here : Room := { frames := 0, cells := 0, slots := 0, locals := 0 }
set_option maxHeartbeats 4000000 in
set_option maxRecDepth 100000 in
theorem c_X9_here (l : Launch) {g : GE} {h : Nat → va_E} {r : Nat} {nm kn um sv sz ra rm : Int32} {ga gk gl gB gt gn gr gp gh gv gs gx gf : Nat → Int32} (D : MdA g h r nm kn um sv sz ra rm ga gk gl gB gt gn gr gp gh gv gs gx gf) {n : Nat} {tx : Nat → Nat} (hsz : sz.toInt = (n : Int)) (hn200 : n ≤ 200) (hgx : ∀ i, i < n → (gx i).toInt = ((tx i : Nat) : Int)) (hlt : ∀ i, i < n → 32 ≤ tx i ∧ tx i ≤ 126) {i : Nat} (hra : ra.toInt = (i : Int)) : MI l yX9_here wsX9_here rm_X9_here [.ref (g.2.2.1 r)] g h (fun r_ h2 => h2 = h ∧ r_.toInt = (((sgn tx n i) : Nat) : Int)) := by
  refine Met.ofW (cc := cX9_here) (maxL := 1) (ret := (some .int)) (by decide) rfl ?_
  intro p e s m args below meth c s₁ B hml hv
  obtain ⟨rfl, w0⟩ := hv
  have hx := B.exec
  have hb := B.bytes
  have hr := B.returns
  have hts := atoms_spec (ws := wsX9_here) B.pre
  have hown : s.vm.findClass RX9 = some m.cls := findClass_of_methodNamed B.named
  have hlocks := B.notSynchronized
  have w := w0.start
  clear w0
  have hl := lv_entry ([.ref (g.2.2.1 r)]) (n := 1) (Nat.le_of_ble_eq_true rfl)
  rw [lg_entry_eq]
  generalize (lg_sl ([.ref (g.2.2.1 r)]) ++ List.replicate (1 - (lg_sl ([.ref (g.2.2.1 r)])).length) Slot.unset).toArray = ls at hl ⊢
  have hl : lv_has ls 1 [(0, .ref (g.2.2.1 r))] := hl
  refine lv_aload_n hx hb dX9_here_0 rfl (lv_at hl 0 rfl) ?_
  refine r_get (C := RX9) (T := TX9) (N := 20) (ci := 7) hx hb hts inX9_here_X9 hown w (by have := D.1; omega) D.c0 rfl 17 (by decide) (hts (Cond.fieldLink RX9 204 "EarlyValuesModel" "readAt" "I") (List.mem_of_getElem? (i := 1) (by decide +kernel))) rfl rfl dX9_here_1 ?_
  refine lv_aload_n hx hb dX9_here_4 rfl (lv_at hl 0 rfl) ?_
  refine r_get (C := RX9) (T := TX9) (N := 20) (ci := 7) hx hb hts inX9_here_X9 hown w (by have := D.1; omega) D.c0 rfl 16 (by decide) (hts (Cond.fieldLink RX9 201 "EarlyValuesModel" "size" "I") (List.mem_of_getElem? (i := 2) (by decide +kernel))) rfl rfl dX9_here_5 ?_
  refine lv_icmp_ge (tgt := 23) hx hb dX9_here_8 (by decide) (fun c1 => ?_) (fun c1 => ?_)
  · have c1 : ((n : Nat) : Int) ≤ ((i : Nat) : Int) := (i_le hsz hra).mp c1
    refine lv_iconst (v := 0) hx hb dX9_here_23 (by decide) ?_
    refine r_iret (v := 0) hx hb hr hlocks w dX9_here_24 ?_
    exact ⟨rfl, (by decide : (0 : Int32).toInt = ((0 : Nat) : Int)).trans (by unfold sgn; first | (rw [if_pos (by omega)]) | (rw [if_neg (by omega)]))⟩
  · have c1 : ¬ (((n : Nat) : Int) ≤ ((i : Nat) : Int)) := fun q => c1 ((i_le hsz hra).mpr q)
    refine lv_aload_n hx hb dX9_here_11 rfl (lv_at hl 0 rfl) ?_
    refine r_get (C := RX9) (T := TX9) (N := 20) (ci := 7) hx hb hts inX9_here_X9 hown w (by have := D.1; omega) D.c0 rfl 15 (by decide) (hts (Cond.fieldLink RX9 43 "EarlyValuesModel" "text" "[I") (List.mem_of_getElem? (i := 3) (by decide +kernel))) rfl rfl dX9_here_12 ?_
    refine lv_aload_n hx hb dX9_here_15 rfl (lv_at hl 0 rfl) ?_
    refine r_get (C := RX9) (T := TX9) (N := 20) (ci := 7) hx hb hts inX9_here_X9 hown w (by have := D.1; omega) D.c0 rfl 17 (by decide) (hts (Cond.fieldLink RX9 204 "EarlyValuesModel" "readAt" "I") (List.mem_of_getElem? (i := 1) (by decide +kernel))) rfl rfl dX9_here_16 ?_
    refine r_iald (j := i) hx hb w (by have := D.1; omega) D.c12 hra (by omega) dX9_here_19 ?_
    refine lv_goto (tgt := 24) hx hb dX9_here_20 (by decide) ?_
    refine r_iret (v := gx i) hx hb hr hlocks w dX9_here_24 ?_
    exact ⟨rfl, (hgx i (by omega)).trans (by unfold sgn; first | (rw [if_pos (by omega)]) | (rw [if_neg (by omega)]))⟩

theorem inX9_reads_X9 : ∀ w ∈ wsX90, w ∈ wsX9_reads := by decide +kernel
abbrev rm_X9_reads : Room := { frames := 1, cells := 0, slots := 0, locals := 20 }
set_option maxHeartbeats 4000000 in
set_option maxRecDepth 100000 in
theorem c_X9_reads (l : Launch) {g : GE} {h : Nat → va_E} {r : Nat} {nm kn um sv sz ra rm : Int32} {ga gk gl gB gt gn gr gp gh gv gs gx gf : Nat → Int32} (D : MdA g h r nm kn um sv sz ra rm ga gk gl gB gt gn gr gp gh gv gs gx gf) {n : Nat} {tx : Nat → Nat} (hsz : sz.toInt = (n : Int)) (hn200 : n ≤ 200) (hgx : ∀ i, i < n → (gx i).toInt = ((tx i : Nat) : Int)) (hlt : ∀ i, i < n → 32 ≤ tx i ∧ tx i ≤ 126) {i cw : Nat} (hra : ra.toInt = (i : Int)) (hi : i ≤ 1000) (p0 : Int32) (hp0 : p0.toInt = (cw : Int)) : MI l yX9_reads wsX9_reads rm_X9_reads [.ref (g.2.2.1 r), .int p0] g h (fun r_ h2 => (∀ k, ¬ (r ≤ k ∧ k < r + 14) → h2 k = h k) ∧ ∃ ra2 : Int32, MdA g h2 r nm kn um sv sz ra2 rm ga gk gl gB gt gn gr gp gh gv gs gx gf ∧ ((r_ = 1 ∧ (sgn tx n i) = cw ∧ ra2.toInt = ((i + 1 : Nat) : Int)) ∨ (r_ = 0 ∧ (sgn tx n i) ≠ cw ∧ ra2.toInt = ((i : Nat) : Int)))) := by
  refine Met.ofW (cc := cX9_reads) (maxL := 2) (ret := (some .boolean)) (by decide) rfl ?_
  intro p e s m args below meth c s₁ B hml hv
  obtain ⟨rfl, w0⟩ := hv
  have hx := B.exec
  have hb := B.bytes
  have hr := B.returns
  have hts := atoms_spec (ws := wsX9_reads) B.pre
  have hown : s.vm.findClass RX9 = some m.cls := findClass_of_methodNamed B.named
  have hlocks := B.notSynchronized
  have w := w0.start
  clear w0
  have hl := lv_entry ([.ref (g.2.2.1 r), .int p0]) (n := 2) (Nat.le_of_ble_eq_true rfl)
  rw [lg_entry_eq]
  generalize (lg_sl ([.ref (g.2.2.1 r), .int p0]) ++ List.replicate (2 - (lg_sl ([.ref (g.2.2.1 r), .int p0])).length) Slot.unset).toArray = ls at hl ⊢
  have hl : lv_has ls 2 [(0, .ref (g.2.2.1 r)), (1, .int p0)] := hl
  have hfr : ∀ k_, ¬ (r ≤ k_ ∧ k_ < r + 14) → h k_ = h k_ := fun _ _ => rfl
  refine lv_aload_n hx hb dX9_reads_0 rfl (lv_at hl 0 rfl) ?_
  refine r_callI w (va_runV (As := []) (rest := []) ⟨hx, hb, hml, hown, hts⟩ (c_X9_here l D hsz hn200 hgx hlt hra) (cwV 0 hts gX9_reads_X9_here rfl rfl rfl (by decide +kernel) ⟨Nat.le_of_ble_eq_true rfl, Nat.le_of_ble_eq_true rfl⟩) (r_preV w (by have := D.1; omega) D.c0 rfl) rfl rfl hl.1 rfl (lv_room (Nat.le_of_ble_eq_true rfl)) dX9_reads_1 ⟨Nat.zero_le _, Nat.zero_le _⟩) (fun r2 h1 H locs hp w => ?_)
  obtain ⟨eh_, qq3⟩ := hp
  have eh_ := eh_.symm
  subst eh_
  have b4 := sgn_le (i := i) hlt
  refine lv_iload_n hx hb dX9_reads_4 rfl (lv_at hl 1 rfl) ?_
  refine lv_icmp_eq (tgt := 10) hx hb dX9_reads_5 (by decide) (fun c5 => ?_) (fun c5 => ?_)
  · have c5 : (((sgn tx n i) : Nat) : Int) = ((cw : Nat) : Int) := (i_eq qq3 hp0).mp c5
    refine lv_aload_n hx hb dX9_reads_10 rfl (lv_at hl 0 rfl) ?_
    refine lv_dup hx hb dX9_reads_11 rfl ?_
    refine r_get (C := RX9) (T := TX9) (N := 20) (ci := 7) hx hb hts inX9_reads_X9 hown w (by have := D.1; omega) D.c0 rfl 17 (by decide) (hts (Cond.fieldLink RX9 204 "EarlyValuesModel" "readAt" "I") (List.mem_of_getElem? (i := 1) (by decide +kernel))) rfl rfl dX9_reads_12 ?_
    refine lv_iconst (v := 1) hx hb dX9_reads_15 (by decide) ?_
    refine lv_iadd hx hb dX9_reads_16 ?_
    refine lv_topi (fun y6 ey6 => ?_)
    have ty6 : y6.toInt = (((i + 1) : Nat) : Int) := i_addN ey6 hra (by decide : (1 : Int32).toInt = ((1 : Nat) : Int)) (by omega)
    refine r_put (ty := .int) (C := RX9) (T := TX9) (N := 20) (ci := 7) hx hb hts inX9_reads_X9 tyX9 tyX9_ok nmX9 hown w (by have := D.1; omega) D.c0 rfl 17 (by decide) (hts (Cond.fieldLink RX9 204 "EarlyValuesModel" "readAt" "I") (List.mem_of_getElem? (i := 1) (by decide +kernel))) rfl rfl (by decide +kernel) rfl rfl (Nat.le_of_ble_eq_true rfl) dX9_reads_17 (fun h7 H locs eh7 w => ?_)
    have D := D.s0 eh7
    have hfr : ∀ k_, ¬ (r ≤ k_ ∧ k_ < r + 14) → h7 k_ = h k_ := fun k_ hk_ => by rw [eh7, va_up_ne _ _ (by omega)]
    refine lv_iconst (v := 1) hx hb dX9_reads_20 (by decide) ?_
    refine r_zret (v := 1) hx hb hr rfl hlocks w dX9_reads_21 ?_
    exact ⟨hfr, _, D, Or.inl ⟨rfl, by omega, ty6⟩⟩
  · have c5 : ¬ ((((sgn tx n i) : Nat) : Int) = ((cw : Nat) : Int)) := fun q => c5 ((i_eq qq3 hp0).mpr q)
    refine lv_iconst (v := 0) hx hb dX9_reads_8 (by decide) ?_
    refine r_zret (v := 0) hx hb hr rfl hlocks w dX9_reads_9 ?_
    exact ⟨hfr, _, D, Or.inr ⟨rfl, by omega, hra⟩⟩

theorem inX9_readsNumbers_X9 : ∀ w ∈ wsX90, w ∈ wsX9_readsNumbers := by decide +kernel
abbrev rm_X9_readsNumbers : Room := { frames := 2, cells := 0, slots := 0, locals := 41 }
set_option maxHeartbeats 4000000 in
set_option maxRecDepth 100000 in
theorem c_X9_readsNumbers (l : Launch) {g : GE} {h : Nat → va_E} {r : Nat} {nm kn um sv sz ra rm : Int32} {ga gk gl gB gt gn gr gp gh gv gs gx gf : Nat → Int32} (D : MdA g h r nm kn um sv sz ra rm ga gk gl gB gt gn gr gp gh gv gs gx gf) {n : Nat} {tx : Nat → Nat} (hsz : sz.toInt = (n : Int)) (hn200 : n ≤ 200) (hgx : ∀ i, i < n → (gx i).toInt = ((tx i : Nat) : Int)) (hlt : ∀ i, i < n → 32 ≤ tx i ∧ tx i ≤ 126) {i : Nat} (hn0 : nm.toInt = ((0 : Nat) : Int)) (hra : ra.toInt = (i : Int)) (hi : i ≤ 400) : MI l yX9_readsNumbers wsX9_readsNumbers rm_X9_readsNumbers [.ref (g.2.2.1 r)] g h (fun r_ h2 => (∀ k, ¬ (r ≤ k ∧ k < r + 14) → h2 k = h k) ∧ ∃ (nm2 ra2 : Int32) (ga2 : Nat → Int32) (cw : Nat), MdA g h2 r nm2 kn um sv sz ra2 rm ga2 gk gl gB gt gn gr gp gh gv gs gx gf ∧ NumE (sgn tx n) i cw ∧ nm2.toInt = ((cw : Nat) : Int) ∧ (∀ j, j < cw → (ga2 j).toInt = ((sgn tx n (i + j) - 48 : Nat) : Int)) ∧ ((r_ = 1 ∧ 0 < cw ∧ sgn tx n (i + cw) = 59 ∧ ra2.toInt = ((i + cw + 1 : Nat) : Int)) ∨ (r_ = 0 ∧ ¬ (0 < cw ∧ sgn tx n (i + cw) = 59)))) := by
  refine Met.ofW (cc := cX9_readsNumbers) (maxL := 1) (ret := (some .boolean)) (by decide) rfl ?_
  intro p e s m args below meth c s₁ B hml hv
  obtain ⟨rfl, w0⟩ := hv
  have hx := B.exec
  have hb := B.bytes
  have hr := B.returns
  have hts := atoms_spec (ws := wsX9_readsNumbers) B.pre
  have hown : s.vm.findClass RX9 = some m.cls := findClass_of_methodNamed B.named
  have hlocks := B.notSynchronized
  have w := w0.start
  clear w0
  have hl := lv_entry ([.ref (g.2.2.1 r)]) (n := 1) (Nat.le_of_ble_eq_true rfl)
  rw [lg_entry_eq]
  generalize (lg_sl ([.ref (g.2.2.1 r)]) ++ List.replicate (1 - (lg_sl ([.ref (g.2.2.1 r)])).length) Slot.unset).toArray = ls at hl ⊢
  have hl : lv_has ls 1 [(0, .ref (g.2.2.1 r))] := hl
  have cuts : ∀ N : Nat, (∀ (cw : Nat) (nm1 : Int32) (ra1 : Int32) (ga1 : Nat → Int32) (hc : Nat → va_E) (H : Heap) (locs : List Loc) (ls : Array Slot), WD g (inW g) s hc H locs → lv_has ls 1 [(0, .ref (g.2.2.1 r))] → (cw ≤ 4) → (nm1.toInt = ((cw : Nat) : Int)) → (ra1.toInt = ((i + cw : Nat) : Int)) → (∀ j, j < cw → dgt (sgn tx n (i + j))) → (∀ j, j < cw → (ga1 j).toInt = ((sgn tx n (i + j) - 48 : Nat) : Int)) → (MdA g hc r nm1 kn um sv sz ra1 rm ga1 gk gl gB gt gn gr gp gh gv gs gx gf) → (∀ k, ¬ (r ≤ k ∧ k < r + 14) → hc k = h k) → 5 - cw < N → W p l e (headSpec wsX9_readsNumbers rm_X9_readsNumbers).room s m ([.ref (g.2.2.1 r)] : List Value).toArray below meth c H locs 0 0 (MQ below (va_Qi (fun r_ h2 => (∀ k, ¬ (r ≤ k ∧ k < r + 14) → h2 k = h k) ∧ ∃ (nm2 ra2 : Int32) (ga2 : Nat → Int32) (cw : Nat), MdA g h2 r nm2 kn um sv sz ra2 rm ga2 gk gl gB gt gn gr gp gh gv gs gx gf ∧ NumE (sgn tx n) i cw ∧ nm2.toInt = ((cw : Nat) : Int) ∧ (∀ j, j < cw → (ga2 j).toInt = ((sgn tx n (i + j) - 48 : Nat) : Int)) ∧ ((r_ = 1 ∧ 0 < cw ∧ sgn tx n (i + cw) = 59 ∧ ra2.toInt = ((i + cw + 1 : Nat) : Int)) ∨ (r_ = 0 ∧ ¬ (0 < cw ∧ sgn tx n (i + cw) = 59)))) (Wd g) (inW g)) ([.ref (g.2.2.1 r)] : List Value).toArray s 0 0 (inW g)) (F0 m 0 ls [])) := by
    intro N
    induction N with
    | zero => exact by intros; omega
    | succ N ih =>
      have ih0 := ih
      · intro cw nm1 ra1 ga1 hc H locs ls w hl hc4 hnm hra1 hdg hga D hfr hN_
        refine lv_aload_n hx hb dX9_readsNumbers_0 rfl (lv_at hl 0 rfl) ?_
        refine r_callI w (va_runV (As := []) (rest := []) ⟨hx, hb, hml, hown, hts⟩ (c_X9_here l D hsz hn200 hgx hlt hra1) (cwV 0 hts gX9_readsNumbers_X9_here rfl rfl rfl (by decide +kernel) ⟨Nat.le_of_ble_eq_true rfl, Nat.le_of_ble_eq_true rfl⟩) (r_preV w (by have := D.1; omega) D.c0 rfl) rfl rfl hl.1 rfl (lv_room (Nat.le_of_ble_eq_true rfl)) dX9_readsNumbers_1 ⟨Nat.zero_le _, Nat.zero_le _⟩) (fun r2 h1 H locs hp w => ?_)
        obtain ⟨eh_, qq3⟩ := hp
        have eh_ := eh_.symm
        subst eh_
        have b4 := sgn_le (i := (i + cw)) hlt
        refine lv_bipush (v := 48) hx hb dX9_readsNumbers_4 (by decide) ?_
        refine lv_bipush (v := 51) hx hb dX9_readsNumbers_6 (by decide) ?_
        refine r_callI w (va_runS (As := [.int r2, .int 48, .int 51]) (rest := []) ⟨hx, hb, hml, hown, hts⟩ (c_X9_in l r2 48 51) (va_cwS 3 hts gX9_readsNumbers_X9_in rfl rfl rfl (by decide +kernel) ⟨Nat.le_of_ble_eq_true rfl, Nat.le_of_ble_eq_true rfl⟩) (r_preS w) rfl rfl hl.1 rfl (lv_room (Nat.le_of_ble_eq_true rfl)) dX9_readsNumbers_8 ⟨Nat.zero_le _, Nat.zero_le _⟩) (fun r6 h5 H locs hp w => ?_)
        obtain ⟨eh_, qq7⟩ := hp
        have eh_ := eh_.symm
        subst eh_
        have b8 : Bq r6 (((48 : Nat) : Int) ≤ (((sgn tx n ((i + cw))) : Nat) : Int) ∧ (((sgn tx n ((i + cw))) : Nat) : Int) ≤ ((51 : Nat) : Int)) := qq7.iff (by rw [(qq3 : (r2 : Int32).toInt = _), ((by decide : (48 : Int32).toInt = ((48 : Nat) : Int)) : (48 : Int32).toInt = _), ((by decide : (51 : Int32).toInt = ((51 : Nat) : Int)) : (51 : Int32).toInt = _)])
        refine lv_if_eq (tgt := 61) hx hb dX9_readsNumbers_11 (by decide) (fun c9 => ?_) (fun c9 => ?_)
        · have c9 := b8.eq c9
          refine lv_aload_n hx hb dX9_readsNumbers_61 rfl (lv_at hl 0 rfl) ?_
          refine r_get (C := RX9) (T := TX9) (N := 20) (ci := 7) hx hb hts inX9_readsNumbers_X9 hown w (by have := D.1; omega) D.c0 rfl 0 (by decide) (hts (Cond.fieldLink RX9 49 "EarlyValuesModel" "many" "I") (List.mem_of_getElem? (i := 1) (by decide +kernel))) rfl rfl dX9_readsNumbers_62 ?_
          refine lv_if_le (tgt := 81) hx hb dX9_readsNumbers_65 (by decide) (fun c10 => ?_) (fun c10 => ?_)
          · have c10 : ((cw : Nat) : Int) ≤ (0 : Int) := (i_le hnm (rfl : (0 : Int32).toInt = 0)).mp c10
            refine lv_iconst (v := 0) hx hb dX9_readsNumbers_81 (by decide) ?_
            refine r_zret (v := 0) hx hb hr rfl hlocks w dX9_readsNumbers_82 ?_
            exact ⟨hfr, _, _, _, cw, D, ⟨by omega, hdg, by first | exact Or.inl (by omega) | exact Or.inr (fun q_ => by unfold dgt at q_; omega)⟩, hnm, hga, Or.inr ⟨rfl, fun q_ => by have := q_.1; omega⟩⟩
          · have c10 : ¬ (((cw : Nat) : Int) ≤ (0 : Int)) := fun q => c10 ((i_le hnm (rfl : (0 : Int32).toInt = 0)).mpr q)
            refine lv_aload_n hx hb dX9_readsNumbers_68 rfl (lv_at hl 0 rfl) ?_
            refine lv_bipush (v := 59) hx hb dX9_readsNumbers_69 (by decide) ?_
            refine r_callI w (va_runV (As := [.int 59]) (rest := []) ⟨hx, hb, hml, hown, hts⟩ (c_X9_reads l D hsz hn200 hgx hlt hra1 (by omega) 59 (by decide : (59 : Int32).toInt = ((59 : Nat) : Int))) (cwV 1 hts gX9_readsNumbers_X9_reads rfl rfl rfl (by decide +kernel) ⟨Nat.le_of_ble_eq_true rfl, Nat.le_of_ble_eq_true rfl⟩) (r_preV w (by have := D.1; omega) D.c0 rfl) rfl rfl hl.1 rfl (lv_room (Nat.le_of_ble_eq_true rfl)) dX9_readsNumbers_71 ⟨Nat.zero_le _, Nat.zero_le _⟩) (fun r12 h11 H locs hp w => ?_)
            obtain ⟨hfk13, rak13, D, hRk13⟩ := hp
            have hfr : ∀ k_, ¬ (r ≤ k_ ∧ k_ < r + 14) → h11 k_ = h k_ := fun k_ hk_ => (hfk13 k_ (by omega)).trans (hfr k_ hk_)
            have hbk13 : Bq r12 ((sgn tx n ((i + cw))) = 59) := hRk13.elim (fun q_ => Or.inl ⟨q_.1, q_.2.1⟩) (fun q_ => Or.inr ⟨q_.1, q_.2.1⟩)
            have hck13 : (sgn tx n ((i + cw))) = 59 → rak13.toInt = (((i + cw) + 1 : Nat) : Int) := fun z_ => hRk13.elim (fun q_ => q_.2.2) (fun q_ => absurd z_ q_.2.1)
            refine lv_if_eq (tgt := 81) hx hb dX9_readsNumbers_74 (by decide) (fun c14 => ?_) (fun c14 => ?_)
            · have c14 := hbk13.eq c14
              refine lv_iconst (v := 0) hx hb dX9_readsNumbers_81 (by decide) ?_
              refine r_zret (v := 0) hx hb hr rfl hlocks w dX9_readsNumbers_82 ?_
              exact ⟨hfr, _, _, _, cw, D, ⟨by omega, hdg, by first | exact Or.inl (by omega) | exact Or.inr (fun q_ => by unfold dgt at q_; omega)⟩, hnm, hga, Or.inr ⟨rfl, fun q_ => by exact c14 q_.2⟩⟩
            · have c14 := hbk13.ne c14
              refine lv_iconst (v := 1) hx hb dX9_readsNumbers_77 (by decide) ?_
              refine lv_goto (tgt := 82) hx hb dX9_readsNumbers_78 (by decide) ?_
              refine r_zret (v := 1) hx hb hr rfl hlocks w dX9_readsNumbers_82 ?_
              exact ⟨hfr, _, _, _, cw, D, ⟨by omega, hdg, by first | exact Or.inl (by omega) | exact Or.inr (fun q_ => by unfold dgt at q_; omega)⟩, hnm, hga, Or.inl ⟨rfl, by omega, c14, hck13 c14⟩⟩
        · have c9 := b8.ne c9
          refine lv_aload_n hx hb dX9_readsNumbers_14 rfl (lv_at hl 0 rfl) ?_
          refine r_get (C := RX9) (T := TX9) (N := 20) (ci := 7) hx hb hts inX9_readsNumbers_X9 hown w (by have := D.1; omega) D.c0 rfl 0 (by decide) (hts (Cond.fieldLink RX9 49 "EarlyValuesModel" "many" "I") (List.mem_of_getElem? (i := 1) (by decide +kernel))) rfl rfl dX9_readsNumbers_15 ?_
          refine lv_iconst (v := 4) hx hb dX9_readsNumbers_18 (by decide) ?_
          refine lv_icmp_ge (tgt := 61) hx hb dX9_readsNumbers_19 (by decide) (fun c15 => ?_) (fun c15 => ?_)
          · have c15 : ((4 : Nat) : Int) ≤ ((cw : Nat) : Int) := (i_le (by decide : (4 : Int32).toInt = ((4 : Nat) : Int)) hnm).mp c15
            refine lv_aload_n hx hb dX9_readsNumbers_61 rfl (lv_at hl 0 rfl) ?_
            refine r_get (C := RX9) (T := TX9) (N := 20) (ci := 7) hx hb hts inX9_readsNumbers_X9 hown w (by have := D.1; omega) D.c0 rfl 0 (by decide) (hts (Cond.fieldLink RX9 49 "EarlyValuesModel" "many" "I") (List.mem_of_getElem? (i := 1) (by decide +kernel))) rfl rfl dX9_readsNumbers_62 ?_
            refine lv_if_le (tgt := 81) hx hb dX9_readsNumbers_65 (by decide) (fun c16 => ?_) (fun c16 => ?_)
            · have c16 : ((cw : Nat) : Int) ≤ (0 : Int) := (i_le hnm (rfl : (0 : Int32).toInt = 0)).mp c16
              refine lv_iconst (v := 0) hx hb dX9_readsNumbers_81 (by decide) ?_
              refine r_zret (v := 0) hx hb hr rfl hlocks w dX9_readsNumbers_82 ?_
              exact ⟨hfr, _, _, _, cw, D, ⟨by omega, hdg, by first | exact Or.inl (by omega) | exact Or.inr (fun q_ => by unfold dgt at q_; omega)⟩, hnm, hga, Or.inr ⟨rfl, fun q_ => by have := q_.1; omega⟩⟩
            · have c16 : ¬ (((cw : Nat) : Int) ≤ (0 : Int)) := fun q => c16 ((i_le hnm (rfl : (0 : Int32).toInt = 0)).mpr q)
              refine lv_aload_n hx hb dX9_readsNumbers_68 rfl (lv_at hl 0 rfl) ?_
              refine lv_bipush (v := 59) hx hb dX9_readsNumbers_69 (by decide) ?_
              refine r_callI w (va_runV (As := [.int 59]) (rest := []) ⟨hx, hb, hml, hown, hts⟩ (c_X9_reads l D hsz hn200 hgx hlt hra1 (by omega) 59 (by decide : (59 : Int32).toInt = ((59 : Nat) : Int))) (cwV 1 hts gX9_readsNumbers_X9_reads rfl rfl rfl (by decide +kernel) ⟨Nat.le_of_ble_eq_true rfl, Nat.le_of_ble_eq_true rfl⟩) (r_preV w (by have := D.1; omega) D.c0 rfl) rfl rfl hl.1 rfl (lv_room (Nat.le_of_ble_eq_true rfl)) dX9_readsNumbers_71 ⟨Nat.zero_le _, Nat.zero_le _⟩) (fun r18 h17 H locs hp w => ?_)
              obtain ⟨hfk19, rak19, D, hRk19⟩ := hp
              have hfr : ∀ k_, ¬ (r ≤ k_ ∧ k_ < r + 14) → h17 k_ = h k_ := fun k_ hk_ => (hfk19 k_ (by omega)).trans (hfr k_ hk_)
              have hbk19 : Bq r18 ((sgn tx n ((i + cw))) = 59) := hRk19.elim (fun q_ => Or.inl ⟨q_.1, q_.2.1⟩) (fun q_ => Or.inr ⟨q_.1, q_.2.1⟩)
              have hck19 : (sgn tx n ((i + cw))) = 59 → rak19.toInt = (((i + cw) + 1 : Nat) : Int) := fun z_ => hRk19.elim (fun q_ => q_.2.2) (fun q_ => absurd z_ q_.2.1)
              refine lv_if_eq (tgt := 81) hx hb dX9_readsNumbers_74 (by decide) (fun c20 => ?_) (fun c20 => ?_)
              · have c20 := hbk19.eq c20
                refine lv_iconst (v := 0) hx hb dX9_readsNumbers_81 (by decide) ?_
                refine r_zret (v := 0) hx hb hr rfl hlocks w dX9_readsNumbers_82 ?_
                exact ⟨hfr, _, _, _, cw, D, ⟨by omega, hdg, by first | exact Or.inl (by omega) | exact Or.inr (fun q_ => by unfold dgt at q_; omega)⟩, hnm, hga, Or.inr ⟨rfl, fun q_ => by exact c20 q_.2⟩⟩
              · have c20 := hbk19.ne c20
                refine lv_iconst (v := 1) hx hb dX9_readsNumbers_77 (by decide) ?_
                refine lv_goto (tgt := 82) hx hb dX9_readsNumbers_78 (by decide) ?_
                refine r_zret (v := 1) hx hb hr rfl hlocks w dX9_readsNumbers_82 ?_
                exact ⟨hfr, _, _, _, cw, D, ⟨by omega, hdg, by first | exact Or.inl (by omega) | exact Or.inr (fun q_ => by unfold dgt at q_; omega)⟩, hnm, hga, Or.inl ⟨rfl, by omega, c20, hck19 c20⟩⟩
          · have c15 : ¬ (((4 : Nat) : Int) ≤ ((cw : Nat) : Int)) := fun q => c15 ((i_le (by decide : (4 : Int32).toInt = ((4 : Nat) : Int)) hnm).mpr q)
            refine lv_aload_n hx hb dX9_readsNumbers_22 rfl (lv_at hl 0 rfl) ?_
            refine r_get (C := RX9) (T := TX9) (N := 20) (ci := 7) hx hb hts inX9_readsNumbers_X9 hown w (by have := D.1; omega) D.c0 rfl 1 (by decide) (hts (Cond.fieldLink RX9 7 "EarlyValuesModel" "argsOf" "[I") (List.mem_of_getElem? (i := 2) (by decide +kernel))) rfl rfl dX9_readsNumbers_23 ?_
            refine lv_aload_n hx hb dX9_readsNumbers_26 rfl (lv_at hl 0 rfl) ?_
            refine r_get (C := RX9) (T := TX9) (N := 20) (ci := 7) hx hb hts inX9_readsNumbers_X9 hown w (by have := D.1; omega) D.c0 rfl 0 (by decide) (hts (Cond.fieldLink RX9 49 "EarlyValuesModel" "many" "I") (List.mem_of_getElem? (i := 1) (by decide +kernel))) rfl rfl dX9_readsNumbers_27 ?_
            refine lv_aload_n hx hb dX9_readsNumbers_30 rfl (lv_at hl 0 rfl) ?_
            refine r_callI w (va_runV (As := []) (rest := [.int nm1, .ref (g.2.2.1 (r + 1))]) ⟨hx, hb, hml, hown, hts⟩ (c_X9_here l D hsz hn200 hgx hlt hra1) (cwV 0 hts gX9_readsNumbers_X9_here rfl rfl rfl (by decide +kernel) ⟨Nat.le_of_ble_eq_true rfl, Nat.le_of_ble_eq_true rfl⟩) (r_preV w (by have := D.1; omega) D.c0 rfl) rfl rfl hl.1 rfl (lv_room (Nat.le_of_ble_eq_true rfl)) dX9_readsNumbers_31 ⟨Nat.zero_le _, Nat.zero_le _⟩) (fun r22 h21 H locs hp w => ?_)
            obtain ⟨eh_, qq23⟩ := hp
            have eh_ := eh_.symm
            subst eh_
            have b24 := sgn_le (i := (i + cw)) hlt
            refine lv_bipush (v := 48) hx hb dX9_readsNumbers_34 (by decide) ?_
            refine lv_isub hx hb dX9_readsNumbers_36 ?_
            refine lv_topi (fun y25 ey25 => ?_)
            have ty25 : y25.toInt = ((((sgn tx n ((i + cw))) - 48) : Nat) : Int) := i_subN ey25 qq23 (by decide : (48 : Int32).toInt = ((48 : Nat) : Int)) (by omega)
            refine r_iast (j := cw) hx hb w (by have := D.1; omega) D.c1 hnm (by omega) dX9_readsNumbers_37 (fun h26 H locs eh26 w => ?_)
            have D := D.s1 eh26
            generalize egz27 : upd ga1 cw y25 = gz27 at D
            have hfr : ∀ k_, ¬ (r ≤ k_ ∧ k_ < r + 14) → h26 k_ = h k_ := fun k_ hk_ => by rw [eh26, va_up_ne _ _ (by omega)]; exact hfr k_ hk_
            refine lv_aload_n hx hb dX9_readsNumbers_38 rfl (lv_at hl 0 rfl) ?_
            refine lv_dup hx hb dX9_readsNumbers_39 rfl ?_
            refine r_get (C := RX9) (T := TX9) (N := 20) (ci := 7) hx hb hts inX9_readsNumbers_X9 hown w (by have := D.1; omega) D.c0 rfl 0 (by decide) (hts (Cond.fieldLink RX9 49 "EarlyValuesModel" "many" "I") (List.mem_of_getElem? (i := 1) (by decide +kernel))) rfl rfl dX9_readsNumbers_40 ?_
            refine lv_iconst (v := 1) hx hb dX9_readsNumbers_43 (by decide) ?_
            refine lv_iadd hx hb dX9_readsNumbers_44 ?_
            refine lv_topi (fun y28 ey28 => ?_)
            have ty28 : y28.toInt = (((cw + 1) : Nat) : Int) := i_addN ey28 hnm (by decide : (1 : Int32).toInt = ((1 : Nat) : Int)) (by omega)
            refine r_put (ty := .int) (C := RX9) (T := TX9) (N := 20) (ci := 7) hx hb hts inX9_readsNumbers_X9 tyX9 tyX9_ok nmX9 hown w (by have := D.1; omega) D.c0 rfl 0 (by decide) (hts (Cond.fieldLink RX9 49 "EarlyValuesModel" "many" "I") (List.mem_of_getElem? (i := 1) (by decide +kernel))) rfl rfl (by decide +kernel) rfl rfl (Nat.le_of_ble_eq_true rfl) dX9_readsNumbers_45 (fun h29 H locs eh29 w => ?_)
            have D := D.s0 eh29
            have hfr : ∀ k_, ¬ (r ≤ k_ ∧ k_ < r + 14) → h29 k_ = h k_ := fun k_ hk_ => by rw [eh29, va_up_ne _ _ (by omega)]; exact hfr k_ hk_
            refine lv_aload_n hx hb dX9_readsNumbers_48 rfl (lv_at hl 0 rfl) ?_
            refine lv_dup hx hb dX9_readsNumbers_49 rfl ?_
            refine r_get (C := RX9) (T := TX9) (N := 20) (ci := 7) hx hb hts inX9_readsNumbers_X9 hown w (by have := D.1; omega) D.c0 rfl 17 (by decide) (hts (Cond.fieldLink RX9 204 "EarlyValuesModel" "readAt" "I") (List.mem_of_getElem? (i := 3) (by decide +kernel))) rfl rfl dX9_readsNumbers_50 ?_
            refine lv_iconst (v := 1) hx hb dX9_readsNumbers_53 (by decide) ?_
            refine lv_iadd hx hb dX9_readsNumbers_54 ?_
            refine lv_topi (fun y30 ey30 => ?_)
            have ty30 : y30.toInt = ((((i + cw) + 1) : Nat) : Int) := i_addN ey30 hra1 (by decide : (1 : Int32).toInt = ((1 : Nat) : Int)) (by omega)
            refine r_put (ty := .int) (C := RX9) (T := TX9) (N := 20) (ci := 7) hx hb hts inX9_readsNumbers_X9 tyX9 tyX9_ok nmX9 hown w (by have := D.1; omega) D.c0 rfl 17 (by decide) (hts (Cond.fieldLink RX9 204 "EarlyValuesModel" "readAt" "I") (List.mem_of_getElem? (i := 3) (by decide +kernel))) rfl rfl (by decide +kernel) rfl rfl (Nat.le_of_ble_eq_true rfl) dX9_readsNumbers_55 (fun h31 H locs eh31 w => ?_)
            have D := D.s0 eh31
            have hfr : ∀ k_, ¬ (r ≤ k_ ∧ k_ < r + 14) → h31 k_ = h k_ := fun k_ hk_ => by rw [eh31, va_up_ne _ _ (by omega)]; exact hfr k_ hk_
            refine lv_goto (tgt := 0) hx hb dX9_readsNumbers_58 (by decide) ?_
            exact ih0 (cw + 1) y28 y30 gz27 h31 _ _ _ w (lv_sub hl [0] rfl) (by omega) ty28 (ty30.trans (by omega)) (fun j_ hj_ => by rcases Nat.lt_succ_iff_lt_or_eq.mp hj_ with z_ | z_; exact hdg j_ z_; rw [z_]; exact ⟨by omega, by omega⟩) (nm_up hga ty25 egz27) D hfr (by omega)
  have ih0 := cuts (10)
  exact ih0 0 nm ra ga h _ _ _ w (lv_sub hl [0] rfl) (Nat.zero_le _) hn0 hra (fun j_ hj_ => absurd hj_ (Nat.not_lt_zero _)) (fun j_ hj_ => absurd hj_ (Nat.not_lt_zero _)) D (fun k_ _ => rfl) (by omega)

theorem inX9_readsBody_X9 : ∀ w ∈ wsX90, w ∈ wsX9_readsBody := by decide +kernel
abbrev rm_X9_readsBody : Room := { frames := 2, cells := 0, slots := 0, locals := 44 }
set_option maxHeartbeats 4000000 in
set_option maxRecDepth 100000 in
theorem c_X9_readsBody (l : Launch) {g : GE} {h : Nat → va_E} {r : Nat} {nm kn um sv sz ra rm : Int32} {ga gk gl gB gt gn gr gp gh gv gs gx gf : Nat → Int32} (D : MdA g h r nm kn um sv sz ra rm ga gk gl gB gt gn gr gp gh gv gs gx gf) {n : Nat} {tx : Nat → Nat} (hsz : sz.toInt = (n : Int)) (hn200 : n ≤ 200) (hgx : ∀ i, i < n → (gx i).toInt = ((tx i : Nat) : Int)) (hlt : ∀ i, i < n → 32 ≤ tx i ∧ tx i ≤ 126) {pn : Nat} {pa : Nat → Nat} (hn : nm.toInt = (pn : Int)) (hn4 : pn ≤ 4) (ha : ∀ i, i < pn → (ga i).toInt = (pa i : Int) ∧ pa i ≤ 3) {f i : Nat} (p0 : Int32) (hp0 : p0.toInt = (f : Int)) (hf : f < pn) (hra : ra.toInt = (i : Int)) (hi : i ≤ 400) : MI l yX9_readsBody wsX9_readsBody rm_X9_readsBody [.ref (g.2.2.1 r), .int p0] g h (fun r_ h2 => (∀ k, ¬ (r ≤ k ∧ k < r + 14) → h2 k = h k) ∧ ∃ (ra2 : Int32) (gl2 gB2 : Nat → Int32), MdA g h2 r nm kn um sv sz ra2 rm ga gk gl2 gB2 gt gn gr gp gh gv gs gx gf ∧ (∀ q, q ≠ f → gl2 q = gl q) ∧ (∀ q, (q < 24 * f ∨ 24 * f + 24 ≤ q) → gB2 q = gB q) ∧ ((r_ = 1 ∧ ∃ p9, p9 ≤ 24 ∧ BodyR (sgn tx n) pn pa f i p9 0 ∧ sgn tx n (i + p9) = 59 ∧ ra2.toInt = ((i + p9 + 1 : Nat) : Int) ∧ (gl2 f).toInt = ((p9 : Nat) : Int) ∧ ∀ j, j < p9 → (gB2 (24 * f + j)).toInt = ((sgn tx n (i + j) : Nat) : Int)) ∨ (r_ = 0 ∧ ¬ ∃ p9, p9 ≤ 24 ∧ BodyR (sgn tx n) pn pa f i p9 0 ∧ sgn tx n (i + p9) = 59))) := by
  refine Met.ofW (cc := cX9_readsBody) (maxL := 5) (ret := (some .boolean)) (by decide) rfl ?_
  intro p e s m args below meth c s₁ B hml hv
  obtain ⟨rfl, w0⟩ := hv
  have hx := B.exec
  have hb := B.bytes
  have hr := B.returns
  have hts := atoms_spec (ws := wsX9_readsBody) B.pre
  have hown : s.vm.findClass RX9 = some m.cls := findClass_of_methodNamed B.named
  have hlocks := B.notSynchronized
  have w := w0.start
  clear w0
  have hl := lv_entry ([.ref (g.2.2.1 r), .int p0]) (n := 5) (Nat.le_of_ble_eq_true rfl)
  rw [lg_entry_eq]
  generalize (lg_sl ([.ref (g.2.2.1 r), .int p0]) ++ List.replicate (5 - (lg_sl ([.ref (g.2.2.1 r), .int p0])).length) Slot.unset).toArray = ls at hl ⊢
  have hl : lv_has ls 5 [(0, .ref (g.2.2.1 r)), (1, .int p0)] := hl
  have cuts : ∀ N : Nat, (∀ (p9 : Nat) (m9 : Nat) (x2 : Int32) (x3 : Int32) (ra1 : Int32) (gB1 : Nat → Int32) (hc : Nat → va_E) (H : Heap) (locs : List Loc) (ls : Array Slot), WD g (inW g) s hc H locs → lv_has ls 5 [(0, .ref (g.2.2.1 r)), (1, .int p0), (2, .int x2), (3, .int x3)] → (p9 ≤ 24) → (BodyR (sgn tx n) pn pa f i p9 m9) → (x2.toInt = ((m9 : Nat) : Int)) → (x3.toInt = ((p9 : Nat) : Int)) → (ra1.toInt = ((i + p9 : Nat) : Int)) → ((∀ j, j < p9 → (gB1 (24 * f + j)).toInt = ((sgn tx n (i + j) : Nat) : Int)) ∧ ∀ q, (q < 24 * f ∨ 24 * f + 24 ≤ q) → gB1 q = gB q) → (MdA g hc r nm kn um sv sz ra1 rm ga gk gl gB1 gt gn gr gp gh gv gs gx gf) → (∀ k, ¬ (r ≤ k ∧ k < r + 14) → hc k = h k) → 25 - p9 < N → W p l e (headSpec wsX9_readsBody rm_X9_readsBody).room s m ([.ref (g.2.2.1 r), .int p0] : List Value).toArray below meth c H locs 0 0 (MQ below (va_Qi (fun r_ h2 => (∀ k, ¬ (r ≤ k ∧ k < r + 14) → h2 k = h k) ∧ ∃ (ra2 : Int32) (gl2 gB2 : Nat → Int32), MdA g h2 r nm kn um sv sz ra2 rm ga gk gl2 gB2 gt gn gr gp gh gv gs gx gf ∧ (∀ q, q ≠ f → gl2 q = gl q) ∧ (∀ q, (q < 24 * f ∨ 24 * f + 24 ≤ q) → gB2 q = gB q) ∧ ((r_ = 1 ∧ ∃ p9, p9 ≤ 24 ∧ BodyR (sgn tx n) pn pa f i p9 0 ∧ sgn tx n (i + p9) = 59 ∧ ra2.toInt = ((i + p9 + 1 : Nat) : Int) ∧ (gl2 f).toInt = ((p9 : Nat) : Int) ∧ ∀ j, j < p9 → (gB2 (24 * f + j)).toInt = ((sgn tx n (i + j) : Nat) : Int)) ∨ (r_ = 0 ∧ ¬ ∃ p9, p9 ≤ 24 ∧ BodyR (sgn tx n) pn pa f i p9 0 ∧ sgn tx n (i + p9) = 59))) (Wd g) (inW g)) ([.ref (g.2.2.1 r), .int p0] : List Value).toArray s 0 0 (inW g)) (F0 m 4 ls [])) := by
    intro N
    induction N with
    | zero => exact by intros; omega
    | succ N ih =>
      have ih4 := ih
      · intro p9 m9 x2 x3 ra1 gB1 hc H locs ls w hl hp24 hbr hx2 hx3 hra1 hgb D hfr hN_
        refine lv_iload_n hx hb dX9_readsBody_4 rfl (lv_at hl 2 rfl) ?_
        refine lv_if_le (tgt := 93) hx hb dX9_readsBody_5 (by decide) (fun c1 => ?_) (fun c1 => ?_)
        · have c1 : ((m9 : Nat) : Int) ≤ (0 : Int) := (i_le hx2 (rfl : (0 : Int32).toInt = 0)).mp c1
          refine lv_aload_n hx hb dX9_readsBody_93 rfl (lv_at hl 0 rfl) ?_
          refine r_get (C := RX9) (T := TX9) (N := 20) (ci := 7) hx hb hts inX9_readsBody_X9 hown w (by have := D.1; omega) D.c0 rfl 3 (by decide) (hts (Cond.fieldLink RX9 16 "EarlyValuesModel" "longOf" "[I") (List.mem_of_getElem? (i := 5) (by decide +kernel))) rfl rfl dX9_readsBody_94 ?_
          refine lv_iload_n hx hb dX9_readsBody_97 rfl (lv_at hl 1 rfl) ?_
          refine lv_iload_n hx hb dX9_readsBody_98 rfl (lv_at hl 3 rfl) ?_
          refine r_iast (j := f) hx hb w (by have := D.1; omega) D.c3 hp0 (by omega) dX9_readsBody_99 (fun h2 H locs eh2 w => ?_)
          have D := D.s3 eh2
          generalize egz3 : upd gl f x3 = gz3 at D
          have hfr : ∀ k_, ¬ (r ≤ k_ ∧ k_ < r + 14) → h2 k_ = h k_ := fun k_ hk_ => by rw [eh2, va_up_ne _ _ (by omega)]; exact hfr k_ hk_
          refine lv_iload_n hx hb dX9_readsBody_100 rfl (lv_at hl 2 rfl) ?_
          refine lv_if_ne (tgt := 117) hx hb dX9_readsBody_101 (by decide) (fun c4 => ?_) (fun c4 => ?_)
          · have c4 : ¬ (((m9 : Nat) : Int) = (0 : Int)) := fun q => c4 ((i_eq hx2 (rfl : (0 : Int32).toInt = 0)).mpr q)
            refine lv_iconst (v := 0) hx hb dX9_readsBody_117 (by decide) ?_
            refine r_zret (v := 0) hx hb hr rfl hlocks w dX9_readsBody_118 ?_
            refine ⟨hfr, _, _, _, D, fun q_ hq_ => by rw [← egz3, pk_un hq_], hgb.2, Or.inr ⟨rfl, ?_⟩⟩
            rintro ⟨q9_, h1_, h2_, h3_⟩
            exact hbr.stop (by omega) (Or.inl (by omega)) h1_ h2_
          · have c4 : ((m9 : Nat) : Int) = (0 : Int) := (i_eq hx2 (rfl : (0 : Int32).toInt = 0)).mp c4
            refine lv_aload_n hx hb dX9_readsBody_104 rfl (lv_at hl 0 rfl) ?_
            refine lv_bipush (v := 59) hx hb dX9_readsBody_105 (by decide) ?_
            refine r_callI w (va_runV (As := [.int 59]) (rest := []) ⟨hx, hb, hml, hown, hts⟩ (c_X9_reads l D hsz hn200 hgx hlt hra1 (by omega) 59 (by decide : (59 : Int32).toInt = ((59 : Nat) : Int))) (cwV 1 hts gX9_readsBody_X9_reads rfl rfl rfl (by decide +kernel) ⟨Nat.le_of_ble_eq_true rfl, Nat.le_of_ble_eq_true rfl⟩) (r_preV w (by have := D.1; omega) D.c0 rfl) rfl rfl hl.1 rfl (lv_room (Nat.le_of_ble_eq_true rfl)) dX9_readsBody_107 ⟨Nat.zero_le _, Nat.zero_le _⟩) (fun r6 h5 H locs hp w => ?_)
            obtain ⟨hfk7, rak7, D, hRk7⟩ := hp
            have hfr : ∀ k_, ¬ (r ≤ k_ ∧ k_ < r + 14) → h5 k_ = h k_ := fun k_ hk_ => (hfk7 k_ (by omega)).trans (hfr k_ hk_)
            have hbk7 : Bq r6 ((sgn tx n ((i + p9))) = 59) := hRk7.elim (fun q_ => Or.inl ⟨q_.1, q_.2.1⟩) (fun q_ => Or.inr ⟨q_.1, q_.2.1⟩)
            have hck7 : (sgn tx n ((i + p9))) = 59 → rak7.toInt = (((i + p9) + 1 : Nat) : Int) := fun z_ => hRk7.elim (fun q_ => q_.2.2) (fun q_ => absurd z_ q_.2.1)
            refine lv_if_eq (tgt := 117) hx hb dX9_readsBody_110 (by decide) (fun c8 => ?_) (fun c8 => ?_)
            · have c8 := hbk7.eq c8
              refine lv_iconst (v := 0) hx hb dX9_readsBody_117 (by decide) ?_
              refine r_zret (v := 0) hx hb hr rfl hlocks w dX9_readsBody_118 ?_
              have hm0_ : m9 = 0 := by omega
              subst hm0_
              refine ⟨hfr, _, _, _, D, fun q_ hq_ => by rw [← egz3, pk_un hq_], hgb.2, Or.inr ⟨rfl, ?_⟩⟩
              rintro ⟨q9_, h1_, h2_, h3_⟩
              rw [h2_.uni hbr] at h3_
              exact c8 h3_
            · have c8 := hbk7.ne c8
              refine lv_iconst (v := 1) hx hb dX9_readsBody_113 (by decide) ?_
              refine lv_goto (tgt := 118) hx hb dX9_readsBody_114 (by decide) ?_
              refine r_zret (v := 1) hx hb hr rfl hlocks w dX9_readsBody_118 ?_
              have hm0_ : m9 = 0 := by omega
              subst hm0_
              exact ⟨hfr, _, _, _, D, fun q_ hq_ => by rw [← egz3, pk_un hq_], hgb.2, Or.inl ⟨rfl, p9, by omega, hbr, c8, hck7 c8, by rw [← egz3, pk_us]; exact hx3, hgb.1⟩⟩
        · have c1 : ¬ (((m9 : Nat) : Int) ≤ (0 : Int)) := fun q => c1 ((i_le hx2 (rfl : (0 : Int32).toInt = 0)).mpr q)
          refine lv_iload_n hx hb dX9_readsBody_8 rfl (lv_at hl 3 rfl) ?_
          refine lv_bipush (v := 24) hx hb dX9_readsBody_9 (by decide) ?_
          refine lv_icmp_ge (tgt := 93) hx hb dX9_readsBody_11 (by decide) (fun c9 => ?_) (fun c9 => ?_)
          · have c9 : ((24 : Nat) : Int) ≤ ((p9 : Nat) : Int) := (i_le (by decide : (24 : Int32).toInt = ((24 : Nat) : Int)) hx3).mp c9
            refine lv_aload_n hx hb dX9_readsBody_93 rfl (lv_at hl 0 rfl) ?_
            refine r_get (C := RX9) (T := TX9) (N := 20) (ci := 7) hx hb hts inX9_readsBody_X9 hown w (by have := D.1; omega) D.c0 rfl 3 (by decide) (hts (Cond.fieldLink RX9 16 "EarlyValuesModel" "longOf" "[I") (List.mem_of_getElem? (i := 5) (by decide +kernel))) rfl rfl dX9_readsBody_94 ?_
            refine lv_iload_n hx hb dX9_readsBody_97 rfl (lv_at hl 1 rfl) ?_
            refine lv_iload_n hx hb dX9_readsBody_98 rfl (lv_at hl 3 rfl) ?_
            refine r_iast (j := f) hx hb w (by have := D.1; omega) D.c3 hp0 (by omega) dX9_readsBody_99 (fun h10 H locs eh10 w => ?_)
            have D := D.s3 eh10
            generalize egz11 : upd gl f x3 = gz11 at D
            have hfr : ∀ k_, ¬ (r ≤ k_ ∧ k_ < r + 14) → h10 k_ = h k_ := fun k_ hk_ => by rw [eh10, va_up_ne _ _ (by omega)]; exact hfr k_ hk_
            refine lv_iload_n hx hb dX9_readsBody_100 rfl (lv_at hl 2 rfl) ?_
            refine lv_if_ne (tgt := 117) hx hb dX9_readsBody_101 (by decide) (fun c12 => ?_) (fun c12 => ?_)
            · have c12 : ¬ (((m9 : Nat) : Int) = (0 : Int)) := fun q => c12 ((i_eq hx2 (rfl : (0 : Int32).toInt = 0)).mpr q)
              refine lv_iconst (v := 0) hx hb dX9_readsBody_117 (by decide) ?_
              refine r_zret (v := 0) hx hb hr rfl hlocks w dX9_readsBody_118 ?_
              refine ⟨hfr, _, _, _, D, fun q_ hq_ => by rw [← egz11, pk_un hq_], hgb.2, Or.inr ⟨rfl, ?_⟩⟩
              rintro ⟨q9_, h1_, h2_, h3_⟩
              exact hbr.stop (by omega) (Or.inl (by omega)) h1_ h2_
            · have c12 : ((m9 : Nat) : Int) = (0 : Int) := (i_eq hx2 (rfl : (0 : Int32).toInt = 0)).mp c12
              refine lv_aload_n hx hb dX9_readsBody_104 rfl (lv_at hl 0 rfl) ?_
              refine lv_bipush (v := 59) hx hb dX9_readsBody_105 (by decide) ?_
              refine r_callI w (va_runV (As := [.int 59]) (rest := []) ⟨hx, hb, hml, hown, hts⟩ (c_X9_reads l D hsz hn200 hgx hlt hra1 (by omega) 59 (by decide : (59 : Int32).toInt = ((59 : Nat) : Int))) (cwV 1 hts gX9_readsBody_X9_reads rfl rfl rfl (by decide +kernel) ⟨Nat.le_of_ble_eq_true rfl, Nat.le_of_ble_eq_true rfl⟩) (r_preV w (by have := D.1; omega) D.c0 rfl) rfl rfl hl.1 rfl (lv_room (Nat.le_of_ble_eq_true rfl)) dX9_readsBody_107 ⟨Nat.zero_le _, Nat.zero_le _⟩) (fun r14 h13 H locs hp w => ?_)
              obtain ⟨hfk15, rak15, D, hRk15⟩ := hp
              have hfr : ∀ k_, ¬ (r ≤ k_ ∧ k_ < r + 14) → h13 k_ = h k_ := fun k_ hk_ => (hfk15 k_ (by omega)).trans (hfr k_ hk_)
              have hbk15 : Bq r14 ((sgn tx n ((i + p9))) = 59) := hRk15.elim (fun q_ => Or.inl ⟨q_.1, q_.2.1⟩) (fun q_ => Or.inr ⟨q_.1, q_.2.1⟩)
              have hck15 : (sgn tx n ((i + p9))) = 59 → rak15.toInt = (((i + p9) + 1 : Nat) : Int) := fun z_ => hRk15.elim (fun q_ => q_.2.2) (fun q_ => absurd z_ q_.2.1)
              refine lv_if_eq (tgt := 117) hx hb dX9_readsBody_110 (by decide) (fun c16 => ?_) (fun c16 => ?_)
              · have c16 := hbk15.eq c16
                refine lv_iconst (v := 0) hx hb dX9_readsBody_117 (by decide) ?_
                refine r_zret (v := 0) hx hb hr rfl hlocks w dX9_readsBody_118 ?_
                have hm0_ : m9 = 0 := by omega
                subst hm0_
                refine ⟨hfr, _, _, _, D, fun q_ hq_ => by rw [← egz11, pk_un hq_], hgb.2, Or.inr ⟨rfl, ?_⟩⟩
                rintro ⟨q9_, h1_, h2_, h3_⟩
                rw [h2_.uni hbr] at h3_
                exact c16 h3_
              · have c16 := hbk15.ne c16
                refine lv_iconst (v := 1) hx hb dX9_readsBody_113 (by decide) ?_
                refine lv_goto (tgt := 118) hx hb dX9_readsBody_114 (by decide) ?_
                refine r_zret (v := 1) hx hb hr rfl hlocks w dX9_readsBody_118 ?_
                have hm0_ : m9 = 0 := by omega
                subst hm0_
                exact ⟨hfr, _, _, _, D, fun q_ hq_ => by rw [← egz11, pk_un hq_], hgb.2, Or.inl ⟨rfl, p9, by omega, hbr, c16, hck15 c16, by rw [← egz11, pk_us]; exact hx3, hgb.1⟩⟩
          · have c9 : ¬ (((24 : Nat) : Int) ≤ ((p9 : Nat) : Int)) := fun q => c9 ((i_le (by decide : (24 : Int32).toInt = ((24 : Nat) : Int)) hx3).mpr q)
            have hmb0_ := BodyR.ub (fun i_ hi_ => (ha i_ hi_).2) hbr
            refine lv_aload_n hx hb dX9_readsBody_14 rfl (lv_at hl 0 rfl) ?_
            refine r_get (C := RX9) (T := TX9) (N := 20) (ci := 7) hx hb hts inX9_readsBody_X9 hown w (by have := D.1; omega) D.c0 rfl 17 (by decide) (hts (Cond.fieldLink RX9 204 "EarlyValuesModel" "readAt" "I") (List.mem_of_getElem? (i := 1) (by decide +kernel))) rfl rfl dX9_readsBody_15 ?_
            refine lv_aload_n hx hb dX9_readsBody_18 rfl (lv_at hl 0 rfl) ?_
            refine r_get (C := RX9) (T := TX9) (N := 20) (ci := 7) hx hb hts inX9_readsBody_X9 hown w (by have := D.1; omega) D.c0 rfl 16 (by decide) (hts (Cond.fieldLink RX9 201 "EarlyValuesModel" "size" "I") (List.mem_of_getElem? (i := 2) (by decide +kernel))) rfl rfl dX9_readsBody_19 ?_
            refine lv_icmp_ge (tgt := 42) hx hb dX9_readsBody_22 (by decide) (fun c17 => ?_) (fun c17 => ?_)
            · have c17 : ((n : Nat) : Int) ≤ (((i + p9) : Nat) : Int) := (i_le hsz hra1).mp c17
              refine lv_bipush (v := (-4)) hx hb dX9_readsBody_42 (by decide) ?_
              refine lv_istore (lv' := [(4, .int ((-4))), (0, .ref (g.2.2.1 r)), (1, .int p0), (2, .int x2), (3, .int x3)]) hx hb dX9_readsBody_44 hl (by decide) rfl (fun ls hl => ?_)
              refine lv_iload hx hb dX9_readsBody_46 (lv_at hl 0 rfl) ?_
              refine lv_bipush (v := (-4)) hx hb dX9_readsBody_48 (by decide) ?_
              refine lv_icmp_ne (tgt := 55) hx hb dX9_readsBody_50 (by decide) (fun c18 => ?_) (fun c18 => ?_)
              · have c18 : ¬ ((-4 : Int) = (-4 : Int)) := fun q => c18 ((i_eq (by decide : (-4 : Int32).toInt = (-4 : Int)) (by decide : (-4 : Int32).toInt = (-4 : Int))).mpr q)
                exact absurd rfl c18
              · have c18 : (-4 : Int) = (-4 : Int) := (i_eq (by decide : (-4 : Int32).toInt = (-4 : Int)) (by decide : (-4 : Int32).toInt = (-4 : Int))).mp c18
                refine lv_iconst (v := 0) hx hb dX9_readsBody_53 (by decide) ?_
                refine r_zret (v := 0) hx hb hr rfl hlocks w dX9_readsBody_54 ?_
                refine ⟨hfr, _, _, _, D, fun _ _ => rfl, hgb.2, Or.inr ⟨rfl, ?_⟩⟩
                rintro ⟨q9_, h1_, h2_, h3_⟩
                exact hbr.stop (by omega) (Or.inr (fun q_ => by have s9_ := sgn_le (i := i + p9) hlt; have e9_ := s9_.2.2 (by omega); rw [e9_] at q_; exact absurd q_.1 (by decide))) h1_ h2_
            · have c17 : ¬ (((n : Nat) : Int) ≤ (((i + p9) : Nat) : Int)) := fun q => c17 ((i_le hsz hra1).mpr q)
              refine lv_aload_n hx hb dX9_readsBody_25 rfl (lv_at hl 0 rfl) ?_
              refine lv_aload_n hx hb dX9_readsBody_26 rfl (lv_at hl 0 rfl) ?_
              refine r_callI w (va_runV (As := []) (rest := [.ref (g.2.2.1 r)]) ⟨hx, hb, hml, hown, hts⟩ (c_X9_here l D hsz hn200 hgx hlt hra1) (cwV 0 hts gX9_readsBody_X9_here rfl rfl rfl (by decide +kernel) ⟨Nat.le_of_ble_eq_true rfl, Nat.le_of_ble_eq_true rfl⟩) (r_preV w (by have := D.1; omega) D.c0 rfl) rfl rfl hl.1 rfl (lv_room (Nat.le_of_ble_eq_true rfl)) dX9_readsBody_27 ⟨Nat.zero_le _, Nat.zero_le _⟩) (fun r20 h19 H locs hp w => ?_)
              obtain ⟨eh_, qq21⟩ := hp
              have eh_ := eh_.symm
              subst eh_
              have b22 := sgn_le (i := (i + p9)) hlt
              refine lv_aload_n hx hb dX9_readsBody_30 rfl (lv_at hl 0 rfl) ?_
              refine r_get (C := RX9) (T := TX9) (N := 20) (ci := 7) hx hb hts inX9_readsBody_X9 hown w (by have := D.1; omega) D.c0 rfl 1 (by decide) (hts (Cond.fieldLink RX9 7 "EarlyValuesModel" "argsOf" "[I") (List.mem_of_getElem? (i := 3) (by decide +kernel))) rfl rfl dX9_readsBody_31 ?_
              refine lv_iload_n hx hb dX9_readsBody_34 rfl (lv_at hl 1 rfl) ?_
              refine r_iald (j := f) hx hb w (by have := D.1; omega) D.c1 hp0 (by omega) dX9_readsBody_35 ?_
              refine r_callI w (va_runV (As := [.int r20, .int (ga f)]) (rest := []) ⟨hx, hb, hml, hown, hts⟩ (c_X9_partsOf l D hn hn4 ha r20 (ga f) hf (ha f (by omega)).1) (cwV 2 hts gX9_readsBody_X9_partsOf rfl rfl rfl (by decide +kernel) ⟨Nat.le_of_ble_eq_true rfl, Nat.le_of_ble_eq_true rfl⟩) (r_preV w (by have := D.1; omega) D.c0 rfl) rfl rfl hl.1 rfl (lv_room (Nat.le_of_ble_eq_true rfl)) dX9_readsBody_36 ⟨Nat.zero_le _, Nat.zero_le _⟩) (fun r24 h23 H locs hp w => ?_)
              obtain ⟨eh_, qq25⟩ := hp
              have eh_ := eh_.symm
              subst eh_
              rw [(qq21 : (r20 : Int32).toInt = _)] at qq25
              refine lv_goto (tgt := 44) hx hb dX9_readsBody_39 (by decide) ?_
              refine lv_istore (lv' := [(4, .int r24), (0, .ref (g.2.2.1 r)), (1, .int p0), (2, .int x2), (3, .int x3)]) hx hb dX9_readsBody_44 hl (by decide) rfl (fun ls hl => ?_)
              refine lv_iload hx hb dX9_readsBody_46 (lv_at hl 0 rfl) ?_
              refine lv_bipush (v := (-4)) hx hb dX9_readsBody_48 (by decide) ?_
              refine lv_icmp_ne (tgt := 55) hx hb dX9_readsBody_50 (by decide) (fun c26 => ?_) (fun c26 => ?_)
              · have c26 : ¬ (r24.toInt = (-4 : Int)) := fun q => c26 ((i_eq (rfl : r24.toInt = r24.toInt) (by decide : (-4 : Int32).toInt = (-4 : Int))).mpr q)
                obtain ⟨hk1_, hk2_, hk3_⟩ := qq25.resolve_right (fun q_ => c26 (by have := q_.2; omega))
                have hmb_ := BodyR.ub (fun i_ hi_ => (ha i_ hi_).2) hbr
                have hmp_ := mParts_le (k := mNum ((sgn tx n (i + p9) : Nat) : Int)) (fun i_ hi_ => (ha i_ hi_).2)
                refine lv_aload_n hx hb dX9_readsBody_55 rfl (lv_at hl 1 rfl) ?_
                refine r_get (C := RX9) (T := TX9) (N := 20) (ci := 7) hx hb hts inX9_readsBody_X9 hown w (by have := D.1; omega) D.c0 rfl 4 (by decide) (hts (Cond.fieldLink RX9 19 "EarlyValuesModel" "body" "[I") (List.mem_of_getElem? (i := 4) (by decide +kernel))) rfl rfl dX9_readsBody_56 ?_
                refine lv_bipush (v := 24) hx hb dX9_readsBody_59 (by decide) ?_
                refine lv_iload_n hx hb dX9_readsBody_61 rfl (lv_at hl 2 rfl) ?_
                refine lv_imul hx hb dX9_readsBody_62 ?_
                refine lv_topi (fun y27 ey27 => ?_)
                have ty27 : y27.toInt = (((24 * f) : Nat) : Int) := i_mulN ey27 (by decide : (24 : Int32).toInt = ((24 : Nat) : Int)) hp0 (by omega)
                refine lv_iload_n hx hb dX9_readsBody_63 rfl (lv_at hl 4 rfl) ?_
                refine lv_iadd hx hb dX9_readsBody_64 ?_
                refine lv_topi (fun y28 ey28 => ?_)
                have ty28 : y28.toInt = ((((24 * f) + p9) : Nat) : Int) := i_addN ey28 ty27 hx3 (by omega)
                refine lv_aload_n hx hb dX9_readsBody_65 rfl (lv_at hl 1 rfl) ?_
                refine r_callI w (va_runV (As := []) (rest := [.int y28, .ref (g.2.2.1 (r + 4))]) ⟨hx, hb, hml, hown, hts⟩ (c_X9_here l D hsz hn200 hgx hlt hra1) (cwV 0 hts gX9_readsBody_X9_here rfl rfl rfl (by decide +kernel) ⟨Nat.le_of_ble_eq_true rfl, Nat.le_of_ble_eq_true rfl⟩) (r_preV w (by have := D.1; omega) D.c0 rfl) rfl rfl hl.1 rfl (lv_room (Nat.le_of_ble_eq_true rfl)) dX9_readsBody_66 ⟨Nat.zero_le _, Nat.zero_le _⟩) (fun r30 h29 H locs hp w => ?_)
                obtain ⟨eh_, qq31⟩ := hp
                have eh_ := eh_.symm
                subst eh_
                have b32 := sgn_le (i := (i + p9)) hlt
                refine r_iast (j := ((24 * f) + p9)) hx hb w (by have := D.1; omega) D.c4 ty28 (by omega) dX9_readsBody_69 (fun h33 H locs eh33 w => ?_)
                have D := D.s4 eh33
                generalize egz34 : upd gB1 (((24 * f) + p9)) r30 = gz34 at D
                have hfr : ∀ k_, ¬ (r ≤ k_ ∧ k_ < r + 14) → h33 k_ = h k_ := fun k_ hk_ => by rw [eh33, va_up_ne _ _ (by omega)]; exact hfr k_ hk_
                obtain ⟨y35, ey35⟩ : ∃ y : Int32, y = x3 + (1) := ⟨_, rfl⟩
                have ty35 : y35.toInt = (((p9 + 1) : Nat) : Int) := i_addN ey35 hx3 (by decide : (1 : Int32).toInt = ((1 : Nat) : Int)) (by omega)
                refine lv_iinc (v := y35) (lv' := [(3, .int y35), (4, .int r24), (0, .ref (g.2.2.1 r)), (1, .int p0), (2, .int x2)]) hx hb dX9_readsBody_70 hl (k := 4) rfl (by rw [ey35]; rfl) (by decide) rfl (fun ls hl => ?_)
                refine lv_iload_n hx hb dX9_readsBody_73 rfl (lv_at hl 4 rfl) ?_
                refine lv_iload hx hb dX9_readsBody_74 (lv_at hl 1 rfl) ?_
                refine lv_iconst (v := 1) hx hb dX9_readsBody_76 (by decide) ?_
                refine lv_isub hx hb dX9_readsBody_77 ?_
                refine lv_topi (fun y36 ey36 => ?_)
                have ty36 : y36.toInt = (((mParts pn pa (mNum ((sgn tx n (i + p9) : Nat) : Int))) : Nat) : Int) - ((1 : Nat) : Int) := i_sub ey36 hk3_ (by decide : (1 : Int32).toInt = ((1 : Nat) : Int)) (by omega)
                refine lv_iadd hx hb dX9_readsBody_78 ?_
                refine lv_topi (fun y37 ey37 => ?_)
                have ty37 : y37.toInt = ((m9 : Nat) : Int) + ((((mParts pn pa (mNum ((sgn tx n (i + p9) : Nat) : Int))) : Nat) : Int) - ((1 : Nat) : Int)) := i_add ey37 hx2 ty36 (by omega)
                refine lv_istore_n (lv' := [(2, .int y37), (3, .int y35), (4, .int r24), (0, .ref (g.2.2.1 r)), (1, .int p0)]) hx hb dX9_readsBody_79 rfl hl (by decide) rfl (fun ls hl => ?_)
                refine lv_aload_n hx hb dX9_readsBody_80 rfl (lv_at hl 3 rfl) ?_
                refine lv_dup hx hb dX9_readsBody_81 rfl ?_
                refine r_get (C := RX9) (T := TX9) (N := 20) (ci := 7) hx hb hts inX9_readsBody_X9 hown w (by have := D.1; omega) D.c0 rfl 17 (by decide) (hts (Cond.fieldLink RX9 204 "EarlyValuesModel" "readAt" "I") (List.mem_of_getElem? (i := 1) (by decide +kernel))) rfl rfl dX9_readsBody_82 ?_
                refine lv_iconst (v := 1) hx hb dX9_readsBody_85 (by decide) ?_
                refine lv_iadd hx hb dX9_readsBody_86 ?_
                refine lv_topi (fun y38 ey38 => ?_)
                have ty38 : y38.toInt = ((((i + p9) + 1) : Nat) : Int) := i_addN ey38 hra1 (by decide : (1 : Int32).toInt = ((1 : Nat) : Int)) (by omega)
                refine r_put (ty := .int) (C := RX9) (T := TX9) (N := 20) (ci := 7) hx hb hts inX9_readsBody_X9 tyX9 tyX9_ok nmX9 hown w (by have := D.1; omega) D.c0 rfl 17 (by decide) (hts (Cond.fieldLink RX9 204 "EarlyValuesModel" "readAt" "I") (List.mem_of_getElem? (i := 1) (by decide +kernel))) rfl rfl (by decide +kernel) rfl rfl (Nat.le_of_ble_eq_true rfl) dX9_readsBody_87 (fun h39 H locs eh39 w => ?_)
                have D := D.s0 eh39
                have hfr : ∀ k_, ¬ (r ≤ k_ ∧ k_ < r + 14) → h39 k_ = h k_ := fun k_ hk_ => by rw [eh39, va_up_ne _ _ (by omega)]; exact hfr k_ hk_
                refine lv_goto (tgt := 4) hx hb dX9_readsBody_90 (by decide) ?_
                exact ih4 (p9 + 1) ((m9 + mParts pn pa (mNum ((sgn tx n (i + p9) : Nat) : Int)) - 1)) y37 y35 y38 gz34 h39 _ _ _ w (lv_sub hl [3, 4, 0, 1] rfl) (by omega) (⟨m9, hbr, by omega, hk1_, hk2_, rfl⟩) (ty37.trans (by omega)) ty35 (ty38.trans (by omega)) (bd_up hgb (by omega) qq31 egz34) D hfr (by omega)
              · have c26 : r24.toInt = (-4 : Int) := (i_eq (rfl : r24.toInt = r24.toInt) (by decide : (-4 : Int32).toInt = (-4 : Int))).mp c26
                refine lv_iconst (v := 0) hx hb dX9_readsBody_53 (by decide) ?_
                refine r_zret (v := 0) hx hb hr rfl hlocks w dX9_readsBody_54 ?_
                refine ⟨hfr, _, _, _, D, fun _ _ => rfl, hgb.2, Or.inr ⟨rfl, ?_⟩⟩
                rintro ⟨q9_, h1_, h2_, h3_⟩
                exact hbr.stop (by omega) (Or.inr (fun q_ => by rcases qq25 with z_ | z_; have := z_.2.2; omega; exact z_.1 q_)) h1_ h2_
  have ih4 := cuts (30)
  refine lv_iconst (v := 1) hx hb dX9_readsBody_0 (by decide) ?_
  refine lv_istore_n (lv' := [(2, .int 1), (0, .ref (g.2.2.1 r)), (1, .int p0)]) hx hb dX9_readsBody_1 rfl hl (by decide) rfl (fun ls hl => ?_)
  refine lv_iconst (v := 0) hx hb dX9_readsBody_2 (by decide) ?_
  refine lv_istore_n (lv' := [(3, .int 0), (2, .int 1), (0, .ref (g.2.2.1 r)), (1, .int p0)]) hx hb dX9_readsBody_3 rfl hl (by decide) rfl (fun ls hl => ?_)
  exact ih4 0 1 1 0 ra gB h _ _ _ w (lv_sub hl [2, 3, 1, 0] rfl) (Nat.zero_le _) rfl ((by decide : (1 : Int32).toInt = ((1 : Nat) : Int))) ((by decide : (0 : Int32).toInt = ((0 : Nat) : Int))) hra (⟨fun j_ hj_ => absurd hj_ (Nat.not_lt_zero _), fun _ _ => rfl⟩) D (fun k_ _ => rfl) (by omega)

