/-- a snapshot stands for functions -/
def SN (M : PRG) (gz : Nat → Int32) (a : Nat) : Prop := RS M (gz a) (fun i => gz (a + 1 + i)) (fun i => gz (a + 5 + i)) (fun i => gz (a + 9 + i)) (fun k => gz (a + 13 + k))
theorem SnapE.sn {gz : Nat → Int32} {a : Nat} {nm : Int32} {ga gk gl gB : Nat → Int32} {M : PRG} (h : SnapE gz a nm ga gk gl gB) (hP : PV M) (S : RS M nm ga gk gl gB) : SN M gz a :=
  h.rs ⟨rfl, fun _ _ => ⟨rfl, rfl, rfl⟩, fun _ _ => rfl⟩ hP S
theorem SN.rs {gz : Nat → Int32} {a : Nat} {nm : Int32} {ga gk gl gB : Nat → Int32} {M : PRG} (S : SN M gz a) (h : SnapE gz a nm ga gk gl gB) (hP : PV M) : RS M nm ga gk gl gB :=
  SnapE.rs ⟨rfl, fun _ _ => ⟨rfl, rfl, rfl⟩, fun _ _ => rfl⟩ h hP S
theorem SN.fr {M : PRG} {gz gz' : Nat → Int32} {a : Nat} (hP : PV M) (h : SN M gz a) (e : ∀ q, a ≤ q → q < a + 109 → gz' q = gz q) : SN M gz' a :=
  SnapE.sn (SnapE.fr ⟨rfl, fun _ _ => ⟨rfl, rfl, rfl⟩, fun _ _ => rfl⟩ e) hP h
theorem SN.sh {M : PRG} {gz gz' : Nat → Int32} {a b : Nat} (hP : PV M) (h : SN M gz a) (e : ∀ q, q < 109 → gz' (b + q) = gz (a + q)) : SN M gz' b := by
  have h4 := hP.2.1
  obtain ⟨h1, h2, h3, h4', h5⟩ := h
  refine ⟨?_, fun i hi => ?_, fun i hi => ?_, fun i hi => ?_, fun i hi j hj => ?_⟩
  · have := e 0 (by omega); simp only [Nat.add_zero] at this; rw [this]; exact h1
  · show (gz' (b + 1 + i)).toInt = _
    rw [Nat.add_assoc, e _ (by omega), ← Nat.add_assoc]; exact h2 i hi
  · show (gz' (b + 5 + i)).toInt = _
    rw [Nat.add_assoc, e _ (by omega), ← Nat.add_assoc]; exact h3 i hi
  · show (gz' (b + 9 + i)).toInt = _
    rw [Nat.add_assoc, e _ (by omega), ← Nat.add_assoc]; exact h4' i hi
  · have := (hP.2.2 i hi).2.2.2.1
    show (gz' (b + 13 + (24 * i + j))).toInt = _
    rw [Nat.add_assoc, e _ (by omega), ← Nat.add_assoc]; exact h5 i hi j hj
/-- what a run has come to: functions, acts to be undone (what was ahead of each), functions kept, the text -/
abbrev ST : Type := PRG × (Nat × (Nat → PRG)) × (Nat × (Nat → PRG)) × (Nat × (Nat → Nat))
abbrev sM (s : ST) : PRG := s.1
abbrev sU (s : ST) : Nat := s.2.1.1
abbrev sUs (s : ST) : Nat → PRG := s.2.1.2
abbrev sV (s : ST) : Nat := s.2.2.1.1
abbrev sVs (s : ST) : Nat → PRG := s.2.2.1.2
abbrev sL (s : ST) : Nat := s.2.2.2.1
abbrev sT (s : ST) : Nat → Nat := s.2.2.2.2
def SV (s : ST) : Prop := PV (sM s) ∧ sU s ≤ 8 ∧ (∀ i, i < sU s → PV (sUs s i)) ∧ sV s ≤ 2 ∧ (∀ i, i < sV s → PV (sVs s i)) ∧ sL s ≤ 200 ∧ ∀ i, i < sL s → 32 ≤ sT s i ∧ sT s i ≤ 126
/-- the reference's arrays stand for s -/
def RfS (s : ST) (nm kn um sv sz : Int32) (ga gk gl gB gt gr gh gv gx : Nat → Int32) : Prop :=
  SV s ∧ RS (sM s) nm ga gk gl gB ∧ (kn = 0 ∨ (kn = 1 ∧ RAll (sM s) gt gr)) ∧ um.toInt = ((sU s : Nat) : Int) ∧ (∀ i, i < sU s → SN (sUs s i) gh (109 * i)) ∧ sv.toInt = ((sV s : Nat) : Int) ∧ (∀ i, i < sV s → SN (sVs s i) gv (109 * i)) ∧ sz.toInt = ((sL s : Nat) : Int) ∧ ∀ i, i < sL s → (gx i).toInt = ((sT s i : Nat) : Int)
/-- the reference stands for s -/
def RefA (g : GE) (h : Nat → va_E) (r : Nat) (s : ST) : Prop :=
  ∃ (nm kn um sv sz ra rm : Int32) (ga gk gl gB gt gn gr gp gh gv gs gx gf : Nat → Int32), MdA g h r nm kn um sv sz ra rm ga gk gl gB gt gn gr gp gh gv gs gx gf ∧ RfS s nm kn um sv sz ga gk gl gB gt gr gh gv gx
theorem RefA.fr {g : GE} {h h' : Nat → va_E} {r : Nat} {s : ST} (R : RefA g h r s) (hf : ∀ k, r ≤ k → k < r + 14 → h' k = h k) : RefA g h' r s := by
  obtain ⟨nm, kn, um, sv, sz, ra, rm, ga, gk, gl, gB, gt, gn, gr, gp, gh, gv, gs, gx, gf, D, z⟩ := R
  exact ⟨nm, kn, um, sv, sz, ra, rm, ga, gk, gl, gB, gt, gn, gr, gp, gh, gv, gs, gx, gf, D.fr hf, z⟩
-- ===== what calls answer =====
def AnWrite (s : ST) (p : Int32) (r : Int32) (s' : ST) : Prop :=
  (¬ (32 ≤ p.toInt ∧ p.toInt ≤ 126) ∧ r.toInt = -1 ∧ s' = s) ∨ ((32 ≤ p.toInt ∧ p.toInt ≤ 126) ∧ sL s = 200 ∧ r.toInt = -3 ∧ s' = s) ∨
  ((32 ≤ p.toInt ∧ p.toInt ≤ 126) ∧ sL s < 200 ∧ r.toInt = ((sL s + 1 : Nat) : Int) ∧ s' = (s.1, s.2.1, s.2.2.1, (sL s + 1, fun i => if i = sL s then p.toInt.toNat else sT s i)))
def AnWipe (s : ST) (r : Int32) (s' : ST) : Prop := r.toInt = ((sL s : Nat) : Int) ∧ s' = (s.1, s.2.1, s.2.2.1, (0, sT s))
def AnFunction (s : ST) (p q : Int32) (r : Int32) : Prop :=
  (∃ f, p.toInt = ((f : Nat) : Int) ∧ f < pN (sM s) ∧ ((q.toInt = 0 ∧ r.toInt = ((pK (sM s) f : Nat) : Int)) ∨ (q.toInt = 1 ∧ r.toInt = ((pA (sM s) f : Nat) : Int)) ∨ (q.toInt = 2 ∧ r.toInt = ((pL (sM s) f : Nat) : Int)))) ∨
  (¬ (0 ≤ p.toInt ∧ p.toInt < ((pN (sM s) : Nat) : Int) ∧ 0 ≤ q.toInt ∧ q.toInt ≤ 2) ∧ r.toInt = -1)
def AnLetter (s : ST) (p q : Int32) (r : Int32) : Prop :=
  (∃ f j, p.toInt = ((f : Nat) : Int) ∧ q.toInt = ((j : Nat) : Int) ∧ f < pN (sM s) ∧ j < pL (sM s) f ∧ r.toInt = ((mCode (pB (sM s) f j) : Nat) : Int)) ∨
  ((¬ ∃ f j, p.toInt = ((f : Nat) : Int) ∧ q.toInt = ((j : Nat) : Int) ∧ f < pN (sM s) ∧ j < pL (sM s) f) ∧ r.toInt = -1)
/-- an act's note: an older one gives way to a ninth -/
def nAct (s : ST) (M : PRG) : ST := if sU s = 8 then (M, (8, fun i => if i = 7 then sM s else sUs s (i + 1)), s.2.2) else (M, (sU s + 1, fun i => if i = sU s then sM s else sUs s i), s.2.2)
def AnPut (s : ST) (p q k : Int32) (r : Int32) (s' : ST) : Prop :=
  (∃ f j, p.toInt = ((f : Nat) : Int) ∧ q.toInt = ((j : Nat) : Int) ∧ f < pN (sM s) ∧ j < pL (sM s) f ∧ mNum k.toInt < 14 ∧ mFit (sM s) f j (mNum k.toInt) ∧ ((pB (sM s) f j = mNum k.toInt ∧ r.toInt = -2 ∧ s' = s) ∨ (pB (sM s) f j ≠ mNum k.toInt ∧ r.toInt = ((mCode (pB (sM s) f j) : Nat) : Int) ∧ s' = nAct s (mSet (sM s) f j (mNum k.toInt))))) ∨
  ((¬ ∃ f j, p.toInt = ((f : Nat) : Int) ∧ q.toInt = ((j : Nat) : Int) ∧ f < pN (sM s) ∧ j < pL (sM s) f ∧ mNum k.toInt < 14 ∧ mFit (sM s) f j (mNum k.toInt)) ∧ r.toInt = -1 ∧ s' = s)
def AnRename (s : ST) (p k : Int32) (r : Int32) (s' : ST) : Prop :=
  (∃ f c, p.toInt = ((f : Nat) : Int) ∧ k.toInt = ((c : Nat) : Int) ∧ f < pN (sM s) ∧ c ≤ 3 ∧ ((pK (sM s) f = c ∧ r.toInt = -2 ∧ s' = s) ∨ (pK (sM s) f ≠ c ∧ r.toInt = ((pK (sM s) f : Nat) : Int) ∧ s' = nAct s (mKind (sM s) f c)))) ∨
  ((¬ (0 ≤ p.toInt ∧ p.toInt < ((pN (sM s) : Nat) : Int) ∧ 0 ≤ k.toInt ∧ k.toInt ≤ 3)) ∧ r.toInt = -1 ∧ s' = s)
def AnUndo (s : ST) (r : Int32) (s' : ST) : Prop := (sU s = 0 ∧ r.toInt = -2 ∧ s' = s) ∨ (0 < sU s ∧ r.toInt = ((sU s - 1 : Nat) : Int) ∧ s' = (sUs s (sU s - 1), (sU s - 1, sUs s), s.2.2))
def AnKeep (s : ST) (r : Int32) (s' : ST) : Prop := (sV s = 2 ∧ r.toInt = -3 ∧ s' = s) ∨ (sV s < 2 ∧ r.toInt = ((sV s + 1 : Nat) : Int) ∧ s' = (s.1, s.2.1, (sV s + 1, fun i => if i = sV s then sM s else sVs s i), s.2.2.2))
def AnBack (s : ST) (r : Int32) (s' : ST) : Prop := (sV s = 0 ∧ r.toInt = -2 ∧ s' = s) ∨ (0 < sV s ∧ r.toInt = ((sV s - 1 : Nat) : Int) ∧ s' = (sVs s (sV s - 1), (0, sUs s), (sV s - 1, sVs s), s.2.2.2))
/-- a value of the table of one kind, by digits -/
def AnTab (u : Nat) (s : ST) (p x y z : Int32) (r : Int32) : Prop :=
  (∃ f a b c, p.toInt = ((f : Nat) : Int) ∧ x.toInt = ((a : Nat) : Int) ∧ y.toInt = ((b : Nat) : Int) ∧ z.toInt = ((c : Nat) : Int) ∧ f < pN (sM s) ∧ mIs u (pA (sM s) f) a b c ∧ ∃ K, IsK u (sM s) K ∧ r.toInt = ((mTab u (sM s) K f (a + mB u * b + mB u * mB u * c) : Nat) : Int)) ∨
  ((¬ ∃ f a b c, p.toInt = ((f : Nat) : Int) ∧ x.toInt = ((a : Nat) : Int) ∧ y.toInt = ((b : Nat) : Int) ∧ z.toInt = ((c : Nat) : Int) ∧ f < pN (sM s) ∧ mIs u (pA (sM s) f) a b c) ∧ r.toInt = -1)
def AnRounds (s : ST) (p : Int32) (r : Int32) : Prop := (∃ u K, p.toInt = ((u : Nat) : Int) ∧ u < 3 ∧ IsK u (sM s) K ∧ r.toInt = ((K : Nat) : Int)) ∨ (¬ (0 ≤ p.toInt ∧ p.toInt ≤ 2) ∧ r.toInt = -1)
def AnCount (s : ST) (p : Int32) (r : Int32) : Prop :=
  (p.toInt = 0 ∧ r.toInt = ((pN (sM s) : Nat) : Int)) ∨ (p.toInt = 1 ∧ r.toInt = ((sm (pL (sM s)) (pN (sM s)) : Nat) : Int)) ∨ (p.toInt = 2 ∧ r.toInt = ((sm (pA (sM s)) (pN (sM s)) : Nat) : Int)) ∨ (p.toInt = 3 ∧ r.toInt = ((sU s : Nat) : Int)) ∨ (p.toInt = 4 ∧ r.toInt = ((sV s : Nat) : Int)) ∨ (p.toInt = 5 ∧ r.toInt = ((sL s : Nat) : Int)) ∨ (¬ (0 ≤ p.toInt ∧ p.toInt ≤ 5) ∧ r.toInt = -1)
theorem RS.put {M : PRG} {nm : Int32} {ga gk gl gB gz : Nat → Int32} {f j k : Nat} {x : Int32} (S : RS M nm ga gk gl gB) (hP : PV M) (hf : f < pN M) (hj : j < pL M f) (hx : x.toInt = ((mCode k : Nat) : Int)) (e : upd gB (24 * f + j) x = gz) : RS (mSet M f j k) nm ga gk gl gz := by
  subst e
  refine ⟨S.1, S.2.1, S.2.2.1, S.2.2.2.1, fun a ha b hb => ?_⟩
  show (upd gB (24 * f + j) x (24 * a + b)).toInt = ((mCode (if a = f ∧ b = j then k else pB M a b) : Nat) : Int)
  have h1 := (hP.2.2 f hf).2.2.2.1
  have h2 := (hP.2.2 a ha).2.2.2.1
  have hb2 : b < pL M a := hb
  by_cases q : a = f ∧ b = j
  · rw [if_pos q, q.1, q.2, pk_us]; exact hx
  · rw [if_neg q, pk_un (by omega)]; exact S.2.2.2.2 a ha b hb
theorem RS.kind {M : PRG} {nm : Int32} {ga gk gl gB gz : Nat → Int32} {f c : Nat} {x : Int32} (S : RS M nm ga gk gl gB) (hx : x.toInt = ((c : Nat) : Int)) (e : upd gk f x = gz) : RS (mKind M f c) nm ga gz gl gB := by
  subst e
  refine ⟨S.1, S.2.1, fun a ha => ?_, S.2.2.2.1, S.2.2.2.2⟩
  show (upd gk f x a).toInt = (((if a = f then c else pK M a) : Nat) : Int)
  by_cases q : a = f
  · rw [if_pos q, q, pk_us]; exact hx
  · rw [if_neg q, pk_un q]; exact S.2.2.1 a ha
/-- what notes() leaves -/
def NtE (n : Nat) (um2 : Int32) (gh gh2 : Nat → Int32) (nm : Int32) (ga gk gl gB : Nat → Int32) : Prop :=
  (n < 8 ∧ um2.toInt = ((n + 1 : Nat) : Int) ∧ SnapE gh2 (109 * n) nm ga gk gl gB ∧ ∀ q, q < 109 * n → gh2 q = gh q) ∨ (n = 8 ∧ um2.toInt = ((8 : Nat) : Int) ∧ SnapE gh2 763 nm ga gk gl gB ∧ ∀ q, q < 763 → gh2 q = gh (q + 109))
theorem nact_M (s : ST) (M : PRG) : sM (nAct s M) = M ∧ sV (nAct s M) = sV s ∧ sVs (nAct s M) = sVs s ∧ sL (nAct s M) = sL s ∧ sT (nAct s M) = sT s := by
  unfold nAct; split <;> exact ⟨rfl, rfl, rfl, rfl, rfl⟩
theorem nact_ok {s : ST} {M' : PRG} {um2 nm : Int32} {gh gh2 ga gk gl gB : Nat → Int32} (hSV : SV s) (S : RS (sM s) nm ga gk gl gB) (hUs : ∀ i, i < sU s → SN (sUs s i) gh (109 * i)) (hN : NtE (sU s) um2 gh gh2 nm ga gk gl gB) (hP' : PV M') :
    SV (nAct s M') ∧ um2.toInt = ((sU (nAct s M') : Nat) : Int) ∧ ∀ i, i < sU (nAct s M') → SN (sUs (nAct s M') i) gh2 (109 * i) := by
  obtain ⟨hP, hu8, hUP, hrest⟩ := hSV
  rcases hN with ⟨a, b, c, d⟩ | ⟨a, b, c, d⟩
  · have e : nAct s M' = (M', (sU s + 1, fun i => if i = sU s then sM s else sUs s i), s.2.2) := by unfold nAct; rw [if_neg (by omega)]
    rw [e]
    refine ⟨⟨hP', by show sU s + 1 ≤ 8; omega, fun i hi => ?_, hrest⟩, b, fun i hi => ?_⟩
    · show PV (if i = sU s then sM s else sUs s i)
      have hi' : i < sU s + 1 := hi
      split
      · exact hP
      · exact hUP i (by omega)
    · show SN (if i = sU s then sM s else sUs s i) gh2 (109 * i)
      have hi' : i < sU s + 1 := hi
      split
      · rename_i q; rw [q]; exact c.sn hP S
      · exact (hUs i (by omega)).fr (hUP i (by omega)) (fun q _ h2 => d q (by omega))
  · have e : nAct s M' = (M', (8, fun i => if i = 7 then sM s else sUs s (i + 1)), s.2.2) := by unfold nAct; rw [if_pos a]
    rw [e]
    refine ⟨⟨hP', by show 8 ≤ 8; omega, fun i hi => ?_, hrest⟩, b, fun i hi => ?_⟩
    · show PV (if i = 7 then sM s else sUs s (i + 1))
      have hi' : i < 8 := hi
      split
      · exact hP
      · exact hUP (i + 1) (by omega)
    · show SN (if i = 7 then sM s else sUs s (i + 1)) gh2 (109 * i)
      have hi' : i < 8 := hi
      split
      · rename_i q; rw [q]; exact c.sn hP S
      · exact (hUs (i + 1) (by omega)).sh (hUP (i + 1) (by omega)) (fun q hq => by rw [d _ (by omega)]; congr 1; omega)
theorem sh_up {i : Nat} {gh gh1 gz : Nat → Int32} (h : ∀ q, gh1 q = if q < i then gh (q + 109) else gh q) (e : upd gh1 i (gh1 (i + 109)) = gz) : ∀ q, gz q = if q < i + 1 then gh (q + 109) else gh q := by
  subst e
  intro q
  by_cases z : q = i
  · rw [z, pk_us, h, if_neg (by omega), if_pos (by omega)]
  · rw [pk_un z, h]
    by_cases y : q < i
    · rw [if_pos y, if_pos (by omega)]
    · rw [if_neg y, if_neg (by omega)]
theorem tx_up {n : Nat} {gx gz : Nat → Int32} {tx : Nat → Nat} {x : Int32} (h : ∀ i, i < n → (gx i).toInt = ((tx i : Nat) : Int)) (hx : 0 ≤ x.toInt) (e : upd gx n x = gz) : ∀ i, i < n + 1 → (gz i).toInt = (((if i = n then x.toInt.toNat else tx i) : Nat) : Int) := by
  subst e
  intro i hi
  by_cases q : i = n
  · rw [if_pos q, q, pk_us]; omega
  · rw [if_neg q, pk_un q]; exact h i (by omega)
theorem inX9_mayStand_X9 : ∀ w ∈ wsX90, w ∈ wsX9_mayStand := by decide +kernel
abbrev rm_X9_mayStand : Room := { frames := 2, cells := 0, slots := 0, locals := 44 }
set_option maxHeartbeats 4000000 in
set_option maxRecDepth 100000 in
theorem c_X9_mayStand (l : Launch) {g : GE} {h : Nat → va_E} {r : Nat} {nm kn um sv sz ra rm : Int32} {ga gk gl gB gt gn gr gp gh gv gs gx gf : Nat → Int32} (D : MdA g h r nm kn um sv sz ra rm ga gk gl gB gt gn gr gp gh gv gs gx gf) {M : PRG} (S : RS M nm ga gk gl gB) (hP : PV M) {f pl : Nat} (p0 p1 p2 : Int32) (hp0 : p0.toInt = (f : Int)) (hp1 : p1.toInt = (pl : Int)) (hf : f < pN M) (hpl : pl < pL M f) : MI l yX9_mayStand wsX9_mayStand rm_X9_mayStand [.ref (g.2.2.1 r), .int p0, .int p1, .int p2] g h (fun r_ h2 => h2 = h ∧ Bq r_ (mNum p2.toInt < 14 ∧ mFit M f pl (mNum p2.toInt))) := by
  refine Met.ofW (cc := cX9_mayStand) (maxL := 5) (ret := (some .boolean)) (by decide) rfl ?_
  intro p e s m args below meth c s₁ B hml hv
  obtain ⟨rfl, w0⟩ := hv
  have hx := B.exec
  have hb := B.bytes
  have hr := B.returns
  have hts := atoms_spec (ws := wsX9_mayStand) B.pre
  have hown : s.vm.findClass RX9 = some m.cls := findClass_of_methodNamed B.named
  have hlocks := B.notSynchronized
  have w := w0.start
  clear w0
  have hl := lv_entry ([.ref (g.2.2.1 r), .int p0, .int p1, .int p2]) (n := 5) (Nat.le_of_ble_eq_true rfl)
  rw [lg_entry_eq]
  generalize (lg_sl ([.ref (g.2.2.1 r), .int p0, .int p1, .int p2]) ++ List.replicate (5 - (lg_sl ([.ref (g.2.2.1 r), .int p0, .int p1, .int p2])).length) Slot.unset).toArray = ls at hl ⊢
  have hl : lv_has ls 5 [(0, .ref (g.2.2.1 r)), (1, .int p0), (2, .int p1), (3, .int p2)] := hl
  have hn4 := hP.2.1
  obtain ⟨ha3, hk3, hl1, hl24, hpb, hd0⟩ := hP.2.2 f hf
  have hb_ := hpb pl hpl
  refine lv_aload_n hx hb dX9_mayStand_0 rfl (lv_at hl 0 rfl) ?_
  refine lv_iload_n hx hb dX9_mayStand_1 rfl (lv_at hl 3 rfl) ?_
  refine lv_aload_n hx hb dX9_mayStand_2 rfl (lv_at hl 0 rfl) ?_
  refine r_get (C := RX9) (T := TX9) (N := 20) (ci := 7) hx hb hts inX9_mayStand_X9 hown w (by have := D.1; omega) D.c0 rfl 1 (by decide) (hts (Cond.fieldLink RX9 7 "EarlyValuesModel" "argsOf" "[I") (List.mem_of_getElem? (i := 1) (by decide +kernel))) rfl rfl dX9_mayStand_3 ?_
  refine lv_iload_n hx hb dX9_mayStand_6 rfl (lv_at hl 1 rfl) ?_
  refine r_iald (j := f) hx hb w (by have := D.1; omega) D.c1 hp0 (by omega) dX9_mayStand_7 ?_
  refine r_callI w (va_runV (As := [.int p2, .int (ga f)]) (rest := []) ⟨hx, hb, hml, hown, hts⟩ (c_X9_partsOf l D S.1 hn4 (S.ha hP) p2 (ga f) hf (S.2.1 f (by omega))) (cwV 2 hts gX9_mayStand_X9_partsOf rfl rfl rfl (by decide +kernel) ⟨Nat.le_of_ble_eq_true rfl, Nat.le_of_ble_eq_true rfl⟩) (r_preV w (by have := D.1; omega) D.c0 rfl) rfl rfl hl.1 rfl (lv_room (Nat.le_of_ble_eq_true rfl)) dX9_mayStand_8 ⟨Nat.zero_le _, Nat.zero_le _⟩) (fun r2 h1 H locs hp w => ?_)
  obtain ⟨eh_, qq3⟩ := hp
  have eh_ := eh_.symm
  subst eh_
  refine lv_istore (lv' := [(4, .int r2), (0, .ref (g.2.2.1 r)), (1, .int p0), (2, .int p1), (3, .int p2)]) hx hb dX9_mayStand_11 hl (by decide) rfl (fun ls hl => ?_)
  refine lv_iload hx hb dX9_mayStand_13 (lv_at hl 0 rfl) ?_
  refine lv_bipush (v := (-4)) hx hb dX9_mayStand_15 (by decide) ?_
  refine lv_icmp_eq (tgt := 50) hx hb dX9_mayStand_17 (by decide) (fun c4 => ?_) (fun c4 => ?_)
  · have c4 : r2.toInt = (-4 : Int) := (i_eq (rfl : r2.toInt = r2.toInt) (by decide : (-4 : Int32).toInt = (-4 : Int))).mp c4
    refine lv_iconst (v := 0) hx hb dX9_mayStand_50 (by decide) ?_
    refine r_zret (v := 0) hx hb hr rfl hlocks w dX9_mayStand_51 ?_
    refine ⟨rfl, ?_⟩
    rcases qq3 with ⟨a1_, a2_, a3_⟩ | ⟨a1_, a3_⟩
    · first | (exfalso; omega) | exact Bq.t ⟨a1_, a2_, by omega⟩ | exact Bq.f (fun q_ => by have := q_.2.2; omega)
    · first | exact Bq.f (fun q_ => a1_ ⟨q_.1, q_.2.1⟩) | (exfalso; omega)
  · have c4 : ¬ (r2.toInt = (-4 : Int)) := fun q => c4 ((i_eq (rfl : r2.toInt = r2.toInt) (by decide : (-4 : Int32).toInt = (-4 : Int))).mpr q)
    refine lv_iload hx hb dX9_mayStand_20 (lv_at hl 0 rfl) ?_
    refine lv_aload_n hx hb dX9_mayStand_22 rfl (lv_at hl 1 rfl) ?_
    refine lv_aload_n hx hb dX9_mayStand_23 rfl (lv_at hl 1 rfl) ?_
    refine r_get (C := RX9) (T := TX9) (N := 20) (ci := 7) hx hb hts inX9_mayStand_X9 hown w (by have := D.1; omega) D.c0 rfl 4 (by decide) (hts (Cond.fieldLink RX9 19 "EarlyValuesModel" "body" "[I") (List.mem_of_getElem? (i := 2) (by decide +kernel))) rfl rfl dX9_mayStand_24 ?_
    refine lv_bipush (v := 24) hx hb dX9_mayStand_27 (by decide) ?_
    refine lv_iload_n hx hb dX9_mayStand_29 rfl (lv_at hl 2 rfl) ?_
    refine lv_imul hx hb dX9_mayStand_30 ?_
    refine lv_topi (fun y5 ey5 => ?_)
    have ty5 : y5.toInt = (((24 * f) : Nat) : Int) := i_mulN ey5 (by decide : (24 : Int32).toInt = ((24 : Nat) : Int)) hp0 (by omega)
    refine lv_iload_n hx hb dX9_mayStand_31 rfl (lv_at hl 3 rfl) ?_
    refine lv_iadd hx hb dX9_mayStand_32 ?_
    refine lv_topi (fun y6 ey6 => ?_)
    have ty6 : y6.toInt = ((((24 * f) + pl) : Nat) : Int) := i_addN ey6 ty5 hp1 (by omega)
    refine r_iald (j := ((24 * f) + pl)) hx hb w (by have := D.1; omega) D.c4 ty6 (by omega) dX9_mayStand_33 ?_
    refine lv_aload_n hx hb dX9_mayStand_34 rfl (lv_at hl 1 rfl) ?_
    refine r_get (C := RX9) (T := TX9) (N := 20) (ci := 7) hx hb hts inX9_mayStand_X9 hown w (by have := D.1; omega) D.c0 rfl 1 (by decide) (hts (Cond.fieldLink RX9 7 "EarlyValuesModel" "argsOf" "[I") (List.mem_of_getElem? (i := 1) (by decide +kernel))) rfl rfl dX9_mayStand_35 ?_
    refine lv_iload_n hx hb dX9_mayStand_38 rfl (lv_at hl 2 rfl) ?_
    refine r_iald (j := f) hx hb w (by have := D.1; omega) D.c1 hp0 (by omega) dX9_mayStand_39 ?_
    refine r_callI w (va_runV (As := [.int (gB (((24 * f) + pl))), .int (ga f)]) (rest := [.int r2]) ⟨hx, hb, hml, hown, hts⟩ (c_X9_partsOf l D S.1 hn4 (S.ha hP) (gB (((24 * f) + pl))) (ga f) hf (S.2.1 f (by omega))) (cwV 2 hts gX9_mayStand_X9_partsOf rfl rfl rfl (by decide +kernel) ⟨Nat.le_of_ble_eq_true rfl, Nat.le_of_ble_eq_true rfl⟩) (r_preV w (by have := D.1; omega) D.c0 rfl) rfl rfl hl.1 rfl (lv_room (Nat.le_of_ble_eq_true rfl)) dX9_mayStand_40 ⟨Nat.zero_le _, Nat.zero_le _⟩) (fun r8 h7 H locs hp w => ?_)
    obtain ⟨eh_, qq9⟩ := hp
    have eh_ := eh_.symm
    subst eh_
    have b10 : r8.toInt = ((mParts (pN M) (pA M) (pB M f pl) : Nat) : Int) := by rw [((S.2.2.2.2 f hf pl hpl) : (gB (((24 * f) + pl))).toInt = _), mNum_code hb_.1] at qq9; exact qq9.elim (fun q_ => q_.2.2) (fun q_ => absurd ⟨hb_.1, hb_.2.1⟩ q_.1)
    refine lv_icmp_ne (tgt := 50) hx hb dX9_mayStand_43 (by decide) (fun c11 => ?_) (fun c11 => ?_)
    · have c11 : ¬ (r2.toInt = (((mParts (pN M) (pA M) (pB M f pl)) : Nat) : Int)) := fun q => c11 ((i_eq (rfl : r2.toInt = r2.toInt) b10).mpr q)
      refine lv_iconst (v := 0) hx hb dX9_mayStand_50 (by decide) ?_
      refine r_zret (v := 0) hx hb hr rfl hlocks w dX9_mayStand_51 ?_
      refine ⟨rfl, ?_⟩
      rcases qq3 with ⟨a1_, a2_, a3_⟩ | ⟨a1_, a3_⟩
      · first | (exfalso; omega) | exact Bq.t ⟨a1_, a2_, by omega⟩ | exact Bq.f (fun q_ => by have := q_.2.2; omega)
      · first | exact Bq.f (fun q_ => a1_ ⟨q_.1, q_.2.1⟩) | (exfalso; omega)
    · have c11 : r2.toInt = (((mParts (pN M) (pA M) (pB M f pl)) : Nat) : Int) := (i_eq (rfl : r2.toInt = r2.toInt) b10).mp c11
      refine lv_iconst (v := 1) hx hb dX9_mayStand_46 (by decide) ?_
      refine lv_goto (tgt := 51) hx hb dX9_mayStand_47 (by decide) ?_
      refine r_zret (v := 1) hx hb hr rfl hlocks w dX9_mayStand_51 ?_
      refine ⟨rfl, ?_⟩
      rcases qq3 with ⟨a1_, a2_, a3_⟩ | ⟨a1_, a3_⟩
      · first | (exfalso; omega) | exact Bq.t ⟨a1_, a2_, by omega⟩ | exact Bq.f (fun q_ => by have := q_.2.2; omega)
      · first | exact Bq.f (fun q_ => a1_ ⟨q_.1, q_.2.1⟩) | (exfalso; omega)

theorem inX9_notes_X9 : ∀ w ∈ wsX90, w ∈ wsX9_notes := by decide +kernel
abbrev rm_X9_notes : Room := { frames := 1, cells := 0, slots := 0, locals := 23 }
set_option maxHeartbeats 4000000 in
set_option maxRecDepth 100000 in
theorem c_X9_notes (l : Launch) {g : GE} {h : Nat → va_E} {r : Nat} {nm kn um sv sz ra rm : Int32} {ga gk gl gB gt gn gr gp gh gv gs gx gf : Nat → Int32} (D : MdA g h r nm kn um sv sz ra rm ga gk gl gB gt gn gr gp gh gv gs gx gf) {n : Nat} (hn : um.toInt = (n : Int)) (hn8 : n ≤ 8) : MV l yX9_notes wsX9_notes rm_X9_notes [.ref (g.2.2.1 r)] g h (fun h2 => (∀ k, ¬ (r ≤ k ∧ k < r + 14) → h2 k = h k) ∧ ∃ (um2 : Int32) (gh2 : Nat → Int32), MdA g h2 r nm 0 um2 sv sz ra rm ga gk gl gB gt gn gr gp gh2 gv gs gx gf ∧ NtE n um2 gh gh2 nm ga gk gl gB) := by
  refine Met.ofW (cc := cX9_notes) (maxL := 2) (ret := none) (by decide) rfl ?_
  intro p e s m args below meth c s₁ B hml hv
  obtain ⟨rfl, w0⟩ := hv
  have hx := B.exec
  have hb := B.bytes
  have hr := B.returns
  have hts := atoms_spec (ws := wsX9_notes) B.pre
  have hown : s.vm.findClass RX9 = some m.cls := findClass_of_methodNamed B.named
  have hlocks := B.notSynchronized
  have w := w0.start
  clear w0
  have hl := lv_entry ([.ref (g.2.2.1 r)]) (n := 2) (Nat.le_of_ble_eq_true rfl)
  rw [lg_entry_eq]
  generalize (lg_sl ([.ref (g.2.2.1 r)]) ++ List.replicate (2 - (lg_sl ([.ref (g.2.2.1 r)])).length) Slot.unset).toArray = ls at hl ⊢
  have hl : lv_has ls 2 [(0, .ref (g.2.2.1 r))] := hl
  have cuts : ∀ N : Nat, (∀ (i : Nat) (x1 : Int32) (gh1 : Nat → Int32) (hc : Nat → va_E) (H : Heap) (locs : List Loc) (ls : Array Slot), WD g (inW g) s hc H locs → lv_has ls 2 [(0, .ref (g.2.2.1 r)), (1, .int x1)] → (i ≤ 763) → (x1.toInt = ((i : Nat) : Int)) → (∀ q, gh1 q = if q < i then gh (q + 109) else gh q) → (n = 8) → (MdA g hc r nm kn um sv sz ra rm ga gk gl gB gt gn gr gp gh1 gv gs gx gf) → (∀ k, ¬ (r ≤ k ∧ k < r + 14) → hc k = h k) → 800 - i < N → W p l e (headSpec wsX9_notes rm_X9_notes).room s m ([.ref (g.2.2.1 r)] : List Value).toArray below meth c H locs 0 0 (MQ below (va_Qv (fun h2 => (∀ k, ¬ (r ≤ k ∧ k < r + 14) → h2 k = h k) ∧ ∃ (um2 : Int32) (gh2 : Nat → Int32), MdA g h2 r nm 0 um2 sv sz ra rm ga gk gl gB gt gn gr gp gh2 gv gs gx gf ∧ NtE n um2 gh gh2 nm ga gk gl gB) (Wd g) (inW g)) ([.ref (g.2.2.1 r)] : List Value).toArray s 0 0 (inW g)) (F0 m 11 ls [])) := by
    intro N
    induction N with
    | zero => exact by intros; omega
    | succ N ih =>
      have ih11 := ih
      · intro i x1 gh1 hc H locs ls w hl hi hx1 hsh hn8e D hfr hN_
        refine lv_iload_n hx hb dX9_notes_11 rfl (lv_at hl 1 rfl) ?_
        refine lv_sipush (v := 763) hx hb dX9_notes_12 (by decide) ?_
        refine lv_icmp_ge (tgt := 39) hx hb dX9_notes_15 (by decide) (fun c1 => ?_) (fun c1 => ?_)
        · have c1 : ((763 : Nat) : Int) ≤ ((i : Nat) : Int) := (i_le (by decide : (763 : Int32).toInt = ((763 : Nat) : Int)) hx1).mp c1
          refine lv_aload_n hx hb dX9_notes_39 rfl (lv_at hl 0 rfl) ?_
          refine lv_dup hx hb dX9_notes_40 rfl ?_
          refine r_get (C := RX9) (T := TX9) (N := 20) (ci := 7) hx hb hts inX9_notes_X9 hown w (by have := D.1; omega) D.c0 rfl 11 (by decide) (hts (Cond.fieldLink RX9 132 "EarlyValuesModel" "undoMany" "I") (List.mem_of_getElem? (i := 1) (by decide +kernel))) rfl rfl dX9_notes_41 ?_
          refine lv_iconst (v := 1) hx hb dX9_notes_44 (by decide) ?_
          refine lv_isub hx hb dX9_notes_45 ?_
          refine lv_topi (fun y2 ey2 => ?_)
          have ty2 : y2.toInt = (((n - 1) : Nat) : Int) := i_subN ey2 hn (by decide : (1 : Int32).toInt = ((1 : Nat) : Int)) (by omega)
          refine r_put (ty := .int) (C := RX9) (T := TX9) (N := 20) (ci := 7) hx hb hts inX9_notes_X9 tyX9 tyX9_ok nmX9 hown w (by have := D.1; omega) D.c0 rfl 11 (by decide) (hts (Cond.fieldLink RX9 132 "EarlyValuesModel" "undoMany" "I") (List.mem_of_getElem? (i := 1) (by decide +kernel))) rfl rfl (by decide +kernel) rfl rfl (Nat.le_of_ble_eq_true rfl) dX9_notes_46 (fun h3 H locs eh3 w => ?_)
          have D := D.s0 eh3
          have hfr : ∀ k_, ¬ (r ≤ k_ ∧ k_ < r + 14) → h3 k_ = h k_ := fun k_ hk_ => by rw [eh3, va_up_ne _ _ (by omega)]; exact hfr k_ hk_
          refine lv_aload_n hx hb dX9_notes_49 rfl (lv_at hl 0 rfl) ?_
          refine lv_aload_n hx hb dX9_notes_50 rfl (lv_at hl 0 rfl) ?_
          refine r_get (C := RX9) (T := TX9) (N := 20) (ci := 7) hx hb hts inX9_notes_X9 hown w (by have := D.1; omega) D.c0 rfl 10 (by decide) (hts (Cond.fieldLink RX9 34 "EarlyValuesModel" "ahead" "[I") (List.mem_of_getElem? (i := 2) (by decide +kernel))) rfl rfl dX9_notes_51 ?_
          refine lv_bipush (v := 109) hx hb dX9_notes_54 (by decide) ?_
          refine lv_aload_n hx hb dX9_notes_56 rfl (lv_at hl 0 rfl) ?_
          refine r_get (C := RX9) (T := TX9) (N := 20) (ci := 7) hx hb hts inX9_notes_X9 hown w (by have := D.1; omega) D.c0 rfl 11 (by decide) (hts (Cond.fieldLink RX9 132 "EarlyValuesModel" "undoMany" "I") (List.mem_of_getElem? (i := 1) (by decide +kernel))) rfl rfl dX9_notes_57 ?_
          refine lv_imul hx hb dX9_notes_60 ?_
          refine lv_topi (fun y4 ey4 => ?_)
          have ty4 : y4.toInt = (((109 * (n - 1)) : Nat) : Int) := i_mulN ey4 (by decide : (109 : Int32).toInt = ((109 : Nat) : Int)) ty2 (by omega)
          refine r_callV w (va_runV (As := [.ref (g.2.2.1 (r + 9)), .int y4]) (rest := []) ⟨hx, hb, hml, hown, hts⟩ (c_X9_lays_gh l D y4 ty4 (by omega)) (cwV 2 hts gX9_notes_X9_lays rfl rfl rfl (by decide +kernel) ⟨Nat.le_of_ble_eq_true rfl, Nat.le_of_ble_eq_true rfl⟩) (r_preV w (by have := D.1; omega) D.c0 rfl) rfl rfl hl.1 rfl (lv_room (Nat.le_of_ble_eq_true rfl)) dX9_notes_61 ⟨Nat.zero_le _, Nat.zero_le _⟩) (fun h5 H locs hp w => ?_)
          obtain ⟨hfk6, gzk6, D, snk6, sok6⟩ := hp
          have hfr : ∀ k_, ¬ (r ≤ k_ ∧ k_ < r + 14) → h5 k_ = h k_ := fun k_ hk_ => (hfk6 k_ (by omega)).trans (hfr k_ hk_)
          refine lv_aload_n hx hb dX9_notes_64 rfl (lv_at hl 0 rfl) ?_
          refine lv_dup hx hb dX9_notes_65 rfl ?_
          refine r_get (C := RX9) (T := TX9) (N := 20) (ci := 7) hx hb hts inX9_notes_X9 hown w (by have := D.1; omega) D.c0 rfl 11 (by decide) (hts (Cond.fieldLink RX9 132 "EarlyValuesModel" "undoMany" "I") (List.mem_of_getElem? (i := 1) (by decide +kernel))) rfl rfl dX9_notes_66 ?_
          refine lv_iconst (v := 1) hx hb dX9_notes_69 (by decide) ?_
          refine lv_iadd hx hb dX9_notes_70 ?_
          refine lv_topi (fun y7 ey7 => ?_)
          have ty7 : y7.toInt = ((((n - 1) + 1) : Nat) : Int) := i_addN ey7 ty2 (by decide : (1 : Int32).toInt = ((1 : Nat) : Int)) (by omega)
          refine r_put (ty := .int) (C := RX9) (T := TX9) (N := 20) (ci := 7) hx hb hts inX9_notes_X9 tyX9 tyX9_ok nmX9 hown w (by have := D.1; omega) D.c0 rfl 11 (by decide) (hts (Cond.fieldLink RX9 132 "EarlyValuesModel" "undoMany" "I") (List.mem_of_getElem? (i := 1) (by decide +kernel))) rfl rfl (by decide +kernel) rfl rfl (Nat.le_of_ble_eq_true rfl) dX9_notes_71 (fun h8 H locs eh8 w => ?_)
          have D := D.s0 eh8
          have hfr : ∀ k_, ¬ (r ≤ k_ ∧ k_ < r + 14) → h8 k_ = h k_ := fun k_ hk_ => by rw [eh8, va_up_ne _ _ (by omega)]; exact hfr k_ hk_
          refine lv_aload_n hx hb dX9_notes_74 rfl (lv_at hl 0 rfl) ?_
          refine lv_iconst (v := 0) hx hb dX9_notes_75 (by decide) ?_
          refine r_put (ty := .boolean) (C := RX9) (T := TX9) (N := 20) (ci := 7) hx hb hts inX9_notes_X9 tyX9 tyX9_ok nmX9 hown w (by have := D.1; omega) D.c0 rfl 8 (by decide) (hts (Cond.fieldLink RX9 121 "EarlyValuesModel" "isKnown" "Z") (List.mem_of_getElem? (i := 3) (by decide +kernel))) rfl rfl (by decide +kernel) (by first | rfl | exact rfl) (by first | rfl | exact Bq.fit rfl) (Nat.le_of_ble_eq_true rfl) dX9_notes_76 (fun h9 H locs eh9 w => ?_)
          have D := D.s0 eh9
          have hfr : ∀ k_, ¬ (r ≤ k_ ∧ k_ < r + 14) → h9 k_ = h k_ := fun k_ hk_ => by rw [eh9, va_up_ne _ _ (by omega)]; exact hfr k_ hk_
          refine r_vret hx hb hr hlocks w dX9_notes_79 ?_
          have hn8_ : n = 8 := by omega
          refine ⟨hfr, _, _, D, Or.inr ⟨by omega, ty7.trans (by omega), by rw [show 763 = 109 * (n - 1) by omega]; exact snk6, fun q hq => ?_⟩⟩
          rw [sok6 q (by omega), hsh, if_pos (by omega)]
        · have c1 : ¬ (((763 : Nat) : Int) ≤ ((i : Nat) : Int)) := fun q => c1 ((i_le (by decide : (763 : Int32).toInt = ((763 : Nat) : Int)) hx1).mpr q)
          refine lv_aload_n hx hb dX9_notes_18 rfl (lv_at hl 0 rfl) ?_
          refine r_get (C := RX9) (T := TX9) (N := 20) (ci := 7) hx hb hts inX9_notes_X9 hown w (by have := D.1; omega) D.c0 rfl 10 (by decide) (hts (Cond.fieldLink RX9 34 "EarlyValuesModel" "ahead" "[I") (List.mem_of_getElem? (i := 2) (by decide +kernel))) rfl rfl dX9_notes_19 ?_
          refine lv_iload_n hx hb dX9_notes_22 rfl (lv_at hl 1 rfl) ?_
          refine lv_aload_n hx hb dX9_notes_23 rfl (lv_at hl 0 rfl) ?_
          refine r_get (C := RX9) (T := TX9) (N := 20) (ci := 7) hx hb hts inX9_notes_X9 hown w (by have := D.1; omega) D.c0 rfl 10 (by decide) (hts (Cond.fieldLink RX9 34 "EarlyValuesModel" "ahead" "[I") (List.mem_of_getElem? (i := 2) (by decide +kernel))) rfl rfl dX9_notes_24 ?_
          refine lv_iload_n hx hb dX9_notes_27 rfl (lv_at hl 1 rfl) ?_
          refine lv_bipush (v := 109) hx hb dX9_notes_28 (by decide) ?_
          refine lv_iadd hx hb dX9_notes_30 ?_
          refine lv_topi (fun y10 ey10 => ?_)
          have ty10 : y10.toInt = (((i + 109) : Nat) : Int) := i_addN ey10 hx1 (by decide : (109 : Int32).toInt = ((109 : Nat) : Int)) (by omega)
          refine r_iald (j := (i + 109)) hx hb w (by have := D.1; omega) D.c9 ty10 (by omega) dX9_notes_31 ?_
          refine r_iast (j := i) hx hb w (by have := D.1; omega) D.c9 hx1 (by omega) dX9_notes_32 (fun h11 H locs eh11 w => ?_)
          have D := D.s9 eh11
          generalize egz12 : upd gh1 i (gh1 ((i + 109))) = gz12 at D
          have hfr : ∀ k_, ¬ (r ≤ k_ ∧ k_ < r + 14) → h11 k_ = h k_ := fun k_ hk_ => by rw [eh11, va_up_ne _ _ (by omega)]; exact hfr k_ hk_
          obtain ⟨y13, ey13⟩ : ∃ y : Int32, y = x1 + (1) := ⟨_, rfl⟩
          have ty13 : y13.toInt = (((i + 1) : Nat) : Int) := i_addN ey13 hx1 (by decide : (1 : Int32).toInt = ((1 : Nat) : Int)) (by omega)
          refine lv_iinc (v := y13) (lv' := [(1, .int y13), (0, .ref (g.2.2.1 r))]) hx hb dX9_notes_33 hl (k := 1) rfl (by rw [ey13]; rfl) (by decide) rfl (fun ls hl => ?_)
          refine lv_goto (tgt := 11) hx hb dX9_notes_36 (by decide) ?_
          exact ih11 (i + 1) y13 gz12 h11 _ _ _ w (lv_sub hl [1, 0] rfl) (by omega) ty13 (sh_up hsh egz12) hn8e D hfr (by omega)
  have ih11 := cuts (2000)
  refine lv_aload_n hx hb dX9_notes_0 rfl (lv_at hl 0 rfl) ?_
  refine r_get (C := RX9) (T := TX9) (N := 20) (ci := 7) hx hb hts inX9_notes_X9 hown w (by have := D.1; omega) D.c0 rfl 11 (by decide) (hts (Cond.fieldLink RX9 132 "EarlyValuesModel" "undoMany" "I") (List.mem_of_getElem? (i := 1) (by decide +kernel))) rfl rfl dX9_notes_1 ?_
  refine lv_bipush (v := 8) hx hb dX9_notes_4 (by decide) ?_
  refine lv_icmp_ne (tgt := 49) hx hb dX9_notes_6 (by decide) (fun c14 => ?_) (fun c14 => ?_)
  · have c14 : ¬ (((n : Nat) : Int) = ((8 : Nat) : Int)) := fun q => c14 ((i_eq hn (by decide : (8 : Int32).toInt = ((8 : Nat) : Int))).mpr q)
    refine lv_aload_n hx hb dX9_notes_49 rfl (lv_at hl 0 rfl) ?_
    refine lv_aload_n hx hb dX9_notes_50 rfl (lv_at hl 0 rfl) ?_
    refine r_get (C := RX9) (T := TX9) (N := 20) (ci := 7) hx hb hts inX9_notes_X9 hown w (by have := D.1; omega) D.c0 rfl 10 (by decide) (hts (Cond.fieldLink RX9 34 "EarlyValuesModel" "ahead" "[I") (List.mem_of_getElem? (i := 2) (by decide +kernel))) rfl rfl dX9_notes_51 ?_
    refine lv_bipush (v := 109) hx hb dX9_notes_54 (by decide) ?_
    refine lv_aload_n hx hb dX9_notes_56 rfl (lv_at hl 0 rfl) ?_
    refine r_get (C := RX9) (T := TX9) (N := 20) (ci := 7) hx hb hts inX9_notes_X9 hown w (by have := D.1; omega) D.c0 rfl 11 (by decide) (hts (Cond.fieldLink RX9 132 "EarlyValuesModel" "undoMany" "I") (List.mem_of_getElem? (i := 1) (by decide +kernel))) rfl rfl dX9_notes_57 ?_
    refine lv_imul hx hb dX9_notes_60 ?_
    refine lv_topi (fun y15 ey15 => ?_)
    have ty15 : y15.toInt = (((109 * n) : Nat) : Int) := i_mulN ey15 (by decide : (109 : Int32).toInt = ((109 : Nat) : Int)) hn (by omega)
    refine r_callV w (va_runV (As := [.ref (g.2.2.1 (r + 9)), .int y15]) (rest := []) ⟨hx, hb, hml, hown, hts⟩ (c_X9_lays_gh l D y15 ty15 (by omega)) (cwV 2 hts gX9_notes_X9_lays rfl rfl rfl (by decide +kernel) ⟨Nat.le_of_ble_eq_true rfl, Nat.le_of_ble_eq_true rfl⟩) (r_preV w (by have := D.1; omega) D.c0 rfl) rfl rfl hl.1 rfl (lv_room (Nat.le_of_ble_eq_true rfl)) dX9_notes_61 ⟨Nat.zero_le _, Nat.zero_le _⟩) (fun h16 H locs hp w => ?_)
    obtain ⟨hfk17, gzk17, D, snk17, sok17⟩ := hp
    have hfr : ∀ k_, ¬ (r ≤ k_ ∧ k_ < r + 14) → h16 k_ = h k_ := fun k_ hk_ => (hfk17 k_ (by omega))
    refine lv_aload_n hx hb dX9_notes_64 rfl (lv_at hl 0 rfl) ?_
    refine lv_dup hx hb dX9_notes_65 rfl ?_
    refine r_get (C := RX9) (T := TX9) (N := 20) (ci := 7) hx hb hts inX9_notes_X9 hown w (by have := D.1; omega) D.c0 rfl 11 (by decide) (hts (Cond.fieldLink RX9 132 "EarlyValuesModel" "undoMany" "I") (List.mem_of_getElem? (i := 1) (by decide +kernel))) rfl rfl dX9_notes_66 ?_
    refine lv_iconst (v := 1) hx hb dX9_notes_69 (by decide) ?_
    refine lv_iadd hx hb dX9_notes_70 ?_
    refine lv_topi (fun y18 ey18 => ?_)
    have ty18 : y18.toInt = (((n + 1) : Nat) : Int) := i_addN ey18 hn (by decide : (1 : Int32).toInt = ((1 : Nat) : Int)) (by omega)
    refine r_put (ty := .int) (C := RX9) (T := TX9) (N := 20) (ci := 7) hx hb hts inX9_notes_X9 tyX9 tyX9_ok nmX9 hown w (by have := D.1; omega) D.c0 rfl 11 (by decide) (hts (Cond.fieldLink RX9 132 "EarlyValuesModel" "undoMany" "I") (List.mem_of_getElem? (i := 1) (by decide +kernel))) rfl rfl (by decide +kernel) rfl rfl (Nat.le_of_ble_eq_true rfl) dX9_notes_71 (fun h19 H locs eh19 w => ?_)
    have D := D.s0 eh19
    have hfr : ∀ k_, ¬ (r ≤ k_ ∧ k_ < r + 14) → h19 k_ = h k_ := fun k_ hk_ => by rw [eh19, va_up_ne _ _ (by omega)]; exact hfr k_ hk_
    refine lv_aload_n hx hb dX9_notes_74 rfl (lv_at hl 0 rfl) ?_
    refine lv_iconst (v := 0) hx hb dX9_notes_75 (by decide) ?_
    refine r_put (ty := .boolean) (C := RX9) (T := TX9) (N := 20) (ci := 7) hx hb hts inX9_notes_X9 tyX9 tyX9_ok nmX9 hown w (by have := D.1; omega) D.c0 rfl 8 (by decide) (hts (Cond.fieldLink RX9 121 "EarlyValuesModel" "isKnown" "Z") (List.mem_of_getElem? (i := 3) (by decide +kernel))) rfl rfl (by decide +kernel) (by first | rfl | exact rfl) (by first | rfl | exact Bq.fit rfl) (Nat.le_of_ble_eq_true rfl) dX9_notes_76 (fun h20 H locs eh20 w => ?_)
    have D := D.s0 eh20
    have hfr : ∀ k_, ¬ (r ≤ k_ ∧ k_ < r + 14) → h20 k_ = h k_ := fun k_ hk_ => by rw [eh20, va_up_ne _ _ (by omega)]; exact hfr k_ hk_
    refine r_vret hx hb hr hlocks w dX9_notes_79 ?_
    refine ⟨hfr, _, _, D, Or.inl ⟨by omega, ty18.trans (by omega), snk17, fun q hq => sok17 q (by omega)⟩⟩
  · have c14 : ((n : Nat) : Int) = ((8 : Nat) : Int) := (i_eq hn (by decide : (8 : Int32).toInt = ((8 : Nat) : Int))).mp c14
    refine lv_iconst (v := 0) hx hb dX9_notes_9 (by decide) ?_
    refine lv_istore_n (lv' := [(1, .int 0), (0, .ref (g.2.2.1 r))]) hx hb dX9_notes_10 rfl hl (by decide) rfl (fun ls hl => ?_)
    exact ih11 0 0 gh h _ _ _ w (lv_sub hl [1, 0] rfl) (Nat.zero_le _) ((by decide : (0 : Int32).toInt = ((0 : Nat) : Int))) (fun q => by rw [if_neg (by omega)]) (by omega) D (fun k_ _ => rfl) (by omega)

theorem inX9_function_X9 : ∀ w ∈ wsX90, w ∈ wsX9_function := by decide +kernel
abbrev rm_X9_function : Room := { frames := 2, cells := 0, slots := 0, locals := 43 }
set_option maxHeartbeats 4000000 in
set_option maxRecDepth 100000 in
theorem c_X9_function (l : Launch) {g : GE} {h : Nat → va_E} {r : Nat} {st0 : ST} (R : RefA g h r st0) (p0 : Int32) (p1 : Int32) : MI l yX9_function wsX9_function rm_X9_function [.ref (g.2.2.1 r), .int p0, .int p1] g h (fun r_ h2 => h2 = h ∧ AnFunction st0 p0 p1 r_) := by
  refine Met.ofW (cc := cX9_function) (maxL := 3) (ret := (some .int)) (by decide) rfl ?_
  intro p e s m args below meth c s₁ B hml hv
  obtain ⟨rfl, w0⟩ := hv
  have hx := B.exec
  have hb := B.bytes
  have hr := B.returns
  have hts := atoms_spec (ws := wsX9_function) B.pre
  have hown : s.vm.findClass RX9 = some m.cls := findClass_of_methodNamed B.named
  have hlocks := B.notSynchronized
  have w := w0.start
  clear w0
  have hl := lv_entry ([.ref (g.2.2.1 r), .int p0, .int p1]) (n := 3) (Nat.le_of_ble_eq_true rfl)
  rw [lg_entry_eq]
  generalize (lg_sl ([.ref (g.2.2.1 r), .int p0, .int p1]) ++ List.replicate (3 - (lg_sl ([.ref (g.2.2.1 r), .int p0, .int p1])).length) Slot.unset).toArray = ls at hl ⊢
  have hl : lv_has ls 3 [(0, .ref (g.2.2.1 r)), (1, .int p0), (2, .int p1)] := hl
  obtain ⟨nm, kn, um, sv, sz, ra, rm, ga, gk, gl, gB, gt, gn, gr, gp, gh, gv, gs, gx, gf, D, hRS⟩ := R
  obtain ⟨hSV, S, hkn, hum, hUs, hsv, hVs, hsz, hgx⟩ := hRS
  have hSV0 := hSV
  obtain ⟨hP, hu8, hUP, hv2, hVP, hl200, hlt⟩ := hSV
  have hn4 := hP.2.1
  refine lv_aload_n hx hb dX9_function_0 rfl (lv_at hl 0 rfl) ?_
  refine lv_iload_n hx hb dX9_function_1 rfl (lv_at hl 1 rfl) ?_
  refine r_callI w (va_runV (As := [.int p0]) (rest := []) ⟨hx, hb, hml, hown, hts⟩ (c_X9_isFunction l D S.1 p0) (cwV 1 hts gX9_function_X9_isFunction rfl rfl rfl (by decide +kernel) ⟨Nat.le_of_ble_eq_true rfl, Nat.le_of_ble_eq_true rfl⟩) (r_preV w (by have := D.1; omega) D.c0 rfl) rfl rfl hl.1 rfl (lv_room (Nat.le_of_ble_eq_true rfl)) dX9_function_2 ⟨Nat.zero_le _, Nat.zero_le _⟩) (fun r2 h1 H locs hp w => ?_)
  obtain ⟨eh_, qq3⟩ := hp
  have eh_ := eh_.symm
  subst eh_
  have b4 : Bq r2 (0 ≤ p0.toInt ∧ p0.toInt < ((pN (sM st0)) : Int)) := qq3.iff (by rw [((rfl : p0.toInt = p0.toInt) : p0.toInt = _)])
  refine lv_if_eq (tgt := 17) hx hb dX9_function_5 (by decide) (fun c5 => ?_) (fun c5 => ?_)
  · have c5 := b4.eq c5
    refine lv_iconst (v := (-1)) hx hb dX9_function_17 (by decide) ?_
    refine r_iret (v := (-1)) hx hb hr hlocks w dX9_function_18 ?_
    exact ⟨rfl, Or.inr ⟨by omega, rfl⟩⟩
  · have c5 := b4.ne c5
    obtain ⟨f, hf0⟩ : ∃ q_ : Nat, p0.toInt = (q_ : Int) := ⟨p0.toInt.toNat, by omega⟩
    have hf : f < pN (sM st0) := by omega
    obtain ⟨ha3, hk3, hl1, hl24, hpl, hd0⟩ := hP.2.2 f hf
    refine lv_iload_n hx hb dX9_function_8 rfl (lv_at hl 2 rfl) ?_
    refine lv_iconst (v := 0) hx hb dX9_function_9 (by decide) ?_
    refine lv_iconst (v := 2) hx hb dX9_function_10 (by decide) ?_
    refine r_callI w (va_runS (As := [.int p1, .int 0, .int 2]) (rest := []) ⟨hx, hb, hml, hown, hts⟩ (c_X9_in l p1 0 2) (va_cwS 3 hts gX9_function_X9_in rfl rfl rfl (by decide +kernel) ⟨Nat.le_of_ble_eq_true rfl, Nat.le_of_ble_eq_true rfl⟩) (r_preS w) rfl rfl hl.1 rfl (lv_room (Nat.le_of_ble_eq_true rfl)) dX9_function_11 ⟨Nat.zero_le _, Nat.zero_le _⟩) (fun r7 h6 H locs hp w => ?_)
    obtain ⟨eh_, qq8⟩ := hp
    have eh_ := eh_.symm
    subst eh_
    have b9 : Bq r7 (((0 : Nat) : Int) ≤ p1.toInt ∧ p1.toInt ≤ ((2 : Nat) : Int)) := qq8.iff (by rw [((rfl : p1.toInt = p1.toInt) : (p1 : Int32).toInt = _), ((by decide : (0 : Int32).toInt = ((0 : Nat) : Int)) : (0 : Int32).toInt = _), ((by decide : (2 : Int32).toInt = ((2 : Nat) : Int)) : (2 : Int32).toInt = _)])
    refine lv_if_ne (tgt := 19) hx hb dX9_function_14 (by decide) (fun c10 => ?_) (fun c10 => ?_)
    · have c10 := b9.ne c10
      refine lv_iload_n hx hb dX9_function_19 rfl (lv_at hl 2 rfl) ?_
      refine lv_if_ne (tgt := 32) hx hb dX9_function_20 (by decide) (fun c11 => ?_) (fun c11 => ?_)
      · have c11 : ¬ (p1.toInt = (0 : Int)) := fun q => c11 ((i_eq (rfl : p1.toInt = p1.toInt) (rfl : (0 : Int32).toInt = 0)).mpr q)
        refine lv_iload_n hx hb dX9_function_32 rfl (lv_at hl 2 rfl) ?_
        refine lv_iconst (v := 1) hx hb dX9_function_33 (by decide) ?_
        refine lv_icmp_ne (tgt := 46) hx hb dX9_function_34 (by decide) (fun c12 => ?_) (fun c12 => ?_)
        · have c12 : ¬ (p1.toInt = ((1 : Nat) : Int)) := fun q => c12 ((i_eq (rfl : p1.toInt = p1.toInt) (by decide : (1 : Int32).toInt = ((1 : Nat) : Int))).mpr q)
          refine lv_aload_n hx hb dX9_function_46 rfl (lv_at hl 0 rfl) ?_
          refine r_get (C := RX9) (T := TX9) (N := 20) (ci := 7) hx hb hts inX9_function_X9 hown w (by have := D.1; omega) D.c0 rfl 3 (by decide) (hts (Cond.fieldLink RX9 16 "EarlyValuesModel" "longOf" "[I") (List.mem_of_getElem? (i := 3) (by decide +kernel))) rfl rfl dX9_function_47 ?_
          refine lv_iload_n hx hb dX9_function_50 rfl (lv_at hl 1 rfl) ?_
          refine r_iald (j := f) hx hb w (by have := D.1; omega) D.c3 hf0 (by omega) dX9_function_51 ?_
          refine r_iret (v := gl f) hx hb hr hlocks w dX9_function_52 ?_
          exact ⟨rfl, Or.inl ⟨f, hf0, hf, by first | exact Or.inl ⟨by omega, (S.2.2.2.1 f (by omega))⟩ | exact Or.inr (Or.inl ⟨by omega, (S.2.2.2.1 f (by omega))⟩) | exact Or.inr (Or.inr ⟨by omega, (S.2.2.2.1 f (by omega))⟩)⟩⟩
        · have c12 : p1.toInt = ((1 : Nat) : Int) := (i_eq (rfl : p1.toInt = p1.toInt) (by decide : (1 : Int32).toInt = ((1 : Nat) : Int))).mp c12
          refine lv_aload_n hx hb dX9_function_37 rfl (lv_at hl 0 rfl) ?_
          refine r_get (C := RX9) (T := TX9) (N := 20) (ci := 7) hx hb hts inX9_function_X9 hown w (by have := D.1; omega) D.c0 rfl 1 (by decide) (hts (Cond.fieldLink RX9 7 "EarlyValuesModel" "argsOf" "[I") (List.mem_of_getElem? (i := 2) (by decide +kernel))) rfl rfl dX9_function_38 ?_
          refine lv_iload_n hx hb dX9_function_41 rfl (lv_at hl 1 rfl) ?_
          refine r_iald (j := f) hx hb w (by have := D.1; omega) D.c1 hf0 (by omega) dX9_function_42 ?_
          refine lv_goto (tgt := 52) hx hb dX9_function_43 (by decide) ?_
          refine r_iret (v := ga f) hx hb hr hlocks w dX9_function_52 ?_
          exact ⟨rfl, Or.inl ⟨f, hf0, hf, by first | exact Or.inl ⟨by omega, (S.2.1 f (by omega))⟩ | exact Or.inr (Or.inl ⟨by omega, (S.2.1 f (by omega))⟩) | exact Or.inr (Or.inr ⟨by omega, (S.2.1 f (by omega))⟩)⟩⟩
      · have c11 : p1.toInt = (0 : Int) := (i_eq (rfl : p1.toInt = p1.toInt) (rfl : (0 : Int32).toInt = 0)).mp c11
        refine lv_aload_n hx hb dX9_function_23 rfl (lv_at hl 0 rfl) ?_
        refine r_get (C := RX9) (T := TX9) (N := 20) (ci := 7) hx hb hts inX9_function_X9 hown w (by have := D.1; omega) D.c0 rfl 2 (by decide) (hts (Cond.fieldLink RX9 13 "EarlyValuesModel" "kindOf" "[I") (List.mem_of_getElem? (i := 1) (by decide +kernel))) rfl rfl dX9_function_24 ?_
        refine lv_iload_n hx hb dX9_function_27 rfl (lv_at hl 1 rfl) ?_
        refine r_iald (j := f) hx hb w (by have := D.1; omega) D.c2 hf0 (by omega) dX9_function_28 ?_
        refine lv_goto (tgt := 52) hx hb dX9_function_29 (by decide) ?_
        refine r_iret (v := gk f) hx hb hr hlocks w dX9_function_52 ?_
        exact ⟨rfl, Or.inl ⟨f, hf0, hf, by first | exact Or.inl ⟨by omega, (S.2.2.1 f (by omega))⟩ | exact Or.inr (Or.inl ⟨by omega, (S.2.2.1 f (by omega))⟩) | exact Or.inr (Or.inr ⟨by omega, (S.2.2.1 f (by omega))⟩)⟩⟩
    · have c10 := b9.eq c10
      refine lv_iconst (v := (-1)) hx hb dX9_function_17 (by decide) ?_
      refine r_iret (v := (-1)) hx hb hr hlocks w dX9_function_18 ?_
      exact ⟨rfl, Or.inr ⟨by omega, rfl⟩⟩

theorem inX9_letter_X9 : ∀ w ∈ wsX90, w ∈ wsX9_letter := by decide +kernel
abbrev rm_X9_letter : Room := { frames := 2, cells := 0, slots := 0, locals := 43 }
set_option maxHeartbeats 4000000 in
set_option maxRecDepth 100000 in
theorem c_X9_letter (l : Launch) {g : GE} {h : Nat → va_E} {r : Nat} {st0 : ST} (R : RefA g h r st0) (p0 : Int32) (p1 : Int32) : MI l yX9_letter wsX9_letter rm_X9_letter [.ref (g.2.2.1 r), .int p0, .int p1] g h (fun r_ h2 => h2 = h ∧ AnLetter st0 p0 p1 r_) := by
  refine Met.ofW (cc := cX9_letter) (maxL := 3) (ret := (some .int)) (by decide) rfl ?_
  intro p e s m args below meth c s₁ B hml hv
  obtain ⟨rfl, w0⟩ := hv
  have hx := B.exec
  have hb := B.bytes
  have hr := B.returns
  have hts := atoms_spec (ws := wsX9_letter) B.pre
  have hown : s.vm.findClass RX9 = some m.cls := findClass_of_methodNamed B.named
  have hlocks := B.notSynchronized
  have w := w0.start
  clear w0
  have hl := lv_entry ([.ref (g.2.2.1 r), .int p0, .int p1]) (n := 3) (Nat.le_of_ble_eq_true rfl)
  rw [lg_entry_eq]
  generalize (lg_sl ([.ref (g.2.2.1 r), .int p0, .int p1]) ++ List.replicate (3 - (lg_sl ([.ref (g.2.2.1 r), .int p0, .int p1])).length) Slot.unset).toArray = ls at hl ⊢
  have hl : lv_has ls 3 [(0, .ref (g.2.2.1 r)), (1, .int p0), (2, .int p1)] := hl
  obtain ⟨nm, kn, um, sv, sz, ra, rm, ga, gk, gl, gB, gt, gn, gr, gp, gh, gv, gs, gx, gf, D, hRS⟩ := R
  obtain ⟨hSV, S, hkn, hum, hUs, hsv, hVs, hsz, hgx⟩ := hRS
  have hSV0 := hSV
  obtain ⟨hP, hu8, hUP, hv2, hVP, hl200, hlt⟩ := hSV
  have hn4 := hP.2.1
  refine lv_aload_n hx hb dX9_letter_0 rfl (lv_at hl 0 rfl) ?_
  refine lv_iload_n hx hb dX9_letter_1 rfl (lv_at hl 1 rfl) ?_
  refine r_callI w (va_runV (As := [.int p0]) (rest := []) ⟨hx, hb, hml, hown, hts⟩ (c_X9_isFunction l D S.1 p0) (cwV 1 hts gX9_letter_X9_isFunction rfl rfl rfl (by decide +kernel) ⟨Nat.le_of_ble_eq_true rfl, Nat.le_of_ble_eq_true rfl⟩) (r_preV w (by have := D.1; omega) D.c0 rfl) rfl rfl hl.1 rfl (lv_room (Nat.le_of_ble_eq_true rfl)) dX9_letter_2 ⟨Nat.zero_le _, Nat.zero_le _⟩) (fun r2 h1 H locs hp w => ?_)
  obtain ⟨eh_, qq3⟩ := hp
  have eh_ := eh_.symm
  subst eh_
  have b4 : Bq r2 (0 ≤ p0.toInt ∧ p0.toInt < ((pN (sM st0)) : Int)) := qq3.iff (by rw [((rfl : p0.toInt = p0.toInt) : p0.toInt = _)])
  refine lv_if_eq (tgt := 38) hx hb dX9_letter_5 (by decide) (fun c5 => ?_) (fun c5 => ?_)
  · have c5 := b4.eq c5
    refine lv_iconst (v := (-1)) hx hb dX9_letter_38 (by decide) ?_
    refine r_iret (v := (-1)) hx hb hr hlocks w dX9_letter_39 ?_
    exact ⟨rfl, Or.inr ⟨by rintro ⟨f_, j_, a1_, a2_, a3_, a4_⟩; first | omega | (obtain rfl : f_ = f := (by omega); omega), rfl⟩⟩
  · have c5 := b4.ne c5
    obtain ⟨f, hf0⟩ : ∃ q_ : Nat, p0.toInt = (q_ : Int) := ⟨p0.toInt.toNat, by omega⟩
    have hf : f < pN (sM st0) := by omega
    obtain ⟨ha3, hk3, hl1, hl24, hpl, hd0⟩ := hP.2.2 f hf
    refine lv_iload_n hx hb dX9_letter_8 rfl (lv_at hl 2 rfl) ?_
    refine lv_iconst (v := 0) hx hb dX9_letter_9 (by decide) ?_
    refine lv_aload_n hx hb dX9_letter_10 rfl (lv_at hl 0 rfl) ?_
    refine r_get (C := RX9) (T := TX9) (N := 20) (ci := 7) hx hb hts inX9_letter_X9 hown w (by have := D.1; omega) D.c0 rfl 3 (by decide) (hts (Cond.fieldLink RX9 16 "EarlyValuesModel" "longOf" "[I") (List.mem_of_getElem? (i := 1) (by decide +kernel))) rfl rfl dX9_letter_11 ?_
    refine lv_iload_n hx hb dX9_letter_14 rfl (lv_at hl 1 rfl) ?_
    refine r_iald (j := f) hx hb w (by have := D.1; omega) D.c3 hf0 (by omega) dX9_letter_15 ?_
    refine lv_iconst (v := 1) hx hb dX9_letter_16 (by decide) ?_
    refine lv_isub hx hb dX9_letter_17 ?_
    refine lv_topi (fun y6 ey6 => ?_)
    have ty6 : y6.toInt = (((pL (sM st0) f) : Nat) : Int) - ((1 : Nat) : Int) := i_sub ey6 (S.2.2.2.1 f (by omega)) (by decide : (1 : Int32).toInt = ((1 : Nat) : Int)) (by omega)
    refine r_callI w (va_runS (As := [.int p1, .int 0, .int y6]) (rest := []) ⟨hx, hb, hml, hown, hts⟩ (c_X9_in l p1 0 y6) (va_cwS 3 hts gX9_letter_X9_in rfl rfl rfl (by decide +kernel) ⟨Nat.le_of_ble_eq_true rfl, Nat.le_of_ble_eq_true rfl⟩) (r_preS w) rfl rfl hl.1 rfl (lv_room (Nat.le_of_ble_eq_true rfl)) dX9_letter_18 ⟨Nat.zero_le _, Nat.zero_le _⟩) (fun r8 h7 H locs hp w => ?_)
    obtain ⟨eh_, qq9⟩ := hp
    have eh_ := eh_.symm
    subst eh_
    have b10 : Bq r8 (((0 : Nat) : Int) ≤ p1.toInt ∧ p1.toInt ≤ ((((pL (sM st0) f) : Nat) : Int) - ((1 : Nat) : Int))) := qq9.iff (by rw [((rfl : p1.toInt = p1.toInt) : (p1 : Int32).toInt = _), ((by decide : (0 : Int32).toInt = ((0 : Nat) : Int)) : (0 : Int32).toInt = _), (ty6 : (y6 : Int32).toInt = _)])
    refine lv_if_eq (tgt := 38) hx hb dX9_letter_21 (by decide) (fun c11 => ?_) (fun c11 => ?_)
    · have c11 := b10.eq c11
      refine lv_iconst (v := (-1)) hx hb dX9_letter_38 (by decide) ?_
      refine r_iret (v := (-1)) hx hb hr hlocks w dX9_letter_39 ?_
      exact ⟨rfl, Or.inr ⟨by rintro ⟨f_, j_, a1_, a2_, a3_, a4_⟩; first | omega | (obtain rfl : f_ = f := (by omega); omega), rfl⟩⟩
    · have c11 := b10.ne c11
      obtain ⟨j, hj0⟩ : ∃ q_ : Nat, p1.toInt = (q_ : Int) := ⟨p1.toInt.toNat, by omega⟩
      have hj : j < pL (sM st0) f := by omega
      refine lv_aload_n hx hb dX9_letter_24 rfl (lv_at hl 0 rfl) ?_
      refine r_get (C := RX9) (T := TX9) (N := 20) (ci := 7) hx hb hts inX9_letter_X9 hown w (by have := D.1; omega) D.c0 rfl 4 (by decide) (hts (Cond.fieldLink RX9 19 "EarlyValuesModel" "body" "[I") (List.mem_of_getElem? (i := 2) (by decide +kernel))) rfl rfl dX9_letter_25 ?_
      refine lv_bipush (v := 24) hx hb dX9_letter_28 (by decide) ?_
      refine lv_iload_n hx hb dX9_letter_30 rfl (lv_at hl 1 rfl) ?_
      refine lv_imul hx hb dX9_letter_31 ?_
      refine lv_topi (fun y12 ey12 => ?_)
      have ty12 : y12.toInt = (((24 * f) : Nat) : Int) := i_mulN ey12 (by decide : (24 : Int32).toInt = ((24 : Nat) : Int)) hf0 (by omega)
      refine lv_iload_n hx hb dX9_letter_32 rfl (lv_at hl 2 rfl) ?_
      refine lv_iadd hx hb dX9_letter_33 ?_
      refine lv_topi (fun y13 ey13 => ?_)
      have ty13 : y13.toInt = ((((24 * f) + j) : Nat) : Int) := i_addN ey13 ty12 hj0 (by omega)
      refine r_iald (j := ((24 * f) + j)) hx hb w (by have := D.1; omega) D.c4 ty13 (by omega) dX9_letter_34 ?_
      refine lv_goto (tgt := 39) hx hb dX9_letter_35 (by decide) ?_
      refine r_iret (v := gB (((24 * f) + j))) hx hb hr hlocks w dX9_letter_39 ?_
      exact ⟨rfl, Or.inl ⟨f, j, hf0, hj0, hf, hj, (S.2.2.2.2 f hf j hj)⟩⟩

theorem inX9_put_X9 : ∀ w ∈ wsX90, w ∈ wsX9_put := by decide +kernel
abbrev rm_X9_put : Room := { frames := 3, cells := 0, slots := 0, locals := 68 }
set_option maxHeartbeats 4000000 in
set_option maxRecDepth 100000 in
theorem c_X9_put (l : Launch) {g : GE} {h : Nat → va_E} {r : Nat} {st0 : ST} (R : RefA g h r st0) (p0 : Int32) (p1 : Int32) (p2 : Int32) : MI l yX9_put wsX9_put rm_X9_put [.ref (g.2.2.1 r), .int p0, .int p1, .int p2] g h (fun r_ h2 => (∀ k, ¬ (r ≤ k ∧ k < r + 14) → h2 k = h k) ∧ ∃ s2 : ST, RefA g h2 r s2 ∧ AnPut st0 p0 p1 p2 r_ s2) := by
  refine Met.ofW (cc := cX9_put) (maxL := 5) (ret := (some .int)) (by decide) rfl ?_
  intro p e s m args below meth c s₁ B hml hv
  obtain ⟨rfl, w0⟩ := hv
  have hx := B.exec
  have hb := B.bytes
  have hr := B.returns
  have hts := atoms_spec (ws := wsX9_put) B.pre
  have hown : s.vm.findClass RX9 = some m.cls := findClass_of_methodNamed B.named
  have hlocks := B.notSynchronized
  have w := w0.start
  clear w0
  have hl := lv_entry ([.ref (g.2.2.1 r), .int p0, .int p1, .int p2]) (n := 5) (Nat.le_of_ble_eq_true rfl)
  rw [lg_entry_eq]
  generalize (lg_sl ([.ref (g.2.2.1 r), .int p0, .int p1, .int p2]) ++ List.replicate (5 - (lg_sl ([.ref (g.2.2.1 r), .int p0, .int p1, .int p2])).length) Slot.unset).toArray = ls at hl ⊢
  have hl : lv_has ls 5 [(0, .ref (g.2.2.1 r)), (1, .int p0), (2, .int p1), (3, .int p2)] := hl
  obtain ⟨nm, kn, um, sv, sz, ra, rm, ga, gk, gl, gB, gt, gn, gr, gp, gh, gv, gs, gx, gf, D, hRS⟩ := R
  obtain ⟨hSV, S, hkn, hum, hUs, hsv, hVs, hsz, hgx⟩ := hRS
  have hSV0 := hSV
  obtain ⟨hP, hu8, hUP, hv2, hVP, hl200, hlt⟩ := hSV
  have hn4 := hP.2.1
  have hfr : ∀ k_, ¬ (r ≤ k_ ∧ k_ < r + 14) → h k_ = h k_ := fun _ _ => rfl
  refine lv_aload_n hx hb dX9_put_0 rfl (lv_at hl 0 rfl) ?_
  refine lv_iload_n hx hb dX9_put_1 rfl (lv_at hl 1 rfl) ?_
  refine r_callI w (va_runV (As := [.int p0]) (rest := []) ⟨hx, hb, hml, hown, hts⟩ (c_X9_isFunction l D S.1 p0) (cwV 1 hts gX9_put_X9_isFunction rfl rfl rfl (by decide +kernel) ⟨Nat.le_of_ble_eq_true rfl, Nat.le_of_ble_eq_true rfl⟩) (r_preV w (by have := D.1; omega) D.c0 rfl) rfl rfl hl.1 rfl (lv_room (Nat.le_of_ble_eq_true rfl)) dX9_put_2 ⟨Nat.zero_le _, Nat.zero_le _⟩) (fun r2 h1 H locs hp w => ?_)
  obtain ⟨eh_, qq3⟩ := hp
  have eh_ := eh_.symm
  subst eh_
  have b4 : Bq r2 (0 ≤ p0.toInt ∧ p0.toInt < ((pN (sM st0)) : Int)) := qq3.iff (by rw [((rfl : p0.toInt = p0.toInt) : p0.toInt = _)])
  refine lv_if_eq (tgt := 34) hx hb dX9_put_5 (by decide) (fun c5 => ?_) (fun c5 => ?_)
  · have c5 := b4.eq c5
    refine lv_iconst (v := (-1)) hx hb dX9_put_34 (by decide) ?_
    refine r_iret (v := (-1)) hx hb hr hlocks w dX9_put_35 ?_
    exact ⟨hfr, st0, ⟨_, _, _, _, _, _, _, _, _, _, _, _, _, _, _, _, _, _, _, _, D, hSV0, S, hkn, hum, hUs, hsv, hVs, hsz, hgx⟩, Or.inr ⟨by rintro ⟨f_, j_, a1_, a2_, a3_, a4_, a5_⟩; first | omega | (obtain rfl : f_ = f := (by omega); first | omega | (obtain rfl : j_ = j := (by omega); exact absurd rfl a5_)), rfl, rfl⟩⟩
  · have c5 := b4.ne c5
    obtain ⟨f, hf0⟩ : ∃ q_ : Nat, p0.toInt = (q_ : Int) := ⟨p0.toInt.toNat, by omega⟩
    have hf : f < pN (sM st0) := by omega
    obtain ⟨ha3, hk3, hl1, hl24, hpl, hd0⟩ := hP.2.2 f hf
    refine lv_iload_n hx hb dX9_put_8 rfl (lv_at hl 2 rfl) ?_
    refine lv_iconst (v := 0) hx hb dX9_put_9 (by decide) ?_
    refine lv_aload_n hx hb dX9_put_10 rfl (lv_at hl 0 rfl) ?_
    refine r_get (C := RX9) (T := TX9) (N := 20) (ci := 7) hx hb hts inX9_put_X9 hown w (by have := D.1; omega) D.c0 rfl 3 (by decide) (hts (Cond.fieldLink RX9 16 "EarlyValuesModel" "longOf" "[I") (List.mem_of_getElem? (i := 1) (by decide +kernel))) rfl rfl dX9_put_11 ?_
    refine lv_iload_n hx hb dX9_put_14 rfl (lv_at hl 1 rfl) ?_
    refine r_iald (j := f) hx hb w (by have := D.1; omega) D.c3 hf0 (by omega) dX9_put_15 ?_
    refine lv_iconst (v := 1) hx hb dX9_put_16 (by decide) ?_
    refine lv_isub hx hb dX9_put_17 ?_
    refine lv_topi (fun y6 ey6 => ?_)
    have ty6 : y6.toInt = (((pL (sM st0) f) : Nat) : Int) - ((1 : Nat) : Int) := i_sub ey6 (S.2.2.2.1 f (by omega)) (by decide : (1 : Int32).toInt = ((1 : Nat) : Int)) (by omega)
    refine r_callI w (va_runS (As := [.int p1, .int 0, .int y6]) (rest := []) ⟨hx, hb, hml, hown, hts⟩ (c_X9_in l p1 0 y6) (va_cwS 3 hts gX9_put_X9_in rfl rfl rfl (by decide +kernel) ⟨Nat.le_of_ble_eq_true rfl, Nat.le_of_ble_eq_true rfl⟩) (r_preS w) rfl rfl hl.1 rfl (lv_room (Nat.le_of_ble_eq_true rfl)) dX9_put_18 ⟨Nat.zero_le _, Nat.zero_le _⟩) (fun r8 h7 H locs hp w => ?_)
    obtain ⟨eh_, qq9⟩ := hp
    have eh_ := eh_.symm
    subst eh_
    have b10 : Bq r8 (((0 : Nat) : Int) ≤ p1.toInt ∧ p1.toInt ≤ ((((pL (sM st0) f) : Nat) : Int) - ((1 : Nat) : Int))) := qq9.iff (by rw [((rfl : p1.toInt = p1.toInt) : (p1 : Int32).toInt = _), ((by decide : (0 : Int32).toInt = ((0 : Nat) : Int)) : (0 : Int32).toInt = _), (ty6 : (y6 : Int32).toInt = _)])
    refine lv_if_eq (tgt := 34) hx hb dX9_put_21 (by decide) (fun c11 => ?_) (fun c11 => ?_)
    · have c11 := b10.eq c11
      refine lv_iconst (v := (-1)) hx hb dX9_put_34 (by decide) ?_
      refine r_iret (v := (-1)) hx hb hr hlocks w dX9_put_35 ?_
      exact ⟨hfr, st0, ⟨_, _, _, _, _, _, _, _, _, _, _, _, _, _, _, _, _, _, _, _, D, hSV0, S, hkn, hum, hUs, hsv, hVs, hsz, hgx⟩, Or.inr ⟨by rintro ⟨f_, j_, a1_, a2_, a3_, a4_, a5_⟩; first | omega | (obtain rfl : f_ = f := (by omega); first | omega | (obtain rfl : j_ = j := (by omega); exact absurd rfl a5_)), rfl, rfl⟩⟩
    · have c11 := b10.ne c11
      obtain ⟨j, hj0⟩ : ∃ q_ : Nat, p1.toInt = (q_ : Int) := ⟨p1.toInt.toNat, by omega⟩
      have hj : j < pL (sM st0) f := by omega
      refine lv_aload_n hx hb dX9_put_24 rfl (lv_at hl 0 rfl) ?_
      refine lv_iload_n hx hb dX9_put_25 rfl (lv_at hl 1 rfl) ?_
      refine lv_iload_n hx hb dX9_put_26 rfl (lv_at hl 2 rfl) ?_
      refine lv_iload_n hx hb dX9_put_27 rfl (lv_at hl 3 rfl) ?_
      refine r_callI w (va_runV (As := [.int p0, .int p1, .int p2]) (rest := []) ⟨hx, hb, hml, hown, hts⟩ (c_X9_mayStand l D S hP p0 p1 p2 hf0 hj0 (by omega) (by omega)) (cwV 3 hts gX9_put_X9_mayStand rfl rfl rfl (by decide +kernel) ⟨Nat.le_of_ble_eq_true rfl, Nat.le_of_ble_eq_true rfl⟩) (r_preV w (by have := D.1; omega) D.c0 rfl) rfl rfl hl.1 rfl (lv_room (Nat.le_of_ble_eq_true rfl)) dX9_put_28 ⟨Nat.zero_le _, Nat.zero_le _⟩) (fun r13 h12 H locs hp w => ?_)
      obtain ⟨eh_, qq14⟩ := hp
      have eh_ := eh_.symm
      subst eh_
      refine lv_if_ne (tgt := 36) hx hb dX9_put_31 (by decide) (fun c15 => ?_) (fun c15 => ?_)
      · have c15 := qq14.ne c15
        refine lv_aload_n hx hb dX9_put_36 rfl (lv_at hl 0 rfl) ?_
        refine r_get (C := RX9) (T := TX9) (N := 20) (ci := 7) hx hb hts inX9_put_X9 hown w (by have := D.1; omega) D.c0 rfl 4 (by decide) (hts (Cond.fieldLink RX9 19 "EarlyValuesModel" "body" "[I") (List.mem_of_getElem? (i := 2) (by decide +kernel))) rfl rfl dX9_put_37 ?_
        refine lv_bipush (v := 24) hx hb dX9_put_40 (by decide) ?_
        refine lv_iload_n hx hb dX9_put_42 rfl (lv_at hl 1 rfl) ?_
        refine lv_imul hx hb dX9_put_43 ?_
        refine lv_topi (fun y16 ey16 => ?_)
        have ty16 : y16.toInt = (((24 * f) : Nat) : Int) := i_mulN ey16 (by decide : (24 : Int32).toInt = ((24 : Nat) : Int)) hf0 (by omega)
        refine lv_iload_n hx hb dX9_put_44 rfl (lv_at hl 2 rfl) ?_
        refine lv_iadd hx hb dX9_put_45 ?_
        refine lv_topi (fun y17 ey17 => ?_)
        have ty17 : y17.toInt = ((((24 * f) + j) : Nat) : Int) := i_addN ey17 ty16 hj0 (by omega)
        refine r_iald (j := ((24 * f) + j)) hx hb w (by have := D.1; omega) D.c4 ty17 (by omega) dX9_put_46 ?_
        refine lv_istore (lv' := [(4, .int (gB (((24 * f) + j)))), (0, .ref (g.2.2.1 r)), (1, .int p0), (2, .int p1), (3, .int p2)]) hx hb dX9_put_47 hl (by decide) rfl (fun ls hl => ?_)
        refine lv_iload hx hb dX9_put_49 (lv_at hl 0 rfl) ?_
        refine lv_iload_n hx hb dX9_put_51 rfl (lv_at hl 4 rfl) ?_
        refine lv_icmp_ne (tgt := 58) hx hb dX9_put_52 (by decide) (fun c18 => ?_) (fun c18 => ?_)
        · have c18 : ¬ ((((mCode (pB (sM st0) f j)) : Nat) : Int) = p2.toInt) := fun q => c18 ((i_eq (S.2.2.2.2 f hf j hj) (rfl : p2.toInt = p2.toInt)).mpr q)
          refine lv_aload_n hx hb dX9_put_58 rfl (lv_at hl 1 rfl) ?_
          refine r_callV w (va_runV (As := []) (rest := []) ⟨hx, hb, hml, hown, hts⟩ (c_X9_notes l D hum hu8) (cwV 0 hts gX9_put_X9_notes rfl rfl rfl (by decide +kernel) ⟨Nat.le_of_ble_eq_true rfl, Nat.le_of_ble_eq_true rfl⟩) (r_preV w (by have := D.1; omega) D.c0 rfl) rfl rfl hl.1 rfl (lv_room (Nat.le_of_ble_eq_true rfl)) dX9_put_59 ⟨Nat.zero_le _, Nat.zero_le _⟩) (fun h19 H locs hp w => ?_)
          obtain ⟨hfk20, umk20, ghk20, D, hNk20⟩ := hp
          have hfr : ∀ k_, ¬ (r ≤ k_ ∧ k_ < r + 14) → h19 k_ = h k_ := fun k_ hk_ => (hfk20 k_ (by omega))
          refine lv_aload_n hx hb dX9_put_62 rfl (lv_at hl 1 rfl) ?_
          refine r_get (C := RX9) (T := TX9) (N := 20) (ci := 7) hx hb hts inX9_put_X9 hown w (by have := D.1; omega) D.c0 rfl 4 (by decide) (hts (Cond.fieldLink RX9 19 "EarlyValuesModel" "body" "[I") (List.mem_of_getElem? (i := 2) (by decide +kernel))) rfl rfl dX9_put_63 ?_
          refine lv_bipush (v := 24) hx hb dX9_put_66 (by decide) ?_
          refine lv_iload_n hx hb dX9_put_68 rfl (lv_at hl 2 rfl) ?_
          refine lv_imul hx hb dX9_put_69 ?_
          refine lv_topi (fun y21 ey21 => ?_)
          have ty21 : y21.toInt = (((24 * f) : Nat) : Int) := i_mulN ey21 (by decide : (24 : Int32).toInt = ((24 : Nat) : Int)) hf0 (by omega)
          refine lv_iload_n hx hb dX9_put_70 rfl (lv_at hl 3 rfl) ?_
          refine lv_iadd hx hb dX9_put_71 ?_
          refine lv_topi (fun y22 ey22 => ?_)
          have ty22 : y22.toInt = ((((24 * f) + j) : Nat) : Int) := i_addN ey22 ty21 hj0 (by omega)
          refine lv_iload_n hx hb dX9_put_72 rfl (lv_at hl 4 rfl) ?_
          refine r_iast (j := ((24 * f) + j)) hx hb w (by have := D.1; omega) D.c4 ty22 (by omega) dX9_put_73 (fun h23 H locs eh23 w => ?_)
          have D := D.s4 eh23
          generalize egz24 : upd gB (((24 * f) + j)) p2 = gz24 at D
          have hfr : ∀ k_, ¬ (r ≤ k_ ∧ k_ < r + 14) → h23 k_ = h k_ := fun k_ hk_ => by rw [eh23, va_up_ne _ _ (by omega)]; exact hfr k_ hk_
          refine lv_iload hx hb dX9_put_74 (lv_at hl 0 rfl) ?_
          refine r_iret (v := gB (((24 * f) + j))) hx hb hr hlocks w dX9_put_76 ?_
          have hkk_ := mCode_num c15.1
          have hP2_ := mSet_ok hP c15.2 c15.1
          obtain ⟨n1_, n2_, n3_⟩ := nact_ok (M' := mSet (sM st0) f j (mNum p2.toInt)) hSV0 S hUs hNk20 hP2_
          obtain ⟨e1_, e2_, e3_, e4_, e5_⟩ := nact_M st0 (mSet (sM st0) f j (mNum p2.toInt))
          have hR2_ := S.put hP hf hj hkk_.symm egz24
          refine ⟨hfr, nAct st0 (mSet (sM st0) f j (mNum p2.toInt)), ⟨_, _, _, _, _, _, _, _, _, _, _, _, _, _, _, _, _, _, _, _, D, n1_, (by rw [e1_]; exact hR2_), (Or.inl rfl), n2_, n3_, (by rw [e2_]; exact hsv), (by rw [e2_, e3_]; exact hVs), (by rw [e4_]; exact hsz), (by rw [e4_, e5_]; exact hgx)⟩, Or.inl ⟨f, j, hf0, hj0, hf, hj, c15.1, c15.2, Or.inr ⟨fun q_ => by rw [q_] at c18; omega, (S.2.2.2.2 f hf j hj), rfl⟩⟩⟩
        · have c18 : (((mCode (pB (sM st0) f j)) : Nat) : Int) = p2.toInt := (i_eq (S.2.2.2.2 f hf j hj) (rfl : p2.toInt = p2.toInt)).mp c18
          refine lv_bipush (v := (-2)) hx hb dX9_put_55 (by decide) ?_
          refine r_iret (v := (-2)) hx hb hr hlocks w dX9_put_57 ?_
          have hkk_ := mCode_num c15.1
          exact ⟨hfr, st0, ⟨_, _, _, _, _, _, _, _, _, _, _, _, _, _, _, _, _, _, _, _, D, hSV0, S, hkn, hum, hUs, hsv, hVs, hsz, hgx⟩, Or.inl ⟨f, j, hf0, hj0, hf, hj, c15.1, c15.2, Or.inl ⟨mCode_inj (hpl j hj).1 c15.1 (by omega), rfl, rfl⟩⟩⟩
      · have c15 := qq14.eq c15
        refine lv_iconst (v := (-1)) hx hb dX9_put_34 (by decide) ?_
        refine r_iret (v := (-1)) hx hb hr hlocks w dX9_put_35 ?_
        exact ⟨hfr, st0, ⟨_, _, _, _, _, _, _, _, _, _, _, _, _, _, _, _, _, _, _, _, D, hSV0, S, hkn, hum, hUs, hsv, hVs, hsz, hgx⟩, Or.inr ⟨by rintro ⟨f_, j_, a1_, a2_, a3_, a4_, a5_⟩; first | omega | (obtain rfl : f_ = f := (by omega); first | omega | (obtain rfl : j_ = j := (by omega); exact c15 a5_)), rfl, rfl⟩⟩

theorem inX9_rename_X9 : ∀ w ∈ wsX90, w ∈ wsX9_rename := by decide +kernel
abbrev rm_X9_rename : Room := { frames := 2, cells := 0, slots := 0, locals := 44 }
set_option maxHeartbeats 4000000 in
set_option maxRecDepth 100000 in
theorem c_X9_rename (l : Launch) {g : GE} {h : Nat → va_E} {r : Nat} {st0 : ST} (R : RefA g h r st0) (p0 : Int32) (p1 : Int32) : MI l yX9_rename wsX9_rename rm_X9_rename [.ref (g.2.2.1 r), .int p0, .int p1] g h (fun r_ h2 => (∀ k, ¬ (r ≤ k ∧ k < r + 14) → h2 k = h k) ∧ ∃ s2 : ST, RefA g h2 r s2 ∧ AnRename st0 p0 p1 r_ s2) := by
  refine Met.ofW (cc := cX9_rename) (maxL := 4) (ret := (some .int)) (by decide) rfl ?_
  intro p e s m args below meth c s₁ B hml hv
  obtain ⟨rfl, w0⟩ := hv
  have hx := B.exec
  have hb := B.bytes
  have hr := B.returns
  have hts := atoms_spec (ws := wsX9_rename) B.pre
  have hown : s.vm.findClass RX9 = some m.cls := findClass_of_methodNamed B.named
  have hlocks := B.notSynchronized
  have w := w0.start
  clear w0
  have hl := lv_entry ([.ref (g.2.2.1 r), .int p0, .int p1]) (n := 4) (Nat.le_of_ble_eq_true rfl)
  rw [lg_entry_eq]
  generalize (lg_sl ([.ref (g.2.2.1 r), .int p0, .int p1]) ++ List.replicate (4 - (lg_sl ([.ref (g.2.2.1 r), .int p0, .int p1])).length) Slot.unset).toArray = ls at hl ⊢
  have hl : lv_has ls 4 [(0, .ref (g.2.2.1 r)), (1, .int p0), (2, .int p1)] := hl
  obtain ⟨nm, kn, um, sv, sz, ra, rm, ga, gk, gl, gB, gt, gn, gr, gp, gh, gv, gs, gx, gf, D, hRS⟩ := R
  obtain ⟨hSV, S, hkn, hum, hUs, hsv, hVs, hsz, hgx⟩ := hRS
  have hSV0 := hSV
  obtain ⟨hP, hu8, hUP, hv2, hVP, hl200, hlt⟩ := hSV
  have hn4 := hP.2.1
  have hfr : ∀ k_, ¬ (r ≤ k_ ∧ k_ < r + 14) → h k_ = h k_ := fun _ _ => rfl
  refine lv_aload_n hx hb dX9_rename_0 rfl (lv_at hl 0 rfl) ?_
  refine lv_iload_n hx hb dX9_rename_1 rfl (lv_at hl 1 rfl) ?_
  refine r_callI w (va_runV (As := [.int p0]) (rest := []) ⟨hx, hb, hml, hown, hts⟩ (c_X9_isFunction l D S.1 p0) (cwV 1 hts gX9_rename_X9_isFunction rfl rfl rfl (by decide +kernel) ⟨Nat.le_of_ble_eq_true rfl, Nat.le_of_ble_eq_true rfl⟩) (r_preV w (by have := D.1; omega) D.c0 rfl) rfl rfl hl.1 rfl (lv_room (Nat.le_of_ble_eq_true rfl)) dX9_rename_2 ⟨Nat.zero_le _, Nat.zero_le _⟩) (fun r2 h1 H locs hp w => ?_)
  obtain ⟨eh_, qq3⟩ := hp
  have eh_ := eh_.symm
  subst eh_
  have b4 : Bq r2 (0 ≤ p0.toInt ∧ p0.toInt < ((pN (sM st0)) : Int)) := qq3.iff (by rw [((rfl : p0.toInt = p0.toInt) : p0.toInt = _)])
  refine lv_if_eq (tgt := 17) hx hb dX9_rename_5 (by decide) (fun c5 => ?_) (fun c5 => ?_)
  · have c5 := b4.eq c5
    refine lv_iconst (v := (-1)) hx hb dX9_rename_17 (by decide) ?_
    refine r_iret (v := (-1)) hx hb hr hlocks w dX9_rename_18 ?_
    exact ⟨hfr, st0, ⟨_, _, _, _, _, _, _, _, _, _, _, _, _, _, _, _, _, _, _, _, D, hSV0, S, hkn, hum, hUs, hsv, hVs, hsz, hgx⟩, Or.inr ⟨by omega, rfl, rfl⟩⟩
  · have c5 := b4.ne c5
    obtain ⟨f, hf0⟩ : ∃ q_ : Nat, p0.toInt = (q_ : Int) := ⟨p0.toInt.toNat, by omega⟩
    have hf : f < pN (sM st0) := by omega
    obtain ⟨ha3, hk3, hl1, hl24, hpl, hd0⟩ := hP.2.2 f hf
    refine lv_iload_n hx hb dX9_rename_8 rfl (lv_at hl 2 rfl) ?_
    refine lv_iconst (v := 0) hx hb dX9_rename_9 (by decide) ?_
    refine lv_iconst (v := 3) hx hb dX9_rename_10 (by decide) ?_
    refine r_callI w (va_runS (As := [.int p1, .int 0, .int 3]) (rest := []) ⟨hx, hb, hml, hown, hts⟩ (c_X9_in l p1 0 3) (va_cwS 3 hts gX9_rename_X9_in rfl rfl rfl (by decide +kernel) ⟨Nat.le_of_ble_eq_true rfl, Nat.le_of_ble_eq_true rfl⟩) (r_preS w) rfl rfl hl.1 rfl (lv_room (Nat.le_of_ble_eq_true rfl)) dX9_rename_11 ⟨Nat.zero_le _, Nat.zero_le _⟩) (fun r7 h6 H locs hp w => ?_)
    obtain ⟨eh_, qq8⟩ := hp
    have eh_ := eh_.symm
    subst eh_
    have b9 : Bq r7 (((0 : Nat) : Int) ≤ p1.toInt ∧ p1.toInt ≤ ((3 : Nat) : Int)) := qq8.iff (by rw [((rfl : p1.toInt = p1.toInt) : (p1 : Int32).toInt = _), ((by decide : (0 : Int32).toInt = ((0 : Nat) : Int)) : (0 : Int32).toInt = _), ((by decide : (3 : Int32).toInt = ((3 : Nat) : Int)) : (3 : Int32).toInt = _)])
    refine lv_if_ne (tgt := 19) hx hb dX9_rename_14 (by decide) (fun c10 => ?_) (fun c10 => ?_)
    · have c10 := b9.ne c10
      obtain ⟨c3, hc0⟩ : ∃ q_ : Nat, p1.toInt = (q_ : Int) := ⟨p1.toInt.toNat, by omega⟩
      refine lv_aload_n hx hb dX9_rename_19 rfl (lv_at hl 0 rfl) ?_
      refine r_get (C := RX9) (T := TX9) (N := 20) (ci := 7) hx hb hts inX9_rename_X9 hown w (by have := D.1; omega) D.c0 rfl 2 (by decide) (hts (Cond.fieldLink RX9 13 "EarlyValuesModel" "kindOf" "[I") (List.mem_of_getElem? (i := 1) (by decide +kernel))) rfl rfl dX9_rename_20 ?_
      refine lv_iload_n hx hb dX9_rename_23 rfl (lv_at hl 1 rfl) ?_
      refine r_iald (j := f) hx hb w (by have := D.1; omega) D.c2 hf0 (by omega) dX9_rename_24 ?_
      refine lv_istore_n (lv' := [(3, .int (gk f)), (0, .ref (g.2.2.1 r)), (1, .int p0), (2, .int p1)]) hx hb dX9_rename_25 rfl hl (by decide) rfl (fun ls hl => ?_)
      refine lv_iload_n hx hb dX9_rename_26 rfl (lv_at hl 0 rfl) ?_
      refine lv_iload_n hx hb dX9_rename_27 rfl (lv_at hl 3 rfl) ?_
      refine lv_icmp_ne (tgt := 34) hx hb dX9_rename_28 (by decide) (fun c11 => ?_) (fun c11 => ?_)
      · have c11 : ¬ ((((pK (sM st0) f) : Nat) : Int) = ((c3 : Nat) : Int)) := fun q => c11 ((i_eq (S.2.2.1 f (by omega)) hc0).mpr q)
        refine lv_aload_n hx hb dX9_rename_34 rfl (lv_at hl 1 rfl) ?_
        refine r_callV w (va_runV (As := []) (rest := []) ⟨hx, hb, hml, hown, hts⟩ (c_X9_notes l D hum hu8) (cwV 0 hts gX9_rename_X9_notes rfl rfl rfl (by decide +kernel) ⟨Nat.le_of_ble_eq_true rfl, Nat.le_of_ble_eq_true rfl⟩) (r_preV w (by have := D.1; omega) D.c0 rfl) rfl rfl hl.1 rfl (lv_room (Nat.le_of_ble_eq_true rfl)) dX9_rename_35 ⟨Nat.zero_le _, Nat.zero_le _⟩) (fun h12 H locs hp w => ?_)
        obtain ⟨hfk13, umk13, ghk13, D, hNk13⟩ := hp
        have hfr : ∀ k_, ¬ (r ≤ k_ ∧ k_ < r + 14) → h12 k_ = h k_ := fun k_ hk_ => (hfk13 k_ (by omega))
        refine lv_aload_n hx hb dX9_rename_38 rfl (lv_at hl 1 rfl) ?_
        refine r_get (C := RX9) (T := TX9) (N := 20) (ci := 7) hx hb hts inX9_rename_X9 hown w (by have := D.1; omega) D.c0 rfl 2 (by decide) (hts (Cond.fieldLink RX9 13 "EarlyValuesModel" "kindOf" "[I") (List.mem_of_getElem? (i := 1) (by decide +kernel))) rfl rfl dX9_rename_39 ?_
        refine lv_iload_n hx hb dX9_rename_42 rfl (lv_at hl 2 rfl) ?_
        refine lv_iload_n hx hb dX9_rename_43 rfl (lv_at hl 3 rfl) ?_
        refine r_iast (j := f) hx hb w (by have := D.1; omega) D.c2 hf0 (by omega) dX9_rename_44 (fun h14 H locs eh14 w => ?_)
        have D := D.s2 eh14
        generalize egz15 : upd gk f p1 = gz15 at D
        have hfr : ∀ k_, ¬ (r ≤ k_ ∧ k_ < r + 14) → h14 k_ = h k_ := fun k_ hk_ => by rw [eh14, va_up_ne _ _ (by omega)]; exact hfr k_ hk_
        refine lv_iload_n hx hb dX9_rename_45 rfl (lv_at hl 0 rfl) ?_
        refine r_iret (v := gk f) hx hb hr hlocks w dX9_rename_46 ?_
        have hP2_ := mKind_ok (f := f) hP (show c3 ≤ 3 by omega)
        obtain ⟨n1_, n2_, n3_⟩ := nact_ok (M' := mKind (sM st0) f c3) hSV0 S hUs hNk13 hP2_
        obtain ⟨e1_, e2_, e3_, e4_, e5_⟩ := nact_M st0 (mKind (sM st0) f c3)
        have hR2_ := S.kind hc0 egz15
        refine ⟨hfr, nAct st0 (mKind (sM st0) f c3), ⟨_, _, _, _, _, _, _, _, _, _, _, _, _, _, _, _, _, _, _, _, D, n1_, (by rw [e1_]; exact hR2_), (Or.inl rfl), n2_, n3_, (by rw [e2_]; exact hsv), (by rw [e2_, e3_]; exact hVs), (by rw [e4_]; exact hsz), (by rw [e4_, e5_]; exact hgx)⟩, Or.inl ⟨f, c3, hf0, hc0, hf, by omega, Or.inr ⟨by omega, (S.2.2.1 f (by omega)), rfl⟩⟩⟩
      · have c11 : (((pK (sM st0) f) : Nat) : Int) = ((c3 : Nat) : Int) := (i_eq (S.2.2.1 f (by omega)) hc0).mp c11
        refine lv_bipush (v := (-2)) hx hb dX9_rename_31 (by decide) ?_
        refine r_iret (v := (-2)) hx hb hr hlocks w dX9_rename_33 ?_
        exact ⟨hfr, st0, ⟨_, _, _, _, _, _, _, _, _, _, _, _, _, _, _, _, _, _, _, _, D, hSV0, S, hkn, hum, hUs, hsv, hVs, hsz, hgx⟩, Or.inl ⟨f, c3, hf0, hc0, hf, by omega, Or.inl ⟨by omega, rfl, rfl⟩⟩⟩
    · have c10 := b9.eq c10
      refine lv_iconst (v := (-1)) hx hb dX9_rename_17 (by decide) ?_
      refine r_iret (v := (-1)) hx hb hr hlocks w dX9_rename_18 ?_
      exact ⟨hfr, st0, ⟨_, _, _, _, _, _, _, _, _, _, _, _, _, _, _, _, _, _, _, _, D, hSV0, S, hkn, hum, hUs, hsv, hVs, hsz, hgx⟩, Or.inr ⟨by omega, rfl, rfl⟩⟩

theorem inX9_undo_X9 : ∀ w ∈ wsX90, w ∈ wsX9_undo := by decide +kernel
abbrev rm_X9_undo : Room := { frames := 1, cells := 0, slots := 0, locals := 23 }
set_option maxHeartbeats 4000000 in
set_option maxRecDepth 100000 in
theorem c_X9_undo (l : Launch) {g : GE} {h : Nat → va_E} {r : Nat} {st0 : ST} (R : RefA g h r st0) : MI l yX9_undo wsX9_undo rm_X9_undo [.ref (g.2.2.1 r)] g h (fun r_ h2 => (∀ k, ¬ (r ≤ k ∧ k < r + 14) → h2 k = h k) ∧ ∃ s2 : ST, RefA g h2 r s2 ∧ AnUndo st0 r_ s2) := by
  refine Met.ofW (cc := cX9_undo) (maxL := 1) (ret := (some .int)) (by decide) rfl ?_
  intro p e s m args below meth c s₁ B hml hv
  obtain ⟨rfl, w0⟩ := hv
  have hx := B.exec
  have hb := B.bytes
  have hr := B.returns
  have hts := atoms_spec (ws := wsX9_undo) B.pre
  have hown : s.vm.findClass RX9 = some m.cls := findClass_of_methodNamed B.named
  have hlocks := B.notSynchronized
  have w := w0.start
  clear w0
  have hl := lv_entry ([.ref (g.2.2.1 r)]) (n := 1) (Nat.le_of_ble_eq_true rfl)
  rw [lg_entry_eq]
  generalize (lg_sl ([.ref (g.2.2.1 r)]) ++ List.replicate (1 - (lg_sl ([.ref (g.2.2.1 r)])).length) Slot.unset).toArray = ls at hl ⊢
  have hl : lv_has ls 1 [(0, .ref (g.2.2.1 r))] := hl
  obtain ⟨nm, kn, um, sv, sz, ra, rm, ga, gk, gl, gB, gt, gn, gr, gp, gh, gv, gs, gx, gf, D, hRS⟩ := R
  obtain ⟨hSV, S, hkn, hum, hUs, hsv, hVs, hsz, hgx⟩ := hRS
  have hSV0 := hSV
  obtain ⟨hP, hu8, hUP, hv2, hVP, hl200, hlt⟩ := hSV
  have hn4 := hP.2.1
  have hfr : ∀ k_, ¬ (r ≤ k_ ∧ k_ < r + 14) → h k_ = h k_ := fun _ _ => rfl
  refine lv_aload_n hx hb dX9_undo_0 rfl (lv_at hl 0 rfl) ?_
  refine r_get (C := RX9) (T := TX9) (N := 20) (ci := 7) hx hb hts inX9_undo_X9 hown w (by have := D.1; omega) D.c0 rfl 11 (by decide) (hts (Cond.fieldLink RX9 132 "EarlyValuesModel" "undoMany" "I") (List.mem_of_getElem? (i := 1) (by decide +kernel))) rfl rfl dX9_undo_1 ?_
  refine lv_if_ne (tgt := 10) hx hb dX9_undo_4 (by decide) (fun c1 => ?_) (fun c1 => ?_)
  · have c1 : ¬ ((((sU st0) : Nat) : Int) = (0 : Int)) := fun q => c1 ((i_eq hum (rfl : (0 : Int32).toInt = 0)).mpr q)
    refine lv_aload_n hx hb dX9_undo_10 rfl (lv_at hl 0 rfl) ?_
    refine lv_dup hx hb dX9_undo_11 rfl ?_
    refine r_get (C := RX9) (T := TX9) (N := 20) (ci := 7) hx hb hts inX9_undo_X9 hown w (by have := D.1; omega) D.c0 rfl 11 (by decide) (hts (Cond.fieldLink RX9 132 "EarlyValuesModel" "undoMany" "I") (List.mem_of_getElem? (i := 1) (by decide +kernel))) rfl rfl dX9_undo_12 ?_
    refine lv_iconst (v := 1) hx hb dX9_undo_15 (by decide) ?_
    refine lv_isub hx hb dX9_undo_16 ?_
    refine lv_topi (fun y2 ey2 => ?_)
    have ty2 : y2.toInt = ((((sU st0) - 1) : Nat) : Int) := i_subN ey2 hum (by decide : (1 : Int32).toInt = ((1 : Nat) : Int)) (by omega)
    refine r_put (ty := .int) (C := RX9) (T := TX9) (N := 20) (ci := 7) hx hb hts inX9_undo_X9 tyX9 tyX9_ok nmX9 hown w (by have := D.1; omega) D.c0 rfl 11 (by decide) (hts (Cond.fieldLink RX9 132 "EarlyValuesModel" "undoMany" "I") (List.mem_of_getElem? (i := 1) (by decide +kernel))) rfl rfl (by decide +kernel) rfl rfl (Nat.le_of_ble_eq_true rfl) dX9_undo_17 (fun h3 H locs eh3 w => ?_)
    have D := D.s0 eh3
    have hfr : ∀ k_, ¬ (r ≤ k_ ∧ k_ < r + 14) → h3 k_ = h k_ := fun k_ hk_ => by rw [eh3, va_up_ne _ _ (by omega)]
    refine lv_aload_n hx hb dX9_undo_20 rfl (lv_at hl 0 rfl) ?_
    refine lv_aload_n hx hb dX9_undo_21 rfl (lv_at hl 0 rfl) ?_
    refine r_get (C := RX9) (T := TX9) (N := 20) (ci := 7) hx hb hts inX9_undo_X9 hown w (by have := D.1; omega) D.c0 rfl 10 (by decide) (hts (Cond.fieldLink RX9 34 "EarlyValuesModel" "ahead" "[I") (List.mem_of_getElem? (i := 2) (by decide +kernel))) rfl rfl dX9_undo_22 ?_
    refine lv_bipush (v := 109) hx hb dX9_undo_25 (by decide) ?_
    refine lv_aload_n hx hb dX9_undo_27 rfl (lv_at hl 0 rfl) ?_
    refine r_get (C := RX9) (T := TX9) (N := 20) (ci := 7) hx hb hts inX9_undo_X9 hown w (by have := D.1; omega) D.c0 rfl 11 (by decide) (hts (Cond.fieldLink RX9 132 "EarlyValuesModel" "undoMany" "I") (List.mem_of_getElem? (i := 1) (by decide +kernel))) rfl rfl dX9_undo_28 ?_
    refine lv_imul hx hb dX9_undo_31 ?_
    refine lv_topi (fun y4 ey4 => ?_)
    have ty4 : y4.toInt = (((109 * ((sU st0) - 1)) : Nat) : Int) := i_mulN ey4 (by decide : (109 : Int32).toInt = ((109 : Nat) : Int)) ty2 (by omega)
    refine r_callV w (va_runV (As := [.ref (g.2.2.1 (r + 9)), .int y4]) (rest := []) ⟨hx, hb, hml, hown, hts⟩ (c_X9_takes_gh l D y4 ty4 (by omega)) (cwV 2 hts gX9_undo_X9_takes rfl rfl rfl (by decide +kernel) ⟨Nat.le_of_ble_eq_true rfl, Nat.le_of_ble_eq_true rfl⟩) (r_preV w (by have := D.1; omega) D.c0 rfl) rfl rfl hl.1 rfl (lv_room (Nat.le_of_ble_eq_true rfl)) dX9_undo_32 ⟨Nat.zero_le _, Nat.zero_le _⟩) (fun h5 H locs hp w => ?_)
    obtain ⟨hfk6, nmk6, gak6, gkk6, glk6, gBk6, D, snk6⟩ := hp
    have hfr : ∀ k_, ¬ (r ≤ k_ ∧ k_ < r + 14) → h5 k_ = h k_ := fun k_ hk_ => (hfk6 k_ (by omega)).trans (hfr k_ hk_)
    refine lv_aload_n hx hb dX9_undo_35 rfl (lv_at hl 0 rfl) ?_
    refine r_get (C := RX9) (T := TX9) (N := 20) (ci := 7) hx hb hts inX9_undo_X9 hown w (by have := D.1; omega) D.c0 rfl 11 (by decide) (hts (Cond.fieldLink RX9 132 "EarlyValuesModel" "undoMany" "I") (List.mem_of_getElem? (i := 1) (by decide +kernel))) rfl rfl dX9_undo_36 ?_
    refine r_iret (v := y2) hx hb hr hlocks w dX9_undo_39 ?_
    have hPu_ := hUP (sU st0 - 1) (by omega)
    exact ⟨hfr, (sUs st0 (sU st0 - 1), (sU st0 - 1, sUs st0), st0.2.2), ⟨_, _, _, _, _, _, _, _, _, _, _, _, _, _, _, _, _, _, _, _, D, ⟨hPu_, by show sU st0 - 1 ≤ 8; omega, fun i_ hi_ => hUP i_ (by have hi2_ : i_ < sU st0 - 1 := hi_; omega), hv2, hVP, hl200, hlt⟩, ((hUs (sU st0 - 1) (by omega)).rs snk6 hPu_), (Or.inl rfl), ty2, (fun i_ hi_ => hUs i_ (by have hi2_ : i_ < sU st0 - 1 := hi_; omega)), hsv, hVs, hsz, hgx⟩, Or.inr ⟨by omega, ty2, rfl⟩⟩
  · have c1 : (((sU st0) : Nat) : Int) = (0 : Int) := (i_eq hum (rfl : (0 : Int32).toInt = 0)).mp c1
    refine lv_bipush (v := (-2)) hx hb dX9_undo_7 (by decide) ?_
    refine r_iret (v := (-2)) hx hb hr hlocks w dX9_undo_9 ?_
    exact ⟨hfr, st0, ⟨_, _, _, _, _, _, _, _, _, _, _, _, _, _, _, _, _, _, _, _, D, hSV0, S, hkn, hum, hUs, hsv, hVs, hsz, hgx⟩, Or.inl ⟨by omega, rfl, rfl⟩⟩

theorem inX9_keep_X9 : ∀ w ∈ wsX90, w ∈ wsX9_keep := by decide +kernel
abbrev rm_X9_keep : Room := { frames := 1, cells := 0, slots := 0, locals := 23 }
set_option maxHeartbeats 4000000 in
set_option maxRecDepth 100000 in
theorem c_X9_keep (l : Launch) {g : GE} {h : Nat → va_E} {r : Nat} {st0 : ST} (R : RefA g h r st0) : MI l yX9_keep wsX9_keep rm_X9_keep [.ref (g.2.2.1 r)] g h (fun r_ h2 => (∀ k, ¬ (r ≤ k ∧ k < r + 14) → h2 k = h k) ∧ ∃ s2 : ST, RefA g h2 r s2 ∧ AnKeep st0 r_ s2) := by
  refine Met.ofW (cc := cX9_keep) (maxL := 1) (ret := (some .int)) (by decide) rfl ?_
  intro p e s m args below meth c s₁ B hml hv
  obtain ⟨rfl, w0⟩ := hv
  have hx := B.exec
  have hb := B.bytes
  have hr := B.returns
  have hts := atoms_spec (ws := wsX9_keep) B.pre
  have hown : s.vm.findClass RX9 = some m.cls := findClass_of_methodNamed B.named
  have hlocks := B.notSynchronized
  have w := w0.start
  clear w0
  have hl := lv_entry ([.ref (g.2.2.1 r)]) (n := 1) (Nat.le_of_ble_eq_true rfl)
  rw [lg_entry_eq]
  generalize (lg_sl ([.ref (g.2.2.1 r)]) ++ List.replicate (1 - (lg_sl ([.ref (g.2.2.1 r)])).length) Slot.unset).toArray = ls at hl ⊢
  have hl : lv_has ls 1 [(0, .ref (g.2.2.1 r))] := hl
  obtain ⟨nm, kn, um, sv, sz, ra, rm, ga, gk, gl, gB, gt, gn, gr, gp, gh, gv, gs, gx, gf, D, hRS⟩ := R
  obtain ⟨hSV, S, hkn, hum, hUs, hsv, hVs, hsz, hgx⟩ := hRS
  have hSV0 := hSV
  obtain ⟨hP, hu8, hUP, hv2, hVP, hl200, hlt⟩ := hSV
  have hn4 := hP.2.1
  have hfr : ∀ k_, ¬ (r ≤ k_ ∧ k_ < r + 14) → h k_ = h k_ := fun _ _ => rfl
  refine lv_aload_n hx hb dX9_keep_0 rfl (lv_at hl 0 rfl) ?_
  refine r_get (C := RX9) (T := TX9) (N := 20) (ci := 7) hx hb hts inX9_keep_X9 hown w (by have := D.1; omega) D.c0 rfl 13 (by decide) (hts (Cond.fieldLink RX9 148 "EarlyValuesModel" "savedMany" "I") (List.mem_of_getElem? (i := 1) (by decide +kernel))) rfl rfl dX9_keep_1 ?_
  refine lv_iconst (v := 2) hx hb dX9_keep_4 (by decide) ?_
  refine lv_icmp_ne (tgt := 11) hx hb dX9_keep_5 (by decide) (fun c1 => ?_) (fun c1 => ?_)
  · have c1 : ¬ ((((sV st0) : Nat) : Int) = ((2 : Nat) : Int)) := fun q => c1 ((i_eq hsv (by decide : (2 : Int32).toInt = ((2 : Nat) : Int))).mpr q)
    refine lv_aload_n hx hb dX9_keep_11 rfl (lv_at hl 0 rfl) ?_
    refine lv_aload_n hx hb dX9_keep_12 rfl (lv_at hl 0 rfl) ?_
    refine r_get (C := RX9) (T := TX9) (N := 20) (ci := 7) hx hb hts inX9_keep_X9 hown w (by have := D.1; omega) D.c0 rfl 12 (by decide) (hts (Cond.fieldLink RX9 37 "EarlyValuesModel" "saved" "[I") (List.mem_of_getElem? (i := 2) (by decide +kernel))) rfl rfl dX9_keep_13 ?_
    refine lv_bipush (v := 109) hx hb dX9_keep_16 (by decide) ?_
    refine lv_aload_n hx hb dX9_keep_18 rfl (lv_at hl 0 rfl) ?_
    refine r_get (C := RX9) (T := TX9) (N := 20) (ci := 7) hx hb hts inX9_keep_X9 hown w (by have := D.1; omega) D.c0 rfl 13 (by decide) (hts (Cond.fieldLink RX9 148 "EarlyValuesModel" "savedMany" "I") (List.mem_of_getElem? (i := 1) (by decide +kernel))) rfl rfl dX9_keep_19 ?_
    refine lv_imul hx hb dX9_keep_22 ?_
    refine lv_topi (fun y2 ey2 => ?_)
    have ty2 : y2.toInt = (((109 * (sV st0)) : Nat) : Int) := i_mulN ey2 (by decide : (109 : Int32).toInt = ((109 : Nat) : Int)) hsv (by omega)
    refine r_callV w (va_runV (As := [.ref (g.2.2.1 (r + 10)), .int y2]) (rest := []) ⟨hx, hb, hml, hown, hts⟩ (c_X9_lays_gv l D y2 ty2 (by omega)) (cwV 2 hts gX9_keep_X9_lays rfl rfl rfl (by decide +kernel) ⟨Nat.le_of_ble_eq_true rfl, Nat.le_of_ble_eq_true rfl⟩) (r_preV w (by have := D.1; omega) D.c0 rfl) rfl rfl hl.1 rfl (lv_room (Nat.le_of_ble_eq_true rfl)) dX9_keep_23 ⟨Nat.zero_le _, Nat.zero_le _⟩) (fun h3 H locs hp w => ?_)
    obtain ⟨hfk4, gzk4, D, snk4, sok4⟩ := hp
    have hfr : ∀ k_, ¬ (r ≤ k_ ∧ k_ < r + 14) → h3 k_ = h k_ := fun k_ hk_ => (hfk4 k_ (by omega))
    refine lv_aload_n hx hb dX9_keep_26 rfl (lv_at hl 0 rfl) ?_
    refine lv_dup hx hb dX9_keep_27 rfl ?_
    refine r_get (C := RX9) (T := TX9) (N := 20) (ci := 7) hx hb hts inX9_keep_X9 hown w (by have := D.1; omega) D.c0 rfl 13 (by decide) (hts (Cond.fieldLink RX9 148 "EarlyValuesModel" "savedMany" "I") (List.mem_of_getElem? (i := 1) (by decide +kernel))) rfl rfl dX9_keep_28 ?_
    refine lv_iconst (v := 1) hx hb dX9_keep_31 (by decide) ?_
    refine lv_iadd hx hb dX9_keep_32 ?_
    refine lv_topi (fun y5 ey5 => ?_)
    have ty5 : y5.toInt = ((((sV st0) + 1) : Nat) : Int) := i_addN ey5 hsv (by decide : (1 : Int32).toInt = ((1 : Nat) : Int)) (by omega)
    refine r_put (ty := .int) (C := RX9) (T := TX9) (N := 20) (ci := 7) hx hb hts inX9_keep_X9 tyX9 tyX9_ok nmX9 hown w (by have := D.1; omega) D.c0 rfl 13 (by decide) (hts (Cond.fieldLink RX9 148 "EarlyValuesModel" "savedMany" "I") (List.mem_of_getElem? (i := 1) (by decide +kernel))) rfl rfl (by decide +kernel) rfl rfl (Nat.le_of_ble_eq_true rfl) dX9_keep_33 (fun h6 H locs eh6 w => ?_)
    have D := D.s0 eh6
    have hfr : ∀ k_, ¬ (r ≤ k_ ∧ k_ < r + 14) → h6 k_ = h k_ := fun k_ hk_ => by rw [eh6, va_up_ne _ _ (by omega)]; exact hfr k_ hk_
    refine lv_aload_n hx hb dX9_keep_36 rfl (lv_at hl 0 rfl) ?_
    refine r_get (C := RX9) (T := TX9) (N := 20) (ci := 7) hx hb hts inX9_keep_X9 hown w (by have := D.1; omega) D.c0 rfl 13 (by decide) (hts (Cond.fieldLink RX9 148 "EarlyValuesModel" "savedMany" "I") (List.mem_of_getElem? (i := 1) (by decide +kernel))) rfl rfl dX9_keep_37 ?_
    refine r_iret (v := y5) hx hb hr hlocks w dX9_keep_40 ?_
    refine ⟨hfr, (st0.1, st0.2.1, (sV st0 + 1, fun i => if i = sV st0 then sM st0 else sVs st0 i), st0.2.2.2), ⟨_, _, _, _, _, _, _, _, _, _, _, _, _, _, _, _, _, _, _, _, D, ⟨hP, hu8, hUP, by show sV st0 + 1 ≤ 2; omega, ?_, hl200, hlt⟩, S, hkn, hum, hUs, ty5, ?_, hsz, hgx⟩, Or.inr ⟨by omega, ty5, rfl⟩⟩
    · intro i_ hi_
      have hi2_ : i_ < sV st0 + 1 := hi_
      show PV (if i_ = sV st0 then sM st0 else sVs st0 i_)
      split
      · exact hP
      · exact hVP i_ (by omega)
    · intro i_ hi_
      have hi2_ : i_ < sV st0 + 1 := hi_
      show SN (if i_ = sV st0 then sM st0 else sVs st0 i_) _ (109 * i_)
      split
      · rename_i q_; rw [q_]; exact snk4.sn hP S
      · exact (hVs i_ (by omega)).fr (hVP i_ (by omega)) (fun q_ _ h2_ => sok4 q_ (by omega))
  · have c1 : (((sV st0) : Nat) : Int) = ((2 : Nat) : Int) := (i_eq hsv (by decide : (2 : Int32).toInt = ((2 : Nat) : Int))).mp c1
    refine lv_bipush (v := (-3)) hx hb dX9_keep_8 (by decide) ?_
    refine r_iret (v := (-3)) hx hb hr hlocks w dX9_keep_10 ?_
    exact ⟨hfr, st0, ⟨_, _, _, _, _, _, _, _, _, _, _, _, _, _, _, _, _, _, _, _, D, hSV0, S, hkn, hum, hUs, hsv, hVs, hsz, hgx⟩, Or.inl ⟨by omega, rfl, rfl⟩⟩

theorem inX9_back_X9 : ∀ w ∈ wsX90, w ∈ wsX9_back := by decide +kernel
abbrev rm_X9_back : Room := { frames := 1, cells := 0, slots := 0, locals := 23 }
set_option maxHeartbeats 4000000 in
set_option maxRecDepth 100000 in
theorem c_X9_back (l : Launch) {g : GE} {h : Nat → va_E} {r : Nat} {st0 : ST} (R : RefA g h r st0) : MI l yX9_back wsX9_back rm_X9_back [.ref (g.2.2.1 r)] g h (fun r_ h2 => (∀ k, ¬ (r ≤ k ∧ k < r + 14) → h2 k = h k) ∧ ∃ s2 : ST, RefA g h2 r s2 ∧ AnBack st0 r_ s2) := by
  refine Met.ofW (cc := cX9_back) (maxL := 1) (ret := (some .int)) (by decide) rfl ?_
  intro p e s m args below meth c s₁ B hml hv
  obtain ⟨rfl, w0⟩ := hv
  have hx := B.exec
  have hb := B.bytes
  have hr := B.returns
  have hts := atoms_spec (ws := wsX9_back) B.pre
  have hown : s.vm.findClass RX9 = some m.cls := findClass_of_methodNamed B.named
  have hlocks := B.notSynchronized
  have w := w0.start
  clear w0
  have hl := lv_entry ([.ref (g.2.2.1 r)]) (n := 1) (Nat.le_of_ble_eq_true rfl)
  rw [lg_entry_eq]
  generalize (lg_sl ([.ref (g.2.2.1 r)]) ++ List.replicate (1 - (lg_sl ([.ref (g.2.2.1 r)])).length) Slot.unset).toArray = ls at hl ⊢
  have hl : lv_has ls 1 [(0, .ref (g.2.2.1 r))] := hl
  obtain ⟨nm, kn, um, sv, sz, ra, rm, ga, gk, gl, gB, gt, gn, gr, gp, gh, gv, gs, gx, gf, D, hRS⟩ := R
  obtain ⟨hSV, S, hkn, hum, hUs, hsv, hVs, hsz, hgx⟩ := hRS
  have hSV0 := hSV
  obtain ⟨hP, hu8, hUP, hv2, hVP, hl200, hlt⟩ := hSV
  have hn4 := hP.2.1
  have hfr : ∀ k_, ¬ (r ≤ k_ ∧ k_ < r + 14) → h k_ = h k_ := fun _ _ => rfl
  refine lv_aload_n hx hb dX9_back_0 rfl (lv_at hl 0 rfl) ?_
  refine r_get (C := RX9) (T := TX9) (N := 20) (ci := 7) hx hb hts inX9_back_X9 hown w (by have := D.1; omega) D.c0 rfl 13 (by decide) (hts (Cond.fieldLink RX9 148 "EarlyValuesModel" "savedMany" "I") (List.mem_of_getElem? (i := 1) (by decide +kernel))) rfl rfl dX9_back_1 ?_
  refine lv_if_ne (tgt := 10) hx hb dX9_back_4 (by decide) (fun c1 => ?_) (fun c1 => ?_)
  · have c1 : ¬ ((((sV st0) : Nat) : Int) = (0 : Int)) := fun q => c1 ((i_eq hsv (rfl : (0 : Int32).toInt = 0)).mpr q)
    refine lv_aload_n hx hb dX9_back_10 rfl (lv_at hl 0 rfl) ?_
    refine lv_dup hx hb dX9_back_11 rfl ?_
    refine r_get (C := RX9) (T := TX9) (N := 20) (ci := 7) hx hb hts inX9_back_X9 hown w (by have := D.1; omega) D.c0 rfl 13 (by decide) (hts (Cond.fieldLink RX9 148 "EarlyValuesModel" "savedMany" "I") (List.mem_of_getElem? (i := 1) (by decide +kernel))) rfl rfl dX9_back_12 ?_
    refine lv_iconst (v := 1) hx hb dX9_back_15 (by decide) ?_
    refine lv_isub hx hb dX9_back_16 ?_
    refine lv_topi (fun y2 ey2 => ?_)
    have ty2 : y2.toInt = ((((sV st0) - 1) : Nat) : Int) := i_subN ey2 hsv (by decide : (1 : Int32).toInt = ((1 : Nat) : Int)) (by omega)
    refine r_put (ty := .int) (C := RX9) (T := TX9) (N := 20) (ci := 7) hx hb hts inX9_back_X9 tyX9 tyX9_ok nmX9 hown w (by have := D.1; omega) D.c0 rfl 13 (by decide) (hts (Cond.fieldLink RX9 148 "EarlyValuesModel" "savedMany" "I") (List.mem_of_getElem? (i := 1) (by decide +kernel))) rfl rfl (by decide +kernel) rfl rfl (Nat.le_of_ble_eq_true rfl) dX9_back_17 (fun h3 H locs eh3 w => ?_)
    have D := D.s0 eh3
    have hfr : ∀ k_, ¬ (r ≤ k_ ∧ k_ < r + 14) → h3 k_ = h k_ := fun k_ hk_ => by rw [eh3, va_up_ne _ _ (by omega)]
    refine lv_aload_n hx hb dX9_back_20 rfl (lv_at hl 0 rfl) ?_
    refine lv_aload_n hx hb dX9_back_21 rfl (lv_at hl 0 rfl) ?_
    refine r_get (C := RX9) (T := TX9) (N := 20) (ci := 7) hx hb hts inX9_back_X9 hown w (by have := D.1; omega) D.c0 rfl 12 (by decide) (hts (Cond.fieldLink RX9 37 "EarlyValuesModel" "saved" "[I") (List.mem_of_getElem? (i := 2) (by decide +kernel))) rfl rfl dX9_back_22 ?_
    refine lv_bipush (v := 109) hx hb dX9_back_25 (by decide) ?_
    refine lv_aload_n hx hb dX9_back_27 rfl (lv_at hl 0 rfl) ?_
    refine r_get (C := RX9) (T := TX9) (N := 20) (ci := 7) hx hb hts inX9_back_X9 hown w (by have := D.1; omega) D.c0 rfl 13 (by decide) (hts (Cond.fieldLink RX9 148 "EarlyValuesModel" "savedMany" "I") (List.mem_of_getElem? (i := 1) (by decide +kernel))) rfl rfl dX9_back_28 ?_
    refine lv_imul hx hb dX9_back_31 ?_
    refine lv_topi (fun y4 ey4 => ?_)
    have ty4 : y4.toInt = (((109 * ((sV st0) - 1)) : Nat) : Int) := i_mulN ey4 (by decide : (109 : Int32).toInt = ((109 : Nat) : Int)) ty2 (by omega)
    refine r_callV w (va_runV (As := [.ref (g.2.2.1 (r + 10)), .int y4]) (rest := []) ⟨hx, hb, hml, hown, hts⟩ (c_X9_takes_gv l D y4 ty4 (by omega)) (cwV 2 hts gX9_back_X9_takes rfl rfl rfl (by decide +kernel) ⟨Nat.le_of_ble_eq_true rfl, Nat.le_of_ble_eq_true rfl⟩) (r_preV w (by have := D.1; omega) D.c0 rfl) rfl rfl hl.1 rfl (lv_room (Nat.le_of_ble_eq_true rfl)) dX9_back_32 ⟨Nat.zero_le _, Nat.zero_le _⟩) (fun h5 H locs hp w => ?_)
    obtain ⟨hfk6, nmk6, gak6, gkk6, glk6, gBk6, D, snk6⟩ := hp
    have hfr : ∀ k_, ¬ (r ≤ k_ ∧ k_ < r + 14) → h5 k_ = h k_ := fun k_ hk_ => (hfk6 k_ (by omega)).trans (hfr k_ hk_)
    refine lv_aload_n hx hb dX9_back_35 rfl (lv_at hl 0 rfl) ?_
    refine lv_iconst (v := 0) hx hb dX9_back_36 (by decide) ?_
    refine r_put (ty := .int) (C := RX9) (T := TX9) (N := 20) (ci := 7) hx hb hts inX9_back_X9 tyX9 tyX9_ok nmX9 hown w (by have := D.1; omega) D.c0 rfl 11 (by decide) (hts (Cond.fieldLink RX9 132 "EarlyValuesModel" "undoMany" "I") (List.mem_of_getElem? (i := 3) (by decide +kernel))) rfl rfl (by decide +kernel) rfl rfl (Nat.le_of_ble_eq_true rfl) dX9_back_37 (fun h7 H locs eh7 w => ?_)
    have D := D.s0 eh7
    have hfr : ∀ k_, ¬ (r ≤ k_ ∧ k_ < r + 14) → h7 k_ = h k_ := fun k_ hk_ => by rw [eh7, va_up_ne _ _ (by omega)]; exact hfr k_ hk_
    refine lv_aload_n hx hb dX9_back_40 rfl (lv_at hl 0 rfl) ?_
    refine r_get (C := RX9) (T := TX9) (N := 20) (ci := 7) hx hb hts inX9_back_X9 hown w (by have := D.1; omega) D.c0 rfl 13 (by decide) (hts (Cond.fieldLink RX9 148 "EarlyValuesModel" "savedMany" "I") (List.mem_of_getElem? (i := 1) (by decide +kernel))) rfl rfl dX9_back_41 ?_
    refine r_iret (v := y2) hx hb hr hlocks w dX9_back_44 ?_
    have hPu_ := hVP (sV st0 - 1) (by omega)
    exact ⟨hfr, (sVs st0 (sV st0 - 1), (0, sUs st0), (sV st0 - 1, sVs st0), st0.2.2.2), ⟨_, _, _, _, _, _, _, _, _, _, _, _, _, _, _, _, _, _, _, _, D, ⟨hPu_, by show 0 ≤ 8; omega, fun i_ hi_ => absurd hi_ (Nat.not_lt_zero _), by show sV st0 - 1 ≤ 2; omega, fun i_ hi_ => hVP i_ (by have hi2_ : i_ < sV st0 - 1 := hi_; omega), hl200, hlt⟩, ((hVs (sV st0 - 1) (by omega)).rs snk6 hPu_), (Or.inl rfl), rfl, (fun i_ hi_ => absurd hi_ (Nat.not_lt_zero _)), ty2, (fun i_ hi_ => hVs i_ (by have hi2_ : i_ < sV st0 - 1 := hi_; omega)), hsz, hgx⟩, Or.inr ⟨by omega, ty2, rfl⟩⟩
  · have c1 : (((sV st0) : Nat) : Int) = (0 : Int) := (i_eq hsv (rfl : (0 : Int32).toInt = 0)).mp c1
    refine lv_bipush (v := (-2)) hx hb dX9_back_7 (by decide) ?_
    refine r_iret (v := (-2)) hx hb hr hlocks w dX9_back_9 ?_
    exact ⟨hfr, st0, ⟨_, _, _, _, _, _, _, _, _, _, _, _, _, _, _, _, _, _, _, _, D, hSV0, S, hkn, hum, hUs, hsv, hVs, hsz, hgx⟩, Or.inl ⟨by omega, rfl, rfl⟩⟩

theorem inX9_write_X9 : ∀ w ∈ wsX90, w ∈ wsX9_write := by decide +kernel
abbrev rm_X9_write : Room := { frames := 1, cells := 0, slots := 0, locals := 22 }
set_option maxHeartbeats 4000000 in
set_option maxRecDepth 100000 in
theorem c_X9_write (l : Launch) {g : GE} {h : Nat → va_E} {r : Nat} {st0 : ST} (R : RefA g h r st0) (p0 : Int32) : MI l yX9_write wsX9_write rm_X9_write [.ref (g.2.2.1 r), .int p0] g h (fun r_ h2 => (∀ k, ¬ (r ≤ k ∧ k < r + 14) → h2 k = h k) ∧ ∃ s2 : ST, RefA g h2 r s2 ∧ AnWrite st0 p0 r_ s2) := by
  refine Met.ofW (cc := cX9_write) (maxL := 2) (ret := (some .int)) (by decide) rfl ?_
  intro p e s m args below meth c s₁ B hml hv
  obtain ⟨rfl, w0⟩ := hv
  have hx := B.exec
  have hb := B.bytes
  have hr := B.returns
  have hts := atoms_spec (ws := wsX9_write) B.pre
  have hown : s.vm.findClass RX9 = some m.cls := findClass_of_methodNamed B.named
  have hlocks := B.notSynchronized
  have w := w0.start
  clear w0
  have hl := lv_entry ([.ref (g.2.2.1 r), .int p0]) (n := 2) (Nat.le_of_ble_eq_true rfl)
  rw [lg_entry_eq]
  generalize (lg_sl ([.ref (g.2.2.1 r), .int p0]) ++ List.replicate (2 - (lg_sl ([.ref (g.2.2.1 r), .int p0])).length) Slot.unset).toArray = ls at hl ⊢
  have hl : lv_has ls 2 [(0, .ref (g.2.2.1 r)), (1, .int p0)] := hl
  obtain ⟨nm, kn, um, sv, sz, ra, rm, ga, gk, gl, gB, gt, gn, gr, gp, gh, gv, gs, gx, gf, D, hRS⟩ := R
  obtain ⟨hSV, S, hkn, hum, hUs, hsv, hVs, hsz, hgx⟩ := hRS
  have hSV0 := hSV
  obtain ⟨hP, hu8, hUP, hv2, hVP, hl200, hlt⟩ := hSV
  have hn4 := hP.2.1
  have hfr : ∀ k_, ¬ (r ≤ k_ ∧ k_ < r + 14) → h k_ = h k_ := fun _ _ => rfl
  refine lv_iload_n hx hb dX9_write_0 rfl (lv_at hl 1 rfl) ?_
  refine lv_bipush (v := 32) hx hb dX9_write_1 (by decide) ?_
  refine lv_bipush (v := 126) hx hb dX9_write_3 (by decide) ?_
  refine r_callI w (va_runS (As := [.int p0, .int 32, .int 126]) (rest := []) ⟨hx, hb, hml, hown, hts⟩ (c_X9_in l p0 32 126) (va_cwS 3 hts gX9_write_X9_in rfl rfl rfl (by decide +kernel) ⟨Nat.le_of_ble_eq_true rfl, Nat.le_of_ble_eq_true rfl⟩) (r_preS w) rfl rfl hl.1 rfl (lv_room (Nat.le_of_ble_eq_true rfl)) dX9_write_5 ⟨Nat.zero_le _, Nat.zero_le _⟩) (fun r2 h1 H locs hp w => ?_)
  obtain ⟨eh_, qq3⟩ := hp
  have eh_ := eh_.symm
  subst eh_
  have b4 : Bq r2 (((32 : Nat) : Int) ≤ p0.toInt ∧ p0.toInt ≤ ((126 : Nat) : Int)) := qq3.iff (by rw [((rfl : p0.toInt = p0.toInt) : (p0 : Int32).toInt = _), ((by decide : (32 : Int32).toInt = ((32 : Nat) : Int)) : (32 : Int32).toInt = _), ((by decide : (126 : Int32).toInt = ((126 : Nat) : Int)) : (126 : Int32).toInt = _)])
  refine lv_if_ne (tgt := 13) hx hb dX9_write_8 (by decide) (fun c5 => ?_) (fun c5 => ?_)
  · have c5 := b4.ne c5
    refine lv_aload_n hx hb dX9_write_13 rfl (lv_at hl 0 rfl) ?_
    refine r_get (C := RX9) (T := TX9) (N := 20) (ci := 7) hx hb hts inX9_write_X9 hown w (by have := D.1; omega) D.c0 rfl 16 (by decide) (hts (Cond.fieldLink RX9 201 "EarlyValuesModel" "size" "I") (List.mem_of_getElem? (i := 1) (by decide +kernel))) rfl rfl dX9_write_14 ?_
    refine lv_sipush (v := 200) hx hb dX9_write_17 (by decide) ?_
    refine lv_icmp_ne (tgt := 26) hx hb dX9_write_20 (by decide) (fun c6 => ?_) (fun c6 => ?_)
    · have c6 : ¬ ((((sL st0) : Nat) : Int) = ((200 : Nat) : Int)) := fun q => c6 ((i_eq hsz (by decide : (200 : Int32).toInt = ((200 : Nat) : Int))).mpr q)
      refine lv_aload_n hx hb dX9_write_26 rfl (lv_at hl 0 rfl) ?_
      refine r_get (C := RX9) (T := TX9) (N := 20) (ci := 7) hx hb hts inX9_write_X9 hown w (by have := D.1; omega) D.c0 rfl 15 (by decide) (hts (Cond.fieldLink RX9 43 "EarlyValuesModel" "text" "[I") (List.mem_of_getElem? (i := 2) (by decide +kernel))) rfl rfl dX9_write_27 ?_
      refine lv_aload_n hx hb dX9_write_30 rfl (lv_at hl 0 rfl) ?_
      refine r_get (C := RX9) (T := TX9) (N := 20) (ci := 7) hx hb hts inX9_write_X9 hown w (by have := D.1; omega) D.c0 rfl 16 (by decide) (hts (Cond.fieldLink RX9 201 "EarlyValuesModel" "size" "I") (List.mem_of_getElem? (i := 1) (by decide +kernel))) rfl rfl dX9_write_31 ?_
      refine lv_iload_n hx hb dX9_write_34 rfl (lv_at hl 1 rfl) ?_
      refine r_iast (j := (sL st0)) hx hb w (by have := D.1; omega) D.c12 hsz (by omega) dX9_write_35 (fun h7 H locs eh7 w => ?_)
      have D := D.s12 eh7
      generalize egz8 : upd gx ((sL st0)) p0 = gz8 at D
      have hfr : ∀ k_, ¬ (r ≤ k_ ∧ k_ < r + 14) → h7 k_ = h k_ := fun k_ hk_ => by rw [eh7, va_up_ne _ _ (by omega)]
      refine lv_aload_n hx hb dX9_write_36 rfl (lv_at hl 0 rfl) ?_
      refine lv_dup hx hb dX9_write_37 rfl ?_
      refine r_get (C := RX9) (T := TX9) (N := 20) (ci := 7) hx hb hts inX9_write_X9 hown w (by have := D.1; omega) D.c0 rfl 16 (by decide) (hts (Cond.fieldLink RX9 201 "EarlyValuesModel" "size" "I") (List.mem_of_getElem? (i := 1) (by decide +kernel))) rfl rfl dX9_write_38 ?_
      refine lv_iconst (v := 1) hx hb dX9_write_41 (by decide) ?_
      refine lv_iadd hx hb dX9_write_42 ?_
      refine lv_topi (fun y9 ey9 => ?_)
      have ty9 : y9.toInt = ((((sL st0) + 1) : Nat) : Int) := i_addN ey9 hsz (by decide : (1 : Int32).toInt = ((1 : Nat) : Int)) (by omega)
      refine r_put (ty := .int) (C := RX9) (T := TX9) (N := 20) (ci := 7) hx hb hts inX9_write_X9 tyX9 tyX9_ok nmX9 hown w (by have := D.1; omega) D.c0 rfl 16 (by decide) (hts (Cond.fieldLink RX9 201 "EarlyValuesModel" "size" "I") (List.mem_of_getElem? (i := 1) (by decide +kernel))) rfl rfl (by decide +kernel) rfl rfl (Nat.le_of_ble_eq_true rfl) dX9_write_43 (fun h10 H locs eh10 w => ?_)
      have D := D.s0 eh10
      have hfr : ∀ k_, ¬ (r ≤ k_ ∧ k_ < r + 14) → h10 k_ = h k_ := fun k_ hk_ => by rw [eh10, va_up_ne _ _ (by omega)]; exact hfr k_ hk_
      refine lv_aload_n hx hb dX9_write_46 rfl (lv_at hl 0 rfl) ?_
      refine r_get (C := RX9) (T := TX9) (N := 20) (ci := 7) hx hb hts inX9_write_X9 hown w (by have := D.1; omega) D.c0 rfl 16 (by decide) (hts (Cond.fieldLink RX9 201 "EarlyValuesModel" "size" "I") (List.mem_of_getElem? (i := 1) (by decide +kernel))) rfl rfl dX9_write_47 ?_
      refine r_iret (v := y9) hx hb hr hlocks w dX9_write_50 ?_
      refine ⟨hfr, (st0.1, st0.2.1, st0.2.2.1, (sL st0 + 1, fun i => if i = sL st0 then p0.toInt.toNat else sT st0 i)), ⟨_, _, _, _, _, _, _, _, _, _, _, _, _, _, _, _, _, _, _, _, D, ⟨hP, hu8, hUP, hv2, hVP, by show sL st0 + 1 ≤ 200; omega, ?_⟩, S, hkn, hum, hUs, hsv, hVs, ty9, (tx_up hgx (by omega) egz8)⟩, Or.inr (Or.inr ⟨by omega, by omega, ty9, rfl⟩)⟩
      intro i_ hi_
      have hi2_ : i_ < sL st0 + 1 := hi_
      show 32 ≤ (if i_ = sL st0 then p0.toInt.toNat else sT st0 i_) ∧ (if i_ = sL st0 then p0.toInt.toNat else sT st0 i_) ≤ 126
      split
      · omega
      · exact hlt i_ (by omega)
    · have c6 : (((sL st0) : Nat) : Int) = ((200 : Nat) : Int) := (i_eq hsz (by decide : (200 : Int32).toInt = ((200 : Nat) : Int))).mp c6
      refine lv_bipush (v := (-3)) hx hb dX9_write_23 (by decide) ?_
      refine r_iret (v := (-3)) hx hb hr hlocks w dX9_write_25 ?_
      exact ⟨hfr, st0, ⟨_, _, _, _, _, _, _, _, _, _, _, _, _, _, _, _, _, _, _, _, D, hSV0, S, hkn, hum, hUs, hsv, hVs, hsz, hgx⟩, Or.inr (Or.inl ⟨by omega, by omega, rfl, rfl⟩)⟩
  · have c5 := b4.eq c5
    refine lv_iconst (v := (-1)) hx hb dX9_write_11 (by decide) ?_
    refine r_iret (v := (-1)) hx hb hr hlocks w dX9_write_12 ?_
    exact ⟨hfr, st0, ⟨_, _, _, _, _, _, _, _, _, _, _, _, _, _, _, _, _, _, _, _, D, hSV0, S, hkn, hum, hUs, hsv, hVs, hsz, hgx⟩, Or.inl ⟨by omega, rfl, rfl⟩⟩

theorem inX9_wipe_X9 : ∀ w ∈ wsX90, w ∈ wsX9_wipe := by decide +kernel
abbrev rm_X9_wipe : Room := { frames := 0, cells := 0, slots := 0, locals := 0 }
set_option maxHeartbeats 4000000 in
set_option maxRecDepth 100000 in
theorem c_X9_wipe (l : Launch) {g : GE} {h : Nat → va_E} {r : Nat} {st0 : ST} (R : RefA g h r st0) : MI l yX9_wipe wsX9_wipe rm_X9_wipe [.ref (g.2.2.1 r)] g h (fun r_ h2 => (∀ k, ¬ (r ≤ k ∧ k < r + 14) → h2 k = h k) ∧ ∃ s2 : ST, RefA g h2 r s2 ∧ AnWipe st0 r_ s2) := by
  refine Met.ofW (cc := cX9_wipe) (maxL := 2) (ret := (some .int)) (by decide) rfl ?_
  intro p e s m args below meth c s₁ B hml hv
  obtain ⟨rfl, w0⟩ := hv
  have hx := B.exec
  have hb := B.bytes
  have hr := B.returns
  have hts := atoms_spec (ws := wsX9_wipe) B.pre
  have hown : s.vm.findClass RX9 = some m.cls := findClass_of_methodNamed B.named
  have hlocks := B.notSynchronized
  have w := w0.start
  clear w0
  have hl := lv_entry ([.ref (g.2.2.1 r)]) (n := 2) (Nat.le_of_ble_eq_true rfl)
  rw [lg_entry_eq]
  generalize (lg_sl ([.ref (g.2.2.1 r)]) ++ List.replicate (2 - (lg_sl ([.ref (g.2.2.1 r)])).length) Slot.unset).toArray = ls at hl ⊢
  have hl : lv_has ls 2 [(0, .ref (g.2.2.1 r))] := hl
  obtain ⟨nm, kn, um, sv, sz, ra, rm, ga, gk, gl, gB, gt, gn, gr, gp, gh, gv, gs, gx, gf, D, hRS⟩ := R
  obtain ⟨hSV, S, hkn, hum, hUs, hsv, hVs, hsz, hgx⟩ := hRS
  have hSV0 := hSV
  obtain ⟨hP, hu8, hUP, hv2, hVP, hl200, hlt⟩ := hSV
  have hn4 := hP.2.1
  have hfr : ∀ k_, ¬ (r ≤ k_ ∧ k_ < r + 14) → h k_ = h k_ := fun _ _ => rfl
  refine lv_aload_n hx hb dX9_wipe_0 rfl (lv_at hl 0 rfl) ?_
  refine r_get (C := RX9) (T := TX9) (N := 20) (ci := 7) hx hb hts inX9_wipe_X9 hown w (by have := D.1; omega) D.c0 rfl 16 (by decide) (hts (Cond.fieldLink RX9 201 "EarlyValuesModel" "size" "I") (List.mem_of_getElem? (i := 1) (by decide +kernel))) rfl rfl dX9_wipe_1 ?_
  refine lv_istore_n (lv' := [(1, .int sz), (0, .ref (g.2.2.1 r))]) hx hb dX9_wipe_4 rfl hl (by decide) rfl (fun ls hl => ?_)
  refine lv_aload_n hx hb dX9_wipe_5 rfl (lv_at hl 1 rfl) ?_
  refine lv_iconst (v := 0) hx hb dX9_wipe_6 (by decide) ?_
  refine r_put (ty := .int) (C := RX9) (T := TX9) (N := 20) (ci := 7) hx hb hts inX9_wipe_X9 tyX9 tyX9_ok nmX9 hown w (by have := D.1; omega) D.c0 rfl 16 (by decide) (hts (Cond.fieldLink RX9 201 "EarlyValuesModel" "size" "I") (List.mem_of_getElem? (i := 1) (by decide +kernel))) rfl rfl (by decide +kernel) rfl rfl (Nat.le_of_ble_eq_true rfl) dX9_wipe_7 (fun h1 H locs eh1 w => ?_)
  have D := D.s0 eh1
  have hfr : ∀ k_, ¬ (r ≤ k_ ∧ k_ < r + 14) → h1 k_ = h k_ := fun k_ hk_ => by rw [eh1, va_up_ne _ _ (by omega)]
  refine lv_iload_n hx hb dX9_wipe_10 rfl (lv_at hl 0 rfl) ?_
  refine r_iret (v := sz) hx hb hr hlocks w dX9_wipe_11 ?_
  exact ⟨hfr, (st0.1, st0.2.1, st0.2.2.1, (0, sT st0)), ⟨_, _, _, _, _, _, _, _, _, _, _, _, _, _, _, _, _, _, _, _, D, ⟨hP, hu8, hUP, hv2, hVP, by show 0 ≤ 200; omega, fun i_ hi_ => absurd hi_ (Nat.not_lt_zero _)⟩, S, hkn, hum, hUs, hsv, hVs, rfl, (fun i_ hi_ => absurd hi_ (Nat.not_lt_zero _))⟩, hsz, rfl⟩

theorem inX9_sumOf_X9 : ∀ w ∈ wsX90, w ∈ wsX9_sumOf := by decide +kernel
abbrev rm_X9_sumOf : Room := { frames := 0, cells := 0, slots := 0, locals := 0 }
set_option maxHeartbeats 4000000 in
set_option maxRecDepth 100000 in
theorem c_X9_sumOf_ga (l : Launch) {g : GE} {h : Nat → va_E} {r : Nat} {nm kn um sv sz ra rm : Int32} {ga gk gl gB gt gn gr gp gh gv gs gx gf : Nat → Int32} (D : MdA g h r nm kn um sv sz ra rm ga gk gl gB gt gn gr gp gh gv gs gx gf) {M : PRG} (S : RS M nm ga gk gl gB) (hP : PV M) : MI l yX9_sumOf wsX9_sumOf rm_X9_sumOf [.ref (g.2.2.1 r), .ref (g.2.2.1 (r + 1))] g h (fun r_ h2 => h2 = h ∧ r_.toInt = ((sm (pA M) (pN M) : Nat) : Int)) := by
  refine Met.ofW (cc := cX9_sumOf) (maxL := 4) (ret := (some .int)) (by decide) rfl ?_
  intro p e s m args below meth c s₁ B hml hv
  obtain ⟨rfl, w0⟩ := hv
  have hx := B.exec
  have hb := B.bytes
  have hr := B.returns
  have hts := atoms_spec (ws := wsX9_sumOf) B.pre
  have hown : s.vm.findClass RX9 = some m.cls := findClass_of_methodNamed B.named
  have hlocks := B.notSynchronized
  have w := w0.start
  clear w0
  have hl := lv_entry ([.ref (g.2.2.1 r), .ref (g.2.2.1 (r + 1))]) (n := 4) (Nat.le_of_ble_eq_true rfl)
  rw [lg_entry_eq]
  generalize (lg_sl ([.ref (g.2.2.1 r), .ref (g.2.2.1 (r + 1))]) ++ List.replicate (4 - (lg_sl ([.ref (g.2.2.1 r), .ref (g.2.2.1 (r + 1))])).length) Slot.unset).toArray = ls at hl ⊢
  have hl : lv_has ls 4 [(0, .ref (g.2.2.1 r)), (1, .ref (g.2.2.1 (r + 1)))] := hl
  have hn4 := hP.2.1
  have cuts : ∀ N : Nat, (∀ (i : Nat) (x2 : Int32) (x3 : Int32) (hc : Nat → va_E) (H : Heap) (locs : List Loc) (ls : Array Slot), WD g (inW g) s hc H locs → lv_has ls 4 [(0, .ref (g.2.2.1 r)), (1, .ref (g.2.2.1 (r + 1))), (2, .int x2), (3, .int x3)] → (i ≤ pN M) → (x2.toInt = ((sm (pA M) i : Nat) : Int)) → (x3.toInt = ((i : Nat) : Int)) → (MdA g hc r nm kn um sv sz ra rm ga gk gl gB gt gn gr gp gh gv gs gx gf) → (hc = h) → pN M - i < N → W p l e (headSpec wsX9_sumOf rm_X9_sumOf).room s m ([.ref (g.2.2.1 r), .ref (g.2.2.1 (r + 1))] : List Value).toArray below meth c H locs 0 0 (MQ below (va_Qi (fun r_ h2 => h2 = h ∧ r_.toInt = ((sm (pA M) (pN M) : Nat) : Int)) (Wd g) (inW g)) ([.ref (g.2.2.1 r), .ref (g.2.2.1 (r + 1))] : List Value).toArray s 0 0 (inW g)) (F0 m 4 ls [])) := by
    intro N
    induction N with
    | zero => exact by intros; omega
    | succ N ih =>
      have ih4 := ih
      · intro i x2 x3 hc H locs ls w hl hi hx2 hx3 D hh hN_
        refine lv_iload_n hx hb dX9_sumOf_4 rfl (lv_at hl 3 rfl) ?_
        refine lv_aload_n hx hb dX9_sumOf_5 rfl (lv_at hl 0 rfl) ?_
        refine r_get (C := RX9) (T := TX9) (N := 20) (ci := 7) hx hb hts inX9_sumOf_X9 hown w (by have := D.1; omega) D.c0 rfl 0 (by decide) (hts (Cond.fieldLink RX9 49 "EarlyValuesModel" "many" "I") (List.mem_of_getElem? (i := 1) (by decide +kernel))) rfl rfl dX9_sumOf_6 ?_
        refine lv_icmp_ge (tgt := 24) hx hb dX9_sumOf_9 (by decide) (fun c1 => ?_) (fun c1 => ?_)
        · have c1 : (((pN M) : Nat) : Int) ≤ ((i : Nat) : Int) := (i_le S.1 hx3).mp c1
          refine lv_iload_n hx hb dX9_sumOf_24 rfl (lv_at hl 2 rfl) ?_
          refine r_iret (v := x2) hx hb hr hlocks w dX9_sumOf_25 ?_
          exact ⟨hh, hx2.trans (by rw [show i = pN M by omega])⟩
        · have c1 : ¬ ((((pN M) : Nat) : Int) ≤ ((i : Nat) : Int)) := fun q => c1 ((i_le S.1 hx3).mpr q)
          obtain ⟨ha3, hk3, hl1, hl24, -⟩ := hP.2.2 i (by omega)
          have hsm := sm_ub (f := (pA M)) (c := 24) i (fun j_ hj_ => by obtain ⟨a1_, a2_, a3_, a4_, -⟩ := hP.2.2 j_ (by omega); omega)
          refine lv_iload_n hx hb dX9_sumOf_12 rfl (lv_at hl 2 rfl) ?_
          refine lv_aload_n hx hb dX9_sumOf_13 rfl (lv_at hl 1 rfl) ?_
          refine lv_iload_n hx hb dX9_sumOf_14 rfl (lv_at hl 3 rfl) ?_
          refine r_iald (j := i) hx hb w (by have := D.1; omega) D.c1 hx3 (by omega) dX9_sumOf_15 ?_
          refine lv_iadd hx hb dX9_sumOf_16 ?_
          refine lv_topi (fun y2 ey2 => ?_)
          have ty2 : y2.toInt = ((((sm (pA M) i) + (pA M i)) : Nat) : Int) := i_addN ey2 hx2 (S.2.1 i (by omega)) (by omega)
          refine lv_istore_n (lv' := [(2, .int y2), (0, .ref (g.2.2.1 r)), (1, .ref (g.2.2.1 (r + 1))), (3, .int x3)]) hx hb dX9_sumOf_17 rfl hl (by decide) rfl (fun ls hl => ?_)
          obtain ⟨y3, ey3⟩ : ∃ y : Int32, y = x3 + (1) := ⟨_, rfl⟩
          have ty3 : y3.toInt = (((i + 1) : Nat) : Int) := i_addN ey3 hx3 (by decide : (1 : Int32).toInt = ((1 : Nat) : Int)) (by omega)
          refine lv_iinc (v := y3) (lv' := [(3, .int y3), (2, .int y2), (0, .ref (g.2.2.1 r)), (1, .ref (g.2.2.1 (r + 1)))]) hx hb dX9_sumOf_18 hl (k := 3) rfl (by rw [ey3]; rfl) (by decide) rfl (fun ls hl => ?_)
          refine lv_goto (tgt := 4) hx hb dX9_sumOf_21 (by decide) ?_
          exact ih4 (i + 1) y2 y3 hc _ _ _ w (lv_sub hl [2, 3, 1, 0] rfl) (by omega) ty2 ty3 D hh (by omega)
  have ih4 := cuts (6)
  refine lv_iconst (v := 0) hx hb dX9_sumOf_0 (by decide) ?_
  refine lv_istore_n (lv' := [(2, .int 0), (0, .ref (g.2.2.1 r)), (1, .ref (g.2.2.1 (r + 1)))]) hx hb dX9_sumOf_1 rfl hl (by decide) rfl (fun ls hl => ?_)
  refine lv_iconst (v := 0) hx hb dX9_sumOf_2 (by decide) ?_
  refine lv_istore_n (lv' := [(3, .int 0), (2, .int 0), (0, .ref (g.2.2.1 r)), (1, .ref (g.2.2.1 (r + 1)))]) hx hb dX9_sumOf_3 rfl hl (by decide) rfl (fun ls hl => ?_)
  exact ih4 0 0 0 h _ _ _ w (lv_sub hl [2, 3, 1, 0] rfl) (Nat.zero_le _) rfl ((by decide : (0 : Int32).toInt = ((0 : Nat) : Int))) D rfl (by omega)

set_option maxHeartbeats 4000000 in
set_option maxRecDepth 100000 in
theorem c_X9_sumOf_gl (l : Launch) {g : GE} {h : Nat → va_E} {r : Nat} {nm kn um sv sz ra rm : Int32} {ga gk gl gB gt gn gr gp gh gv gs gx gf : Nat → Int32} (D : MdA g h r nm kn um sv sz ra rm ga gk gl gB gt gn gr gp gh gv gs gx gf) {M : PRG} (S : RS M nm ga gk gl gB) (hP : PV M) : MI l yX9_sumOf wsX9_sumOf rm_X9_sumOf [.ref (g.2.2.1 r), .ref (g.2.2.1 (r + 3))] g h (fun r_ h2 => h2 = h ∧ r_.toInt = ((sm (pL M) (pN M) : Nat) : Int)) := by
  refine Met.ofW (cc := cX9_sumOf) (maxL := 4) (ret := (some .int)) (by decide) rfl ?_
  intro p e s m args below meth c s₁ B hml hv
  obtain ⟨rfl, w0⟩ := hv
  have hx := B.exec
  have hb := B.bytes
  have hr := B.returns
  have hts := atoms_spec (ws := wsX9_sumOf) B.pre
  have hown : s.vm.findClass RX9 = some m.cls := findClass_of_methodNamed B.named
  have hlocks := B.notSynchronized
  have w := w0.start
  clear w0
  have hl := lv_entry ([.ref (g.2.2.1 r), .ref (g.2.2.1 (r + 3))]) (n := 4) (Nat.le_of_ble_eq_true rfl)
  rw [lg_entry_eq]
  generalize (lg_sl ([.ref (g.2.2.1 r), .ref (g.2.2.1 (r + 3))]) ++ List.replicate (4 - (lg_sl ([.ref (g.2.2.1 r), .ref (g.2.2.1 (r + 3))])).length) Slot.unset).toArray = ls at hl ⊢
  have hl : lv_has ls 4 [(0, .ref (g.2.2.1 r)), (1, .ref (g.2.2.1 (r + 3)))] := hl
  have hn4 := hP.2.1
  have cuts : ∀ N : Nat, (∀ (i : Nat) (x2 : Int32) (x3 : Int32) (hc : Nat → va_E) (H : Heap) (locs : List Loc) (ls : Array Slot), WD g (inW g) s hc H locs → lv_has ls 4 [(0, .ref (g.2.2.1 r)), (1, .ref (g.2.2.1 (r + 3))), (2, .int x2), (3, .int x3)] → (i ≤ pN M) → (x2.toInt = ((sm (pL M) i : Nat) : Int)) → (x3.toInt = ((i : Nat) : Int)) → (MdA g hc r nm kn um sv sz ra rm ga gk gl gB gt gn gr gp gh gv gs gx gf) → (hc = h) → pN M - i < N → W p l e (headSpec wsX9_sumOf rm_X9_sumOf).room s m ([.ref (g.2.2.1 r), .ref (g.2.2.1 (r + 3))] : List Value).toArray below meth c H locs 0 0 (MQ below (va_Qi (fun r_ h2 => h2 = h ∧ r_.toInt = ((sm (pL M) (pN M) : Nat) : Int)) (Wd g) (inW g)) ([.ref (g.2.2.1 r), .ref (g.2.2.1 (r + 3))] : List Value).toArray s 0 0 (inW g)) (F0 m 4 ls [])) := by
    intro N
    induction N with
    | zero => exact by intros; omega
    | succ N ih =>
      have ih4 := ih
      · intro i x2 x3 hc H locs ls w hl hi hx2 hx3 D hh hN_
        refine lv_iload_n hx hb dX9_sumOf_4 rfl (lv_at hl 3 rfl) ?_
        refine lv_aload_n hx hb dX9_sumOf_5 rfl (lv_at hl 0 rfl) ?_
        refine r_get (C := RX9) (T := TX9) (N := 20) (ci := 7) hx hb hts inX9_sumOf_X9 hown w (by have := D.1; omega) D.c0 rfl 0 (by decide) (hts (Cond.fieldLink RX9 49 "EarlyValuesModel" "many" "I") (List.mem_of_getElem? (i := 1) (by decide +kernel))) rfl rfl dX9_sumOf_6 ?_
        refine lv_icmp_ge (tgt := 24) hx hb dX9_sumOf_9 (by decide) (fun c1 => ?_) (fun c1 => ?_)
        · have c1 : (((pN M) : Nat) : Int) ≤ ((i : Nat) : Int) := (i_le S.1 hx3).mp c1
          refine lv_iload_n hx hb dX9_sumOf_24 rfl (lv_at hl 2 rfl) ?_
          refine r_iret (v := x2) hx hb hr hlocks w dX9_sumOf_25 ?_
          exact ⟨hh, hx2.trans (by rw [show i = pN M by omega])⟩
        · have c1 : ¬ ((((pN M) : Nat) : Int) ≤ ((i : Nat) : Int)) := fun q => c1 ((i_le S.1 hx3).mpr q)
          obtain ⟨ha3, hk3, hl1, hl24, -⟩ := hP.2.2 i (by omega)
          have hsm := sm_ub (f := (pL M)) (c := 24) i (fun j_ hj_ => by obtain ⟨a1_, a2_, a3_, a4_, -⟩ := hP.2.2 j_ (by omega); omega)
          refine lv_iload_n hx hb dX9_sumOf_12 rfl (lv_at hl 2 rfl) ?_
          refine lv_aload_n hx hb dX9_sumOf_13 rfl (lv_at hl 1 rfl) ?_
          refine lv_iload_n hx hb dX9_sumOf_14 rfl (lv_at hl 3 rfl) ?_
          refine r_iald (j := i) hx hb w (by have := D.1; omega) D.c3 hx3 (by omega) dX9_sumOf_15 ?_
          refine lv_iadd hx hb dX9_sumOf_16 ?_
          refine lv_topi (fun y2 ey2 => ?_)
          have ty2 : y2.toInt = ((((sm (pL M) i) + (pL M i)) : Nat) : Int) := i_addN ey2 hx2 (S.2.2.2.1 i (by omega)) (by omega)
          refine lv_istore_n (lv' := [(2, .int y2), (0, .ref (g.2.2.1 r)), (1, .ref (g.2.2.1 (r + 3))), (3, .int x3)]) hx hb dX9_sumOf_17 rfl hl (by decide) rfl (fun ls hl => ?_)
          obtain ⟨y3, ey3⟩ : ∃ y : Int32, y = x3 + (1) := ⟨_, rfl⟩
          have ty3 : y3.toInt = (((i + 1) : Nat) : Int) := i_addN ey3 hx3 (by decide : (1 : Int32).toInt = ((1 : Nat) : Int)) (by omega)
          refine lv_iinc (v := y3) (lv' := [(3, .int y3), (2, .int y2), (0, .ref (g.2.2.1 r)), (1, .ref (g.2.2.1 (r + 3)))]) hx hb dX9_sumOf_18 hl (k := 3) rfl (by rw [ey3]; rfl) (by decide) rfl (fun ls hl => ?_)
          refine lv_goto (tgt := 4) hx hb dX9_sumOf_21 (by decide) ?_
          exact ih4 (i + 1) y2 y3 hc _ _ _ w (lv_sub hl [2, 3, 1, 0] rfl) (by omega) ty2 ty3 D hh (by omega)
  have ih4 := cuts (6)
  refine lv_iconst (v := 0) hx hb dX9_sumOf_0 (by decide) ?_
  refine lv_istore_n (lv' := [(2, .int 0), (0, .ref (g.2.2.1 r)), (1, .ref (g.2.2.1 (r + 3)))]) hx hb dX9_sumOf_1 rfl hl (by decide) rfl (fun ls hl => ?_)
  refine lv_iconst (v := 0) hx hb dX9_sumOf_2 (by decide) ?_
  refine lv_istore_n (lv' := [(3, .int 0), (2, .int 0), (0, .ref (g.2.2.1 r)), (1, .ref (g.2.2.1 (r + 3)))]) hx hb dX9_sumOf_3 rfl hl (by decide) rfl (fun ls hl => ?_)
  exact ih4 0 0 0 h _ _ _ w (lv_sub hl [2, 3, 1, 0] rfl) (Nat.zero_le _) rfl ((by decide : (0 : Int32).toInt = ((0 : Nat) : Int))) D rfl (by omega)

theorem inX9_count_X9 : ∀ w ∈ wsX90, w ∈ wsX9_count := by decide +kernel
abbrev rm_X9_count : Room := { frames := 1, cells := 0, slots := 0, locals := 23 }
set_option maxHeartbeats 4000000 in
set_option maxRecDepth 100000 in
theorem c_X9_count (l : Launch) {g : GE} {h : Nat → va_E} {r : Nat} {st0 : ST} (R : RefA g h r st0) (p0 : Int32) : MI l yX9_count wsX9_count rm_X9_count [.ref (g.2.2.1 r), .int p0] g h (fun r_ h2 => h2 = h ∧ AnCount st0 p0 r_) := by
  refine Met.ofW (cc := cX9_count) (maxL := 2) (ret := (some .int)) (by decide) rfl ?_
  intro p e s m args below meth c s₁ B hml hv
  obtain ⟨rfl, w0⟩ := hv
  have hx := B.exec
  have hb := B.bytes
  have hr := B.returns
  have hts := atoms_spec (ws := wsX9_count) B.pre
  have hown : s.vm.findClass RX9 = some m.cls := findClass_of_methodNamed B.named
  have hlocks := B.notSynchronized
  have w := w0.start
  clear w0
  have hl := lv_entry ([.ref (g.2.2.1 r), .int p0]) (n := 2) (Nat.le_of_ble_eq_true rfl)
  rw [lg_entry_eq]
  generalize (lg_sl ([.ref (g.2.2.1 r), .int p0]) ++ List.replicate (2 - (lg_sl ([.ref (g.2.2.1 r), .int p0])).length) Slot.unset).toArray = ls at hl ⊢
  have hl : lv_has ls 2 [(0, .ref (g.2.2.1 r)), (1, .int p0)] := hl
  obtain ⟨nm, kn, um, sv, sz, ra, rm, ga, gk, gl, gB, gt, gn, gr, gp, gh, gv, gs, gx, gf, D, hRS⟩ := R
  obtain ⟨hSV, S, hkn, hum, hUs, hsv, hVs, hsz, hgx⟩ := hRS
  have hSV0 := hSV
  obtain ⟨hP, hu8, hUP, hv2, hVP, hl200, hlt⟩ := hSV
  have hn4 := hP.2.1
  refine lv_iload_n hx hb dX9_count_0 rfl (lv_at hl 1 rfl) ?_
  refine lv_iconst (v := 0) hx hb dX9_count_1 (by decide) ?_
  refine lv_iconst (v := 5) hx hb dX9_count_2 (by decide) ?_
  refine r_callI w (va_runS (As := [.int p0, .int 0, .int 5]) (rest := []) ⟨hx, hb, hml, hown, hts⟩ (c_X9_in l p0 0 5) (va_cwS 3 hts gX9_count_X9_in rfl rfl rfl (by decide +kernel) ⟨Nat.le_of_ble_eq_true rfl, Nat.le_of_ble_eq_true rfl⟩) (r_preS w) rfl rfl hl.1 rfl (lv_room (Nat.le_of_ble_eq_true rfl)) dX9_count_3 ⟨Nat.zero_le _, Nat.zero_le _⟩) (fun r2 h1 H locs hp w => ?_)
  obtain ⟨eh_, qq3⟩ := hp
  have eh_ := eh_.symm
  subst eh_
  have b4 : Bq r2 (((0 : Nat) : Int) ≤ p0.toInt ∧ p0.toInt ≤ ((5 : Nat) : Int)) := qq3.iff (by rw [((rfl : p0.toInt = p0.toInt) : (p0 : Int32).toInt = _), ((by decide : (0 : Int32).toInt = ((0 : Nat) : Int)) : (0 : Int32).toInt = _), ((by decide : (5 : Int32).toInt = ((5 : Nat) : Int)) : (5 : Int32).toInt = _)])
  refine lv_if_ne (tgt := 11) hx hb dX9_count_6 (by decide) (fun c5 => ?_) (fun c5 => ?_)
  · have c5 := b4.ne c5
    refine lv_iload_n hx hb dX9_count_11 rfl (lv_at hl 1 rfl) ?_
    rcases (show (p0.toInt < 0 ∨ 4 < p0.toInt) ∨ p0.toInt = 0 ∨ p0.toInt = 1 ∨ p0.toInt = 2 ∨ p0.toInt = 3 ∨ p0.toInt = 4 by omega) with c6 | c6 | c6 | c6 | c6 | c6
    · refine lv_tableOut (tgt := 81) hx hb dX9_count_12 (by rw [(rfl : p0.toInt = p0.toInt)]; exact c6) (by decide) ?_
      refine lv_aload_n hx hb dX9_count_81 rfl (lv_at hl 0 rfl) ?_
      refine r_get (C := RX9) (T := TX9) (N := 20) (ci := 7) hx hb hts inX9_count_X9 hown w (by have := D.1; omega) D.c0 rfl 16 (by decide) (hts (Cond.fieldLink RX9 201 "EarlyValuesModel" "size" "I") (List.mem_of_getElem? (i := 6) (by decide +kernel))) rfl rfl dX9_count_82 ?_
      refine r_iret (v := sz) hx hb hr hlocks w dX9_count_85 ?_
      exact ⟨rfl, Or.inr (Or.inr (Or.inr (Or.inr (Or.inr (Or.inl ⟨by omega, hsz⟩)))))⟩
    · refine lv_tableIn (off := 36) (tgt := 48) hx hb dX9_count_12 (by rw [(rfl : p0.toInt = p0.toInt)]; omega) (by rw [(rfl : p0.toInt = p0.toInt)]; omega) (by rw [(rfl : p0.toInt = p0.toInt), c6]; rfl) (by decide) ?_
      refine lv_aload_n hx hb dX9_count_48 rfl (lv_at hl 0 rfl) ?_
      refine r_get (C := RX9) (T := TX9) (N := 20) (ci := 7) hx hb hts inX9_count_X9 hown w (by have := D.1; omega) D.c0 rfl 0 (by decide) (hts (Cond.fieldLink RX9 49 "EarlyValuesModel" "many" "I") (List.mem_of_getElem? (i := 1) (by decide +kernel))) rfl rfl dX9_count_49 ?_
      refine r_iret (v := nm) hx hb hr hlocks w dX9_count_52 ?_
      exact ⟨rfl, Or.inl ⟨by omega, S.1⟩⟩
    · refine lv_tableIn (off := 41) (tgt := 53) hx hb dX9_count_12 (by rw [(rfl : p0.toInt = p0.toInt)]; omega) (by rw [(rfl : p0.toInt = p0.toInt)]; omega) (by rw [(rfl : p0.toInt = p0.toInt), c6]; rfl) (by decide) ?_
      refine lv_aload_n hx hb dX9_count_53 rfl (lv_at hl 0 rfl) ?_
      refine lv_aload_n hx hb dX9_count_54 rfl (lv_at hl 0 rfl) ?_
      refine r_get (C := RX9) (T := TX9) (N := 20) (ci := 7) hx hb hts inX9_count_X9 hown w (by have := D.1; omega) D.c0 rfl 3 (by decide) (hts (Cond.fieldLink RX9 16 "EarlyValuesModel" "longOf" "[I") (List.mem_of_getElem? (i := 2) (by decide +kernel))) rfl rfl dX9_count_55 ?_
      refine r_callI w (va_runV (As := [.ref (g.2.2.1 (r + 3))]) (rest := []) ⟨hx, hb, hml, hown, hts⟩ (c_X9_sumOf_gl l D S hP) (cwV 1 hts gX9_count_X9_sumOf rfl rfl rfl (by decide +kernel) ⟨Nat.le_of_ble_eq_true rfl, Nat.le_of_ble_eq_true rfl⟩) (r_preV w (by have := D.1; omega) D.c0 rfl) rfl rfl hl.1 rfl (lv_room (Nat.le_of_ble_eq_true rfl)) dX9_count_58 ⟨Nat.zero_le _, Nat.zero_le _⟩) (fun r8 h7 H locs hp w => ?_)
      obtain ⟨eh_, qq9⟩ := hp
      have eh_ := eh_.symm
      subst eh_
      refine r_iret (v := r8) hx hb hr hlocks w dX9_count_61 ?_
      exact ⟨rfl, Or.inr (Or.inl ⟨by omega, qq9⟩)⟩
    · refine lv_tableIn (off := 50) (tgt := 62) hx hb dX9_count_12 (by rw [(rfl : p0.toInt = p0.toInt)]; omega) (by rw [(rfl : p0.toInt = p0.toInt)]; omega) (by rw [(rfl : p0.toInt = p0.toInt), c6]; rfl) (by decide) ?_
      refine lv_aload_n hx hb dX9_count_62 rfl (lv_at hl 0 rfl) ?_
      refine lv_aload_n hx hb dX9_count_63 rfl (lv_at hl 0 rfl) ?_
      refine r_get (C := RX9) (T := TX9) (N := 20) (ci := 7) hx hb hts inX9_count_X9 hown w (by have := D.1; omega) D.c0 rfl 1 (by decide) (hts (Cond.fieldLink RX9 7 "EarlyValuesModel" "argsOf" "[I") (List.mem_of_getElem? (i := 3) (by decide +kernel))) rfl rfl dX9_count_64 ?_
      refine r_callI w (va_runV (As := [.ref (g.2.2.1 (r + 1))]) (rest := []) ⟨hx, hb, hml, hown, hts⟩ (c_X9_sumOf_ga l D S hP) (cwV 1 hts gX9_count_X9_sumOf rfl rfl rfl (by decide +kernel) ⟨Nat.le_of_ble_eq_true rfl, Nat.le_of_ble_eq_true rfl⟩) (r_preV w (by have := D.1; omega) D.c0 rfl) rfl rfl hl.1 rfl (lv_room (Nat.le_of_ble_eq_true rfl)) dX9_count_67 ⟨Nat.zero_le _, Nat.zero_le _⟩) (fun r11 h10 H locs hp w => ?_)
      obtain ⟨eh_, qq12⟩ := hp
      have eh_ := eh_.symm
      subst eh_
      refine r_iret (v := r11) hx hb hr hlocks w dX9_count_70 ?_
      exact ⟨rfl, Or.inr (Or.inr (Or.inl ⟨by omega, qq12⟩))⟩
    · refine lv_tableIn (off := 59) (tgt := 71) hx hb dX9_count_12 (by rw [(rfl : p0.toInt = p0.toInt)]; omega) (by rw [(rfl : p0.toInt = p0.toInt)]; omega) (by rw [(rfl : p0.toInt = p0.toInt), c6]; rfl) (by decide) ?_
      refine lv_aload_n hx hb dX9_count_71 rfl (lv_at hl 0 rfl) ?_
      refine r_get (C := RX9) (T := TX9) (N := 20) (ci := 7) hx hb hts inX9_count_X9 hown w (by have := D.1; omega) D.c0 rfl 11 (by decide) (hts (Cond.fieldLink RX9 132 "EarlyValuesModel" "undoMany" "I") (List.mem_of_getElem? (i := 4) (by decide +kernel))) rfl rfl dX9_count_72 ?_
      refine r_iret (v := um) hx hb hr hlocks w dX9_count_75 ?_
      exact ⟨rfl, Or.inr (Or.inr (Or.inr (Or.inl ⟨by omega, hum⟩)))⟩
    · refine lv_tableIn (off := 64) (tgt := 76) hx hb dX9_count_12 (by rw [(rfl : p0.toInt = p0.toInt)]; omega) (by rw [(rfl : p0.toInt = p0.toInt)]; omega) (by rw [(rfl : p0.toInt = p0.toInt), c6]; rfl) (by decide) ?_
      refine lv_aload_n hx hb dX9_count_76 rfl (lv_at hl 0 rfl) ?_
      refine r_get (C := RX9) (T := TX9) (N := 20) (ci := 7) hx hb hts inX9_count_X9 hown w (by have := D.1; omega) D.c0 rfl 13 (by decide) (hts (Cond.fieldLink RX9 148 "EarlyValuesModel" "savedMany" "I") (List.mem_of_getElem? (i := 5) (by decide +kernel))) rfl rfl dX9_count_77 ?_
      refine r_iret (v := sv) hx hb hr hlocks w dX9_count_80 ?_
      exact ⟨rfl, Or.inr (Or.inr (Or.inr (Or.inr (Or.inl ⟨by omega, hsv⟩))))⟩
  · have c5 := b4.eq c5
    refine lv_iconst (v := (-1)) hx hb dX9_count_9 (by decide) ?_
    refine r_iret (v := (-1)) hx hb hr hlocks w dX9_count_10 ?_
    exact ⟨rfl, Or.inr (Or.inr (Or.inr (Or.inr (Or.inr (Or.inr ⟨by omega, rfl⟩)))))⟩

