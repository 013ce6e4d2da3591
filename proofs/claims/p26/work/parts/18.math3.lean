/-- a snapshot stands for functions -/
def SN (M : PRG) (gz : Nat → Int32) (a : Nat) : Prop := RS M (gz a) (fun i => gz (a + 1 + i)) (fun i => gz (a + 5 + i)) (fun i => gz (a + 9 + i)) (fun k => gz (a + 13 + k))
theorem SnapE.sn {gz : Nat → Int32} {a : Nat} {nm : Int32} {ga gk gl gB : Nat → Int32} {M : PRG} (h : SnapE gz a nm ga gk gl gB) (hP : PV M) (S : RS M nm ga gk gl gB) : SN M gz a :=
  h.rs ⟨rfl, fun _ _ => ⟨rfl, rfl, rfl⟩, fun _ _ => rfl⟩ hP S
theorem SN.rs {gz : Nat → Int32} {a : Nat} {nm : Int32} {ga gk gl gB : Nat → Int32} {M : PRG} (S : SN M gz a) (h : SnapE gz a nm ga gk gl gB) (hP : PV M) : RS M nm ga gk gl gB :=
  SnapE.rs ⟨rfl, fun _ _ => ⟨rfl, rfl, rfl⟩, fun _ _ => rfl⟩ h hP S
theorem SN.fr {M : PRG} {gz gz' : Nat → Int32} {a : Nat} (hP : PV M) (h : SN M gz a) (e : ∀ q, a ≤ q → q < a + 109 → gz' q = gz q) : SN M gz' a :=
  SnapE.sn (SnapE.fr ⟨rfl, fun _ _ => ⟨rfl, rfl, rfl⟩, fun _ _ => rfl⟩ e) hP h
theorem SN.sh {M : PRG} {gz gz' : Nat → Int32} {a b : Nat} (hP : PV M) (h : SN M gz a) (e : ∀ q, q < 109 → gz' (b + q) = gz (a + q)) : SN M gz' b := by
  have h4 := hP.2.1
  obtain ⟨h1, h2, h3, h4', h5⟩ := h
  refine ⟨?_, fun i hi => ?_, fun i hi => ?_, fun i hi => ?_, fun i hi j hj => ?_⟩
  · have := e 0 (by omega); simp only [Nat.add_zero] at this; rw [this]; exact h1
  · show (gz' (b + 1 + i)).toInt = _
    rw [Nat.add_assoc, e _ (by omega), ← Nat.add_assoc]; exact h2 i hi
  · show (gz' (b + 5 + i)).toInt = _
    rw [Nat.add_assoc, e _ (by omega), ← Nat.add_assoc]; exact h3 i hi
  · show (gz' (b + 9 + i)).toInt = _
    rw [Nat.add_assoc, e _ (by omega), ← Nat.add_assoc]; exact h4' i hi
  · have := (hP.2.2 i hi).2.2.2.1
    show (gz' (b + 13 + (24 * i + j))).toInt = _
    rw [Nat.add_assoc, e _ (by omega), ← Nat.add_assoc]; exact h5 i hi j hj
/-- what a run has come to: functions, acts to be undone (what was ahead of each), functions kept, the text -/
abbrev ST : Type := PRG × (Nat × (Nat → PRG)) × (Nat × (Nat → PRG)) × (Nat × (Nat → Nat))
abbrev sM (s : ST) : PRG := s.1
abbrev sU (s : ST) : Nat := s.2.1.1
abbrev sUs (s : ST) : Nat → PRG := s.2.1.2
abbrev sV (s : ST) : Nat := s.2.2.1.1
abbrev sVs (s : ST) : Nat → PRG := s.2.2.1.2
abbrev sL (s : ST) : Nat := s.2.2.2.1
abbrev sT (s : ST) : Nat → Nat := s.2.2.2.2
def SV (s : ST) : Prop := PV (sM s) ∧ sU s ≤ 8 ∧ (∀ i, i < sU s → PV (sUs s i)) ∧ sV s ≤ 2 ∧ (∀ i, i < sV s → PV (sVs s i)) ∧ sL s ≤ 200 ∧ ∀ i, i < sL s → 32 ≤ sT s i ∧ sT s i ≤ 126
-- ===== what calls answer =====
def AnWrite (s : ST) (p : Int32) (r : Int32) (s' : ST) : Prop :=
  (¬ (32 ≤ p.toInt ∧ p.toInt ≤ 126) ∧ r.toInt = -1 ∧ s' = s) ∨ ((32 ≤ p.toInt ∧ p.toInt ≤ 126) ∧ sL s = 200 ∧ r.toInt = -3 ∧ s' = s) ∨
  ((32 ≤ p.toInt ∧ p.toInt ≤ 126) ∧ sL s < 200 ∧ r.toInt = ((sL s + 1 : Nat) : Int) ∧ s' = (s.1, s.2.1, s.2.2.1, (sL s + 1, fun i => if i = sL s then p.toInt.toNat else sT s i)))
def AnWipe (s : ST) (r : Int32) (s' : ST) : Prop := r.toInt = ((sL s : Nat) : Int) ∧ s' = (s.1, s.2.1, s.2.2.1, (0, sT s))
def AnFunction (s : ST) (p q : Int32) (r : Int32) : Prop :=
  (∃ f, p.toInt = ((f : Nat) : Int) ∧ f < pN (sM s) ∧ ((q.toInt = 0 ∧ r.toInt = ((pK (sM s) f : Nat) : Int)) ∨ (q.toInt = 1 ∧ r.toInt = ((pA (sM s) f : Nat) : Int)) ∨ (q.toInt = 2 ∧ r.toInt = ((pL (sM s) f : Nat) : Int)))) ∨
  (¬ (0 ≤ p.toInt ∧ p.toInt < ((pN (sM s) : Nat) : Int) ∧ 0 ≤ q.toInt ∧ q.toInt ≤ 2) ∧ r.toInt = -1)
def AnLetter (s : ST) (p q : Int32) (r : Int32) : Prop :=
  (∃ f j, p.toInt = ((f : Nat) : Int) ∧ q.toInt = ((j : Nat) : Int) ∧ f < pN (sM s) ∧ j < pL (sM s) f ∧ r.toInt = ((mCode (pB (sM s) f j) : Nat) : Int)) ∨
  ((¬ ∃ f j, p.toInt = ((f : Nat) : Int) ∧ q.toInt = ((j : Nat) : Int) ∧ f < pN (sM s) ∧ j < pL (sM s) f) ∧ r.toInt = -1)
/-- an act's note: an older one gives way to a ninth -/
def nAct (s : ST) (M : PRG) : ST := if sU s = 8 then (M, (8, fun i => if i = 7 then sM s else sUs s (i + 1)), s.2.2) else (M, (sU s + 1, fun i => if i = sU s then sM s else sUs s i), s.2.2)
def AnPut (s : ST) (p q k : Int32) (r : Int32) (s' : ST) : Prop :=
  (∃ f j, p.toInt = ((f : Nat) : Int) ∧ q.toInt = ((j : Nat) : Int) ∧ f < pN (sM s) ∧ j < pL (sM s) f ∧ mNum k.toInt < 14 ∧ mFit (sM s) f j (mNum k.toInt) ∧ ((pB (sM s) f j = mNum k.toInt ∧ r.toInt = -2 ∧ s' = s) ∨ (pB (sM s) f j ≠ mNum k.toInt ∧ r.toInt = ((mCode (pB (sM s) f j) : Nat) : Int) ∧ s' = nAct s (mSet (sM s) f j (mNum k.toInt))))) ∨
  ((¬ ∃ f j, p.toInt = ((f : Nat) : Int) ∧ q.toInt = ((j : Nat) : Int) ∧ f < pN (sM s) ∧ j < pL (sM s) f ∧ mNum k.toInt < 14 ∧ mFit (sM s) f j (mNum k.toInt)) ∧ r.toInt = -1 ∧ s' = s)
def AnRename (s : ST) (p k : Int32) (r : Int32) (s' : ST) : Prop :=
  (∃ f c, p.toInt = ((f : Nat) : Int) ∧ k.toInt = ((c : Nat) : Int) ∧ f < pN (sM s) ∧ c ≤ 3 ∧ ((pK (sM s) f = c ∧ r.toInt = -2 ∧ s' = s) ∨ (pK (sM s) f ≠ c ∧ r.toInt = ((pK (sM s) f : Nat) : Int) ∧ s' = nAct s (mKind (sM s) f c)))) ∨
  ((¬ (0 ≤ p.toInt ∧ p.toInt < ((pN (sM s) : Nat) : Int) ∧ 0 ≤ k.toInt ∧ k.toInt ≤ 3)) ∧ r.toInt = -1 ∧ s' = s)
def AnUndo (s : ST) (r : Int32) (s' : ST) : Prop := (sU s = 0 ∧ r.toInt = -2 ∧ s' = s) ∨ (0 < sU s ∧ r.toInt = ((sU s - 1 : Nat) : Int) ∧ s' = (sUs s (sU s - 1), (sU s - 1, sUs s), s.2.2))
def AnKeep (s : ST) (r : Int32) (s' : ST) : Prop := (sV s = 2 ∧ r.toInt = -3 ∧ s' = s) ∨ (sV s < 2 ∧ r.toInt = ((sV s + 1 : Nat) : Int) ∧ s' = (s.1, s.2.1, (sV s + 1, fun i => if i = sV s then sM s else sVs s i), s.2.2.2))
def AnBack (s : ST) (r : Int32) (s' : ST) : Prop := (sV s = 0 ∧ r.toInt = -2 ∧ s' = s) ∨ (0 < sV s ∧ r.toInt = ((sV s - 1 : Nat) : Int) ∧ s' = (sVs s (sV s - 1), (0, sUs s), (sV s - 1, sVs s), s.2.2.2))
/-- a value of the table of one kind, by digits -/
def AnTab (u : Nat) (s : ST) (p x y z : Int32) (r : Int32) : Prop :=
  (∃ f a b c, p.toInt = ((f : Nat) : Int) ∧ x.toInt = ((a : Nat) : Int) ∧ y.toInt = ((b : Nat) : Int) ∧ z.toInt = ((c : Nat) : Int) ∧ f < pN (sM s) ∧ mIs u (pA (sM s) f) a b c ∧ ∃ K, IsK u (sM s) K ∧ r.toInt = ((mTab u (sM s) K f (a + mB u * b + mB u * mB u * c) : Nat) : Int)) ∨
  ((¬ ∃ f a b c, p.toInt = ((f : Nat) : Int) ∧ x.toInt = ((a : Nat) : Int) ∧ y.toInt = ((b : Nat) : Int) ∧ z.toInt = ((c : Nat) : Int) ∧ f < pN (sM s) ∧ mIs u (pA (sM s) f) a b c) ∧ r.toInt = -1)
def AnRounds (s : ST) (p : Int32) (r : Int32) : Prop := (∃ u K, p.toInt = ((u : Nat) : Int) ∧ u < 3 ∧ IsK u (sM s) K ∧ r.toInt = ((K : Nat) : Int)) ∨ (¬ (0 ≤ p.toInt ∧ p.toInt ≤ 2) ∧ r.toInt = -1)
def AnCount (s : ST) (p : Int32) (r : Int32) : Prop :=
  (p.toInt = 0 ∧ r.toInt = ((pN (sM s) : Nat) : Int)) ∨ (p.toInt = 1 ∧ r.toInt = ((sm (pL (sM s)) (pN (sM s)) : Nat) : Int)) ∨ (p.toInt = 2 ∧ r.toInt = ((sm (pA (sM s)) (pN (sM s)) : Nat) : Int)) ∨ (p.toInt = 3 ∧ r.toInt = ((sU s : Nat) : Int)) ∨ (p.toInt = 4 ∧ r.toInt = ((sV s : Nat) : Int)) ∨ (p.toInt = 5 ∧ r.toInt = ((sL s : Nat) : Int)) ∨ (¬ (0 ≤ p.toInt ∧ p.toInt ≤ 5) ∧ r.toInt = -1)
theorem RS.put {M : PRG} {nm : Int32} {ga gk gl gB gz : Nat → Int32} {f j k : Nat} {x : Int32} (S : RS M nm ga gk gl gB) (hP : PV M) (hf : f < pN M) (hj : j < pL M f) (hx : x.toInt = ((mCode k : Nat) : Int)) (e : upd gB (24 * f + j) x = gz) : RS (mSet M f j k) nm ga gk gl gz := by
  subst e
  refine ⟨S.1, S.2.1, S.2.2.1, S.2.2.2.1, fun a ha b hb => ?_⟩
  show (upd gB (24 * f + j) x (24 * a + b)).toInt = ((mCode (if a = f ∧ b = j then k else pB M a b) : Nat) : Int)
  have h1 := (hP.2.2 f hf).2.2.2.1
  have h2 := (hP.2.2 a ha).2.2.2.1
  have hb2 : b < pL M a := hb
  by_cases q : a = f ∧ b = j
  · rw [if_pos q, q.1, q.2, pk_us]; exact hx
  · rw [if_neg q, pk_un (by omega)]; exact S.2.2.2.2 a ha b hb
theorem RS.kind {M : PRG} {nm : Int32} {ga gk gl gB gz : Nat → Int32} {f c : Nat} {x : Int32} (S : RS M nm ga gk gl gB) (hx : x.toInt = ((c : Nat) : Int)) (e : upd gk f x = gz) : RS (mKind M f c) nm ga gz gl gB := by
  subst e
  refine ⟨S.1, S.2.1, fun a ha => ?_, S.2.2.2.1, S.2.2.2.2⟩
  show (upd gk f x a).toInt = (((if a = f then c else pK M a) : Nat) : Int)
  by_cases q : a = f
  · rw [if_pos q, q, pk_us]; exact hx
  · rw [if_neg q, pk_un q]; exact S.2.2.1 a ha
/-- what notes() leaves -/
def NtE (n : Nat) (um2 : Int32) (gh gh2 : Nat → Int32) (nm : Int32) (ga gk gl gB : Nat → Int32) : Prop :=
  (n < 8 ∧ um2.toInt = ((n + 1 : Nat) : Int) ∧ SnapE gh2 (109 * n) nm ga gk gl gB ∧ ∀ q, q < 109 * n → gh2 q = gh q) ∨ (n = 8 ∧ um2.toInt = ((8 : Nat) : Int) ∧ SnapE gh2 763 nm ga gk gl gB ∧ ∀ q, q < 763 → gh2 q = gh (q + 109))
theorem nact_M (s : ST) (M : PRG) : sM (nAct s M) = M ∧ sV (nAct s M) = sV s ∧ sVs (nAct s M) = sVs s ∧ sL (nAct s M) = sL s ∧ sT (nAct s M) = sT s := by
  unfold nAct; split <;> exact ⟨rfl, rfl, rfl, rfl, rfl⟩
theorem nact_ok {s : ST} {M' : PRG} {um2 nm : Int32} {gh gh2 ga gk gl gB : Nat → Int32} (hSV : SV s) (S : RS (sM s) nm ga gk gl gB) (hUs : ∀ i, i < sU s → SN (sUs s i) gh (109 * i)) (hN : NtE (sU s) um2 gh gh2 nm ga gk gl gB) (hP' : PV M') :
    SV (nAct s M') ∧ um2.toInt = ((sU (nAct s M') : Nat) : Int) ∧ ∀ i, i < sU (nAct s M') → SN (sUs (nAct s M') i) gh2 (109 * i) := by
  obtain ⟨hP, hu8, hUP, hrest⟩ := hSV
  rcases hN with ⟨a, b, c, d⟩ | ⟨a, b, c, d⟩
  · have e : nAct s M' = (M', (sU s + 1, fun i => if i = sU s then sM s else sUs s i), s.2.2) := by unfold nAct; rw [if_neg (by omega)]
    rw [e]
    refine ⟨⟨hP', by show sU s + 1 ≤ 8; omega, fun i hi => ?_, hrest⟩, b, fun i hi => ?_⟩
    · show PV (if i = sU s then sM s else sUs s i)
      have hi' : i < sU s + 1 := hi
      split
      · exact hP
      · exact hUP i (by omega)
    · show SN (if i = sU s then sM s else sUs s i) gh2 (109 * i)
      have hi' : i < sU s + 1 := hi
      split
      · rename_i q; rw [q]; exact c.sn hP S
      · exact (hUs i (by omega)).fr (hUP i (by omega)) (fun q _ h2 => d q (by omega))
  · have e : nAct s M' = (M', (8, fun i => if i = 7 then sM s else sUs s (i + 1)), s.2.2) := by unfold nAct; rw [if_pos a]
    rw [e]
    refine ⟨⟨hP', by show 8 ≤ 8; omega, fun i hi => ?_, hrest⟩, b, fun i hi => ?_⟩
    · show PV (if i = 7 then sM s else sUs s (i + 1))
      have hi' : i < 8 := hi
      split
      · exact hP
      · exact hUP (i + 1) (by omega)
    · show SN (if i = 7 then sM s else sUs s (i + 1)) gh2 (109 * i)
      have hi' : i < 8 := hi
      split
      · rename_i q; rw [q]; exact c.sn hP S
      · exact (hUs (i + 1) (by omega)).sh (hUP (i + 1) (by omega)) (fun q hq => by rw [d _ (by omega)]; congr 1; omega)
theorem sh_up {i : Nat} {gh gh1 gz : Nat → Int32} (h : ∀ q, gh1 q = if q < i then gh (q + 109) else gh q) (e : upd gh1 i (gh1 (i + 109)) = gz) : ∀ q, gz q = if q < i + 1 then gh (q + 109) else gh q := by
  subst e
  intro q
  by_cases z : q = i
  · rw [z, pk_us, h, if_neg (by omega), if_pos (by omega)]
  · rw [pk_un z, h]
    by_cases y : q < i
    · rw [if_pos y, if_pos (by omega)]
    · rw [if_neg y, if_neg (by omega)]
theorem tx_up {n : Nat} {gx gz : Nat → Int32} {tx : Nat → Nat} {x : Int32} (h : ∀ i, i < n → (gx i).toInt = ((tx i : Nat) : Int)) (hx : 0 ≤ x.toInt) (e : upd gx n x = gz) : ∀ i, i < n + 1 → (gz i).toInt = (((if i = n then x.toInt.toNat else tx i) : Nat) : Int) := by
  subst e
  intro i hi
  by_cases q : i = n
  · rw [if_pos q, q, pk_us]; omega
  · rw [if_neg q, pk_un q]; exact h i (by omega)

theorem bit_all : (List.range 8).all (fun b => (nI b &&& 1) == nI (b % 2) && ((nI b >>> ((1 : Int32) &&& 31)) &&& 1) == nI (b / 2 % 2) && ((nI b >>> ((2 : Int32) &&& 31)) &&& 1) == nI (b / 4 % 2)) = true := by decide +kernel
theorem bit_0 {x z : Int32} {b : Nat} (hx : x.toInt = ((b : Nat) : Int)) (hb : b < 8) (e : z = x &&& 1) : z.toInt = ((b % 2 : Nat) : Int) := by
  have := all_range bit_all hb
  simp only [Bool.and_eq_true, beq_iff_eq] at this
  rw [e, i_ofN hx, this.1.1, nI_toInt (by omega)]
theorem bit_1 {x y z : Int32} {b : Nat} (hx : x.toInt = ((b : Nat) : Int)) (hb : b < 8) (e1 : y = x >>> ((1 : Int32) &&& 31)) (e : z = y &&& 1) : z.toInt = ((b / 2 % 2 : Nat) : Int) := by
  have := all_range bit_all hb
  simp only [Bool.and_eq_true, beq_iff_eq] at this
  rw [e, e1, i_ofN hx, this.1.2, nI_toInt (by omega)]
theorem bit_2 {x y z : Int32} {b : Nat} (hx : x.toInt = ((b : Nat) : Int)) (hb : b < 8) (e1 : y = x >>> ((2 : Int32) &&& 31)) (e : z = y &&& 1) : z.toInt = ((b / 4 % 2 : Nat) : Int) := by
  have := all_range bit_all hb
  simp only [Bool.and_eq_true, beq_iff_eq] at this
  rw [e, e1, i_ofN hx, this.2, nI_toInt (by omega)]
theorem shl_all : (List.range 4).all (fun c => ((1 : Int32) <<< (nI c &&& 31)) == nI (2 ^ c)) = true := by decide +kernel
theorem shl_1 {x y : Int32} {c : Nat} (hx : x.toInt = ((c : Nat) : Int)) (hc : c ≤ 3) (e : y = (1 : Int32) <<< (x &&& 31)) : y.toInt = ((mB 1 ^ c : Nat) : Int) := by
  have := all_range shl_all (show c < 4 by omega)
  simp only [beq_iff_eq] at this
  rw [mB_1]
  have h2 : 2 ^ c < 2 ^ 31 := Nat.pow_lt_pow_right (by decide) (by omega)
  rw [e, i_ofN hx, this, nI_toInt h2]
theorem pow2_c {c : Nat} (hc : c ≤ 3) : (c = 0 ∧ mB 1 ^ c = 1) ∨ (c = 1 ∧ mB 1 ^ c = 2) ∨ (c = 2 ∧ mB 1 ^ c = 4) ∨ (c = 3 ∧ mB 1 ^ c = 8) := by
  rcases (show c = 0 ∨ c = 1 ∨ c = 2 ∨ c = 3 by omega) with q | q | q | q <;> subst q <;> decide
theorem rough_is {c b : Nat} (hc : c ≤ 3) (h : b < mB 1 ^ c) : mIs 1 c (b % 2) (b / 2 % 2) (b / 4 % 2) := by
  have := pow2_c hc
  exact mIs_of (by rw [mB_1]; omega) (by rw [mB_1]; omega) (by rw [mB_1]; omega) (by omega) (by omega) (by omega)
theorem rough_at {M : PRG} {gt : Nat → Int32} {T : Nat → Nat → Nat} (hT : RT 1 M gt T) (hP : PV M) {f b : Nat} (hf : f < pN M) (hb : b < mRw 1 M f) : (gt (500 * 1 + 125 * f + (25 * (b % 2) + 5 * (b / 2 % 2) + b / 4 % 2))).toInt = ((T f b : Nat) : Int) := by
  have h3 := (hP.2.2 f hf).1
  have h8 := pow2_c h3
  have hb' : b < mB 1 ^ pA M f := hb
  rw [hT.at hf (rough_is h3 hb), mB_1, show b % 2 + 2 * (b / 2 % 2) + 2 * 2 * (b / 4 % 2) = b by omega]
def AnRough (s : ST) (p q : Int32) (r : Int32) : Prop :=
  (∃ f b, p.toInt = ((f : Nat) : Int) ∧ q.toInt = ((b : Nat) : Int) ∧ f < pN (sM s) ∧ b < mRw 1 (sM s) f ∧ ∃ K, IsK 1 (sM s) K ∧ r.toInt = ((mTab 1 (sM s) K f b : Nat) : Int)) ∨
  ((¬ ∃ f b, p.toInt = ((f : Nat) : Int) ∧ q.toInt = ((b : Nat) : Int) ∧ f < pN (sM s) ∧ b < mRw 1 (sM s) f) ∧ r.toInt = -1)
/-- in truth strict, by the table that is known -/
theorem mStrictF_iff {u : Nat} {M : PRG} {K f a : Nat} (hK : IsK u M K) : mStrictF u M f a ↔ mStrict u M (mTab u M K) f a := by
  constructor
  · rintro ⟨L, h1, h2⟩; rw [hK.inj h1]; exact h2
  · intro h; exact ⟨K, hK, h⟩
theorem mTab_TMo {u : Nat} {M : PRG} (hu : u < 3) (hP : PV M) (K : Nat) : TMo u M (mTab u M K) := (mTab_mo hu hP K).1
def tX (c a i : Nat) : Nat := if a = i ∨ c ≤ i then 0 else 3
theorem tX_le (c a i : Nat) : tX c a i ≤ 3 := by unfold tX; split <;> omega
theorem tX_is (c a : Nat) : mIs 2 c (tX c a 0) (tX c a 1) (tX c a 2) := by
  have h0 := tX_le c a 0
  have h1 := tX_le c a 1
  have h2 := tX_le c a 2
  refine mIs_of (by rw [mB_2]; omega) (by rw [mB_2]; omega) (by rw [mB_2]; omega) (fun q => if_pos (Or.inr q)) (fun q => if_pos (Or.inr q)) (fun q => if_pos (Or.inr q))
theorem fine_top {M : PRG} {K f a : Nat} (hP : PV M) (hK : IsK 2 M K) (hf : f < pN M) (ha : a < pA M f) : mStrictF 2 M f a ↔ mTab 2 M K f (tX (pA M f) a 0 + mB 2 * tX (pA M f) a 1 + mB 2 * mB 2 * tX (pA M f) a 2) = 0 :=
  (mStrictF_iff hK).trans (mStrict.top (by omega) (by omega) hP (mTab_TMo (by omega) hP K) hf ha)
theorem rough_top {M : PRG} {K f a : Nat} (hP : PV M) (hK : IsK 1 M K) (hf : f < pN M) (ha : a < pA M f) : mStrictF 1 M f a ↔ mTab 1 M K f (topRow 1 (pA M f) a) = 0 :=
  (mStrictF_iff hK).trans (mStrict.top (by omega) (by omega) hP (mTab_TMo (by omega) hP K) hf ha)
theorem rs_all : (List.range 4).all (fun c => (List.range c).all fun a => (nI (2 ^ c - 1) &&& (((1 : Int32) <<< (nI a &&& 31)) ^^^ (-1))) == nI (topRow 1 c a) && decide (topRow 1 c a < 2 ^ c)) = true := by decide +kernel
theorem rs_bits {x y v w z : Int32} {c a : Nat} (hc : c ≤ 3) (ha : a < c) (hx : x.toInt = ((mB 1 ^ c - 1 : Nat) : Int)) (hy : y.toInt = ((a : Nat) : Int)) (e1 : v = (1 : Int32) <<< (y &&& 31)) (e2 : w = v ^^^ (-1)) (e3 : z = x &&& w) : z.toInt = ((topRow 1 c a : Nat) : Int) := by
  have := all_range (all_range rs_all (show c < 4 by omega)) ha
  simp only [Bool.and_eq_true, beq_iff_eq, decide_eq_true_eq] at this
  rw [mB_1] at hx
  have h2 : 2 ^ c < 2 ^ 31 := Nat.pow_lt_pow_right (by decide) (by omega)
  rw [e3, e2, e1, i_ofN hx, i_ofN hy, this.1, nI_toInt (by omega)]
theorem top_lt {M : PRG} {f a : Nat} (hP : PV M) (hf : f < pN M) (ha : a < pA M f) : topRow 1 (pA M f) a < mRw 1 M f := by
  have := all_range (all_range rs_all (show pA M f < 4 by have := (hP.2.2 f hf).1; omega)) ha
  simp only [Bool.and_eq_true, beq_iff_eq, decide_eq_true_eq] at this
  have h2 := this.2
  show topRow 1 (pA M f) a < mB 1 ^ pA M f
  rw [mB_1]; exact h2
/-- an argument by a row of the reference -/
def dg9 (row a : Nat) : Nat := if a = 0 then row / 25 else if a = 1 then row / 5 % 5 else row % 5
theorem dg9_dig {u c row a : Nat} (h : mIs u c (row / 25) (row / 5 % 5) (row % 5)) (ha : a < 3) : mDig u (mIx u row) a = dg9 row a := by
  obtain ⟨h1, h2, h3, -⟩ := mIs_lt h
  obtain ⟨d0, d1, d2⟩ := dig3 h1 h2 h3
  rcases (show a = 0 ∨ a = 1 ∨ a = 2 by omega) with q | q | q <;> subst q
  · exact d0
  · exact d1
  · exact d2
theorem truly_fin {M : PRG} {K f a : Nat} (hP : PV M) (hK : IsK 0 M K) (hf : f < pN M) (ha : a < pA M f) : (∀ q, q < 125 → mIs 0 (pA M f) (q / 25) (q / 5 % 5) (q % 5) → dg9 q a = 4 → mTab 0 M K f (mIx 0 q) = 4) ↔ mStrictF 0 M f a := by
  have h3 := (hP.2.2 f hf).1
  rw [mStrictF_iff hK]
  constructor
  · intro h row hr hd
    obtain ⟨q, q1, q2, q3⟩ := mIx_ex (by omega) h3 hr
    have := h q q1 q2 (by rw [← dg9_dig q2 (by omega), q3]; exact hd)
    rw [q3] at this; exact this
  · intro h q q1 q2 q3
    exact h _ (mIx_in h3 q2) (by rw [dg9_dig q2 (by omega)]; exact q3)
theorem or_bq {x v w y j : Int32} {S : Nat → Prop} {i : Nat} (hx : x.toInt = ((mBits S i : Nat) : Int)) (hi : i < 3) (hj : j.toInt = ((i : Nat) : Int)) (hv : Bq v (S i)) (e1 : w = v <<< (j &&& 31)) (e2 : y = x ||| w) : y.toInt = ((mBits S (i + 1) : Nat) : Int) := by
  rcases hv with ⟨rfl, h⟩ | ⟨rfl, h⟩
  · rw [mBits_t h]; exact or_bit hx (mBits_lt S i) hi hj (by rw [e2, e1])
  · rw [mBits_f h]
    have e : w = 0 := by
      rw [e1, i_ofN hj]
      rcases (show i = 0 ∨ i = 1 ∨ i = 2 by omega) with q | q | q <;> subst q <;> decide
    rw [e2, e, Int32.or_zero]; exact hx
/-- how many bits -/
def pop (b : Nat) : Nat := b % 2 + b / 2 % 2 + b / 4 % 2
def wU (w : Nat) : Nat := if w = 0 then 1 else if w = 1 then 2 else 0
def AnStrict (s : ST) (p w : Int32) (r : Int32) : Prop :=
  (∃ f k, p.toInt = ((f : Nat) : Int) ∧ w.toInt = ((k : Nat) : Int) ∧ f < pN (sM s) ∧ k < 3 ∧ r.toInt = ((mBits (mStrictF (wU k) (sM s) f) (pA (sM s) f) : Nat) : Int)) ∨
  (¬ (0 ≤ p.toInt ∧ p.toInt < ((pN (sM s) : Nat) : Int) ∧ 0 ≤ w.toInt ∧ w.toInt ≤ 2) ∧ r.toInt = -1)
noncomputable def ePart (M : PRG) (w k : Nat) : Nat := if 10 ≤ k then (if w = 3 then pA M (k - 10) else pop (mBits (mStrictF (wU w) M (k - 10)) (pA M (k - 10)))) else 0
def AnEarly (s : ST) (p w : Int32) (r : Int32) : Prop :=
  (∃ f k, p.toInt = ((f : Nat) : Int) ∧ w.toInt = ((k : Nat) : Int) ∧ f < pN (sM s) ∧ k < 4 ∧ r.toInt = ((sm (fun j => ePart (sM s) k (pB (sM s) f j)) (pL (sM s) f) : Nat) : Int)) ∨
  (¬ (0 ≤ p.toInt ∧ p.toInt < ((pN (sM s) : Nat) : Int) ∧ 0 ≤ w.toInt ∧ w.toInt ≤ 3) ∧ r.toInt = -1)
theorem pop_le (b : Nat) : pop b ≤ 3 := by unfold pop; omega
theorem ePart_le {M : PRG} {w k : Nat} (hP : PV M) (hk : k - 10 < pN M) : ePart M w k ≤ 3 := by
  unfold ePart
  split
  · split
    · exact (hP.2.2 _ hk).1
    · exact pop_le _
  · omega

theorem mB3_le {u : Nat} (c : Nat) (S : Nat → Prop) (hc : c ≤ 3) : mBits S c < 8 := by
  have := mBits_lt S c
  have h2 : 2 ^ c ≤ 2 ^ 3 := Nat.pow_le_pow_right (by decide) hc
  omega
theorem wU_0 : wU 0 = 1 := rfl
theorem wU_1 : wU 1 = 2 := rfl
theorem wU_2 : wU 2 = 0 := rfl
theorem ePart_no {M : PRG} {w k : Nat} (h : k < 10) : ePart M w k = 0 := by unfold ePart; rw [if_neg (by omega)]
theorem ePart_3 {M : PRG} {k : Nat} (h : 10 ≤ k) : ePart M 3 k = pA M (k - 10) := by unfold ePart; rw [if_pos h, if_pos rfl]
theorem ePart_w {M : PRG} {w k : Nat} (h : 10 ≤ k) (hw : w < 3) : ePart M w k = pop (mBits (mStrictF (wU w) M (k - 10)) (pA M (k - 10))) := by unfold ePart; rw [if_pos h, if_neg (by omega)]
/-- whether two functions come to the same -/
def Same (M : PRG) (K f g2 : Nat) : Prop := pA M f = pA M g2 ∧ ∀ row, row < mRw 0 M f → mTab 0 M K f row = mTab 0 M K g2 row
def SameQ (M : PRG) (K f g2 i : Nat) : Prop := pA M f = pA M g2 ∧ ∀ q, q < i → mIs 0 (pA M f) (q / 25) (q / 5 % 5) (q % 5) → mTab 0 M K f (mIx 0 q) = mTab 0 M K g2 (mIx 0 q)
theorem same_fin {M : PRG} {K f g2 : Nat} (hP : PV M) (hf : f < pN M) : SameQ M K f g2 125 ↔ Same M K f g2 := by
  have h3 := (hP.2.2 f hf).1
  constructor
  · rintro ⟨a, h⟩
    refine ⟨a, fun row hr => ?_⟩
    obtain ⟨q, q1, q2, q3⟩ := mIx_ex (by omega) h3 hr
    have := h q q1 q2
    rw [q3] at this; exact this
  · rintro ⟨a, h⟩
    exact ⟨a, fun q _ q2 => h _ (mIx_in h3 q2)⟩
theorem same_eq {M : PRG} {gt : Nat → Int32} {K f g2 i : Nat} (hT : RT 0 M gt (mTab 0 M K)) (hf : f < pN M) (hg : g2 < pN M) (hi : i < 125) (h : SameQ M K f g2 i) : (gt (500 * 0 + 125 * f + i)).toInt = (gt (500 * 0 + 125 * g2 + i)).toInt ↔ SameQ M K f g2 (i + 1) := by
  by_cases hI : mIs 0 (pA M f) (i / 25) (i / 5 % 5) (i % 5)
  · rw [(hT f i hf hi).1 hI, (hT g2 i hg hi).1 (by rw [← h.1]; exact hI)]
    constructor
    · intro e
      refine ⟨h.1, fun q hq q2 => ?_⟩
      rcases Nat.lt_succ_iff_lt_or_eq.mp hq with z | z
      · exact h.2 q z q2
      · rw [z]; omega
    · intro e
      rw [e.2 i (by omega) hI]
  · rw [(hT f i hf hi).2 hI, (hT g2 i hg hi).2 (by rw [← h.1]; exact hI)]
    refine ⟨fun _ => ⟨h.1, fun q hq q2 => ?_⟩, fun _ => rfl⟩
    rcases Nat.lt_succ_iff_lt_or_eq.mp hq with z | z
    · exact h.2 q z q2
    · rw [z] at q2; exact absurd q2 hI
def AnSame (s : ST) (p q : Int32) (r : Int32) : Prop :=
  (∃ f g2 K, p.toInt = ((f : Nat) : Int) ∧ q.toInt = ((g2 : Nat) : Int) ∧ f < pN (sM s) ∧ g2 < pN (sM s) ∧ IsK 0 (sM s) K ∧ Bq r (Same (sM s) K f g2)) ∨
  (¬ (0 ≤ p.toInt ∧ p.toInt < ((pN (sM s) : Nat) : Int) ∧ 0 ≤ q.toInt ∧ q.toInt < ((pN (sM s) : Nat) : Int)) ∧ r.toInt = -1)
def Hit (M : PRG) (K f v q : Nat) : Prop := mIs 0 (pA M f) (q / 25) (q / 5 % 5) (q % 5) ∧ mTab 0 M K f (mIx 0 q) = v
def AnFirst (s : ST) (p v : Int32) (r : Int32) : Prop :=
  (∃ f k K, p.toInt = ((f : Nat) : Int) ∧ v.toInt = ((k : Nat) : Int) ∧ f < pN (sM s) ∧ k < 5 ∧ IsK 0 (sM s) K ∧ ((∃ q, q < 125 ∧ Hit (sM s) K f k q ∧ (∀ j, j < q → ¬ Hit (sM s) K f k j) ∧ r.toInt = ((100 * (q / 25) + 10 * (q / 5 % 5) + q % 5 : Nat) : Int)) ∨ ((∀ q, q < 125 → ¬ Hit (sM s) K f k q) ∧ r.toInt = -4))) ∨
  (¬ (0 ≤ p.toInt ∧ p.toInt < ((pN (sM s) : Nat) : Int) ∧ 0 ≤ v.toInt ∧ v.toInt ≤ 4) ∧ r.toInt = -1)
/-- a row of the frontier -/
def FrQ (T : Nat → Nat → Nat) (f b i : Nat) : Prop := T f b = 1 ∧ ∀ x, x < i → x &&& b = x → T f x = 0
def frt (T : Nat → Nat → Nat) (f b : Nat) : Bool := T f b == 1 && (List.range b).all fun x => !(x &&& b == x) || T f x == 0
theorem frt_iff {T : Nat → Nat → Nat} {f b : Nat} : frt T f b = true ↔ FrQ T f b b := by
  unfold frt FrQ
  simp only [Bool.and_eq_true, beq_iff_eq, List.all_eq_true, List.mem_range, Bool.or_eq_true, Bool.not_eq_true', beq_eq_false_iff_ne, ne_eq]
  constructor
  · rintro ⟨a, h⟩
    refine ⟨a, fun x hx hs => ?_⟩
    rcases h x hx with q | q
    · exact absurd hs q
    · exact q
  · rintro ⟨a, h⟩
    refine ⟨a, fun x hx => ?_⟩
    by_cases q : x &&& b = x
    · exact Or.inr (h x hx q)
    · exact Or.inl q
theorem FrQ.up {T : Nat → Nat → Nat} {f b i : Nat} (h : FrQ T f b i) (q : i &&& b = i → T f i = 0) : FrQ T f b (i + 1) := by
  refine ⟨h.1, fun x hx hs => ?_⟩
  rcases Nat.lt_succ_iff_lt_or_eq.mp hx with z | z
  · exact h.2 x z hs
  · rw [z] at hs ⊢; exact q hs
theorem sub_all : (List.range 8).all (fun x => (List.range 8).all fun b => ((nI x &&& (nI b ^^^ (-1))) == 0) == (x &&& b == x)) = true := by decide +kernel
theorem sub_iff {x y v w : Int32} {a b : Nat} (hx : x.toInt = ((a : Nat) : Int)) (hy : y.toInt = ((b : Nat) : Int)) (ha : a < 8) (hb : b < 8) (e1 : v = y ^^^ (-1)) (e2 : w = x &&& v) : w = 0 ↔ a &&& b = a := by
  have := all_range (all_range sub_all ha) hb
  simp only [beq_iff_eq] at this
  rw [e2, e1, i_ofN hx, i_ofN hy]
  constructor
  · intro h
    have h2 : (nI a &&& (nI b ^^^ (-1)) == 0) = true := by rw [h]; rfl
    rw [this] at h2; exact beq_iff_eq.mp h2
  · intro h
    have h2 : (a &&& b == a) = true := by rw [h]; exact beq_self_eq_true a
    rw [← this] at h2; exact beq_iff_eq.mp h2
def fF (T : Nat → Nat → Nat) (f b : Nat) : Nat := if frt T f b = true then 1 else 0
theorem fF_1 {T : Nat → Nat → Nat} {f b : Nat} (h : FrQ T f b b) : fF T f b = 1 := if_pos (frt_iff.mpr h)
theorem fF_0 {T : Nat → Nat → Nat} {f b : Nat} (h : ¬ FrQ T f b b) : fF T f b = 0 := if_neg (fun q => h (frt_iff.mp q))
theorem fF_le {T : Nat → Nat → Nat} {f b : Nat} : fF T f b ≤ 1 := by unfold fF; split <;> omega
def AnFrontier (s : ST) (p k : Int32) (r : Int32) : Prop :=
  (∃ f K, p.toInt = ((f : Nat) : Int) ∧ f < pN (sM s) ∧ IsK 1 (sM s) K ∧ ((k.toInt = -1 ∧ r.toInt = ((sm (fF (mTab 1 (sM s) K) f) (mRw 1 (sM s) f) : Nat) : Int)) ∨
    (0 ≤ k.toInt ∧ ((∃ b, b < mRw 1 (sM s) f ∧ fF (mTab 1 (sM s) K) f b = 1 ∧ ((sm (fF (mTab 1 (sM s) K) f) b : Nat) : Int) = k.toInt ∧ r.toInt = ((b : Nat) : Int)) ∨ ((∀ b, b < mRw 1 (sM s) f → fF (mTab 1 (sM s) K) f b = 1 → ((sm (fF (mTab 1 (sM s) K) f) b : Nat) : Int) ≠ k.toInt) ∧ r.toInt = -4))))) ∨
  (¬ (0 ≤ p.toInt ∧ p.toInt < ((pN (sM s) : Nat) : Int) ∧ -1 ≤ k.toInt) ∧ r.toInt = -1)

/-- the k-th of the frontier, so far -/
def FdQ (T : Nat → Nat → Nat) (f i : Nat) (k x : Int) : Prop := (∃ b, b < i ∧ fF T f b = 1 ∧ ((sm (fF T f) b : Nat) : Int) = k ∧ x = ((b : Nat) : Int)) ∨ ((∀ b, b < i → fF T f b = 1 → ((sm (fF T f) b : Nat) : Int) ≠ k) ∧ x = -4)
theorem FdQ.no {T : Nat → Nat → Nat} {f i : Nat} {k x : Int} (h : FdQ T f i k x) (q : fF T f i = 1 → ((sm (fF T f) i : Nat) : Int) ≠ k) : FdQ T f (i + 1) k x := by
  rcases h with ⟨b, b1, b2⟩ | ⟨a, b⟩
  · exact Or.inl ⟨b, by omega, b2⟩
  · refine Or.inr ⟨fun c hc h1 => ?_, b⟩
    rcases Nat.lt_succ_iff_lt_or_eq.mp hc with z | z
    · exact a c z h1
    · rw [z] at h1 ⊢; exact q h1
theorem FdQ.yes {T : Nat → Nat → Nat} {f i : Nat} {k : Int} (h1 : fF T f i = 1) (h2 : ((sm (fF T f) i : Nat) : Int) = k) : FdQ T f (i + 1) k ((i : Nat) : Int) := Or.inl ⟨i, by omega, h1, h2, rfl⟩
theorem sm_1 {f : Nat → Nat} {n : Nat} (h : f n = 1) : sm f (n + 1) = sm f n + 1 := by rw [sm_succ, h]
theorem sm_0 {f : Nat → Nat} {n : Nat} (h : f n = 0) : sm f (n + 1) = sm f n := by rw [sm_succ, h, Nat.add_zero]
/-- a letter elsewhere that makes it strict -/
def Cand (M : PRG) (f a i k : Nat) : Prop := pB M f i ≠ k ∧ mFit M f i k ∧ mStrictF 2 (mSet M f i k) f a
def FmQ (M : PRG) (f a i k : Nat) (x : Int) : Prop := ((∀ i' k', i' < pL M f → k' < 14 → (i' < i ∨ (i' = i ∧ k' < k)) → ¬ Cand M f a i' k') ∧ x = -4) ∨ (∃ i' k', i' < pL M f ∧ k' < 14 ∧ Cand M f a i' k' ∧ (∀ i2 k2, i2 < pL M f → k2 < 14 → (i2 < i' ∨ (i2 = i' ∧ k2 < k')) → ¬ Cand M f a i2 k2) ∧ x = ((200 * i' + mCode k' : Nat) : Int))
theorem FmQ.no {M : PRG} {f a i k : Nat} {x : Int} (h : FmQ M f a i k x) (q : ¬ Cand M f a i k) : FmQ M f a i (k + 1) x := by
  rcases h with ⟨b, c⟩ | b
  · refine Or.inl ⟨fun i' k' h1 h2 h3 => ?_, c⟩
    by_cases z : i' = i ∧ k' = k
    · rw [z.1, z.2]; exact q
    · exact b i' k' h1 h2 (by omega)
  · exact Or.inr b
theorem FmQ.yes {M : PRG} {f a i k : Nat} {x : Int} (h : FmQ M f a i k x) (hx : x = -4) (hi : i < pL M f) (hk : k < 14) (q : Cand M f a i k) : FmQ M f a i (k + 1) ((200 * i + mCode k : Nat) : Int) := by
  rcases h with ⟨b, c⟩ | ⟨i', k', h1, h2, h3, h4, h5⟩
  · exact Or.inr ⟨i, k, hi, hk, q, b, rfl⟩
  · omega
theorem FmQ.nx {M : PRG} {f a i : Nat} {x : Int} {k : Nat} (h : FmQ M f a i k x) (hk : x = -4 → 14 ≤ k) : FmQ M f a (i + 1) 0 x := by
  rcases h with ⟨b, c⟩ | b
  · exact Or.inl ⟨fun i' k' h1 h2 h3 => b i' k' h1 h2 (by have := hk c; omega), c⟩
  · exact Or.inr b
theorem FmQ.some_lt {M : PRG} {f a i k : Nat} {x : Int} (h : FmQ M f a i k x) : x = -4 ∨ 0 ≤ x := by
  rcases h with ⟨b, c⟩ | ⟨i', k', h1, h2, h3, h4, h5⟩
  · exact Or.inl c
  · exact Or.inr (by omega)
theorem mSet_back {M : PRG} {f i k : Nat} : mSet (mSet M f i k) f i (pB M f i) = M := by
  unfold mSet
  show (pN M, pA M, pK M, pL M, fun a b => if a = f ∧ b = i then pB M f i else if a = f ∧ b = i then k else pB M a b) = M
  have e : (fun a b => if a = f ∧ b = i then pB M f i else if a = f ∧ b = i then k else pB M a b) = pB M := by
    funext a b
    by_cases q : a = f ∧ b = i
    · rw [if_pos q, q.1, q.2]
    · rw [if_neg q, if_neg q]
  rw [e]
def AnMakes (s : ST) (p q : Int32) (r : Int32) : Prop :=
  (∃ f a, p.toInt = ((f : Nat) : Int) ∧ q.toInt = ((a : Nat) : Int) ∧ f < pN (sM s) ∧ a < pA (sM s) f ∧ ((mStrictF 2 (sM s) f a ∧ r.toInt = -2) ∨ (¬ mStrictF 2 (sM s) f a ∧ ((∃ i k, i < pL (sM s) f ∧ k < 14 ∧ Cand (sM s) f a i k ∧ (∀ i2 k2, i2 < pL (sM s) f → k2 < 14 → (i2 < i ∨ (i2 = i ∧ k2 < k)) → ¬ Cand (sM s) f a i2 k2) ∧ r.toInt = ((200 * i + mCode k : Nat) : Int)) ∨ ((∀ i k, i < pL (sM s) f → k < 14 → ¬ Cand (sM s) f a i k) ∧ r.toInt = -4))))) ∨
  ((¬ ∃ f a, p.toInt = ((f : Nat) : Int) ∧ q.toInt = ((a : Nat) : Int) ∧ f < pN (sM s) ∧ a < pA (sM s) f) ∧ r.toInt = -1)
theorem FmQ.fin {M : PRG} {f a i k : Nat} {x : Int} (h : FmQ M f a i k x) (hi : x = -4 → pL M f ≤ i) : (∃ i k, i < pL M f ∧ k < 14 ∧ Cand M f a i k ∧ (∀ i2 k2, i2 < pL M f → k2 < 14 → (i2 < i ∨ (i2 = i ∧ k2 < k)) → ¬ Cand M f a i2 k2) ∧ x = ((200 * i + mCode k : Nat) : Int)) ∨ ((∀ i k, i < pL M f → k < 14 → ¬ Cand M f a i k) ∧ x = -4) := by
  rcases h with ⟨b, c⟩ | b
  · exact Or.inr ⟨fun i' k' h1 h2 => b i' k' h1 h2 (by have := hi c; omega), c⟩
  · exact Or.inl b

-- ===== longs by what they stand for =====
theorem l_bm {z : Int} (h1 : -9223372036854775808 ≤ z) (h2 : z ≤ 9223372036854775807) : z.bmod (2 ^ 64) = z := by
  rw [Int.bmod_def]; omega
theorem l_of {n : Nat} {v : Int64} (e : v = Int64.ofNat n) (h : n < 9223372036854775808) : v.toInt = ((n : Nat) : Int) := by
  rw [e]; exact Int64.toInt_ofNat_of_lt h
theorem l_i2l {x : Int32} {v : Int64} {a : Nat} (e : v = x.toInt64) (hx : x.toInt = ((a : Nat) : Int)) : v.toInt = ((a : Nat) : Int) := by
  rw [e, Int32.toInt_toInt64]; exact hx
theorem l_add {x y z : Int64} {a b : Nat} (ez : z = x + y) (hx : x.toInt = ((a : Nat) : Int)) (hy : y.toInt = ((b : Nat) : Int)) (h : a + b ≤ 9223372036854775807) : z.toInt = ((a + b : Nat) : Int) := by
  rw [ez, Int64.toInt_add, hx, hy, l_bm (by omega) (by omega)]; omega
theorem l_mul {x y z : Int64} {a b : Nat} (ez : z = x * y) (hx : x.toInt = ((a : Nat) : Int)) (hy : y.toInt = ((b : Nat) : Int)) (h : a * b ≤ 9223372036854775807) : z.toInt = ((a * b : Nat) : Int) := by
  have e : ((a * b : Nat) : Int) = (a : Int) * (b : Int) := Int.natCast_mul a b
  rw [ez, Int64.toInt_mul, hx, hy, ← e, l_bm (by omega) (by omega)]
theorem l_rem {x y z : Int64} {a b : Nat} (ez : z = x - x / y * y) (hx : x.toInt = ((a : Nat) : Int)) (hy : y.toInt = ((b : Nat) : Int)) (hb : 0 < b) : z.toInt = ((a % b : Nat) : Int) := by
  have ha : a ≤ 9223372036854775807 := by have := Int64.toInt_lt x; omega
  have hy1 : y ≠ -1 := fun q => by rw [q] at hy; have : (-1 : Int64).toInt = -1 := by decide
                                   omega
  have hd : (x / y).toInt = ((a / b : Nat) : Int) := by
    rw [Int64.toInt_div_of_ne_right _ _ hy1, hx, hy]
    rw [Int.tdiv_eq_ediv_of_nonneg (by omega)]
    omega
  have hle : a / b * b ≤ a := Nat.div_mul_le_self a b
  have hm : (x / y * y).toInt = ((a / b * b : Nat) : Int) := l_mul rfl hd hy (by omega)
  have hr : a % b = a - a / b * b := by
    have := Nat.div_add_mod a b
    rw [Nat.mul_comm] at this
    omega
  rw [ez, Int64.toInt_sub, hx, hm, l_bm (by omega) (by omega), hr]
  omega
theorem l_l2i {x : Int64} {v : Int32} {a : Nat} (e : x.toInt32 = v) (hx : x.toInt = ((a : Nat) : Int)) (h : a ≤ 2147483647) : v.toInt = ((a : Nat) : Int) := by
  rw [← e, Int64.toInt_toInt32, hx, i_bm (by omega) (by omega)]
theorem l_nz {y : Int64} {b : Nat} (hy : y.toInt = ((b : Nat) : Int)) (hb : 0 < b) : ¬ y = 0 := fun q => by
  rw [q] at hy
  have : (0 : Int64).toInt = 0 := by decide
  omega
/-- a day's k-th draw -/
def dDraw (z k : Nat) : Nat := (7919 * z + 6151 * k + 1) * (7919 * z + 6151 * k + 1) % 65521
/-- functions behind n draws of day z -/
def DayR (M : PRG) (z : Nat) : Nat → PRG → Prop
  | 0, M' => M' = M
  | n + 1, M' => ∃ M1 k, DayR M z n M1 ∧ mNext M1 (dDraw z n % pN M1) (dDraw z n / 8 % pL M1 (dDraw z n % pN M1)) k ∧ M' = mSet M1 (dDraw z n % pN M1) (dDraw z n / 8 % pL M1 (dDraw z n % pN M1)) k
theorem DayR.inj {M : PRG} {z : Nat} : ∀ {n : Nat} {M1 M2 : PRG}, DayR M z n M1 → DayR M z n M2 → M1 = M2
  | 0, _, _, h1, h2 => h1.trans h2.symm
  | n + 1, _, _, ⟨A, k, a1, a2, a3⟩, ⟨B, j, b1, b2, b3⟩ => by
    have e := DayR.inj a1 b1
    subst e
    have e2 := a2.inj b2
    subst e2
    rw [a3, b3]
theorem mNext.ok {M : PRG} {f pl k : Nat} (hP : PV M) (h : mNext M f pl k) : PV (mSet M f pl k) := by
  obtain ⟨s, a1, a2, a3, a4, a5⟩ := h
  exact mSet_ok hP a4 (by rw [a3]; exact Nat.mod_lt _ (by omega))
/-- a row of the reference's table that comes to a value -/
noncomputable def vRow (M : PRG) (K f q : Nat) : Nat := by
  classical exact if mIs 0 (pA M f) (q / 25) (q / 5 % 5) (q % 5) ∧ mTab 0 M K f (mIx 0 q) ≠ 4 then 1 else 0
theorem vRow_1 {M : PRG} {K f q : Nat} (h : mIs 0 (pA M f) (q / 25) (q / 5 % 5) (q % 5) ∧ mTab 0 M K f (mIx 0 q) ≠ 4) : vRow M K f q = 1 := by unfold vRow; exact if_pos h
theorem vRow_0 {M : PRG} {K f q : Nat} (h : ¬ (mIs 0 (pA M f) (q / 25) (q / 5 % 5) (q % 5) ∧ mTab 0 M K f (mIx 0 q) ≠ 4)) : vRow M K f q = 0 := by unfold vRow; exact if_neg h
theorem vRow_le {M : PRG} {K f q : Nat} : vRow M K f q ≤ 1 := by unfold vRow; split <;> omega
theorem vRow_gt {M : PRG} {gt : Nat → Int32} {K f q : Nat} (hT : RT 0 M gt (mTab 0 M K)) (hf : f < pN M) (hq : q < 125) : ((gt (500 * 0 + 125 * f + q)).toInt = 4 → vRow M K f q = 0) ∧ ((gt (500 * 0 + 125 * f + q)).toInt ≠ 4 → vRow M K f q = 1) := by
  have h := hT f q hf hq
  refine ⟨fun e => vRow_0 (fun z => z.2 (by have := h.1 z.1; omega)), fun e => vRow_1 ⟨?_, ?_⟩⟩
  · exact Classical.byContradiction fun z => e (by rw [h.2 z]; rfl)
  · intro z
    by_cases y : mIs 0 (pA M f) (q / 25) (q / 5 % 5) (q % 5)
    · exact e (by rw [h.1 y, z]; rfl)
    · exact e (by rw [h.2 y]; rfl)
noncomputable def vAll (M : PRG) (K : Nat) : Nat := sm (fun f => sm (fun q => vRow M K f q) 125) (pN M)
noncomputable def dSt (M : PRG) (w f : Nat) : Nat := pop (mBits (mStrictF (wU (w + 1)) M f) (pA M f))
def DayN (M : PRG) (w : Nat) (r : Int) : Prop := (w < 2 ∧ r = ((sm (dSt M w) (pN M) : Nat) : Int)) ∨ (w = 2 ∧ ∃ K, IsK 0 M K ∧ r = ((vAll M K : Nat) : Int))
def AnDay (s : ST) (p q k : Int32) (r : Int32) : Prop :=
  (∃ z n w M', p.toInt = ((z : Nat) : Int) ∧ q.toInt = ((n : Nat) : Int) ∧ k.toInt = ((w : Nat) : Int) ∧ z ≤ 9999 ∧ 1 ≤ n ∧ n ≤ 20 ∧ w ≤ 2 ∧ DayR (sM s) z n M' ∧ DayN M' w r.toInt) ∨
  (¬ (0 ≤ p.toInt ∧ p.toInt ≤ 9999 ∧ 1 ≤ q.toInt ∧ q.toInt ≤ 20 ∧ 0 ≤ k.toInt ∧ k.toInt ≤ 2) ∧ r.toInt = -1)

/-- the sign at a place of the text; 0 behind its end -/
def sgn (tx : Nat → Nat) (n i : Nat) : Nat := if i < n then tx i else 0
theorem sgn_le {tx : Nat → Nat} {n i : Nat} (h : ∀ i, i < n → 32 ≤ tx i ∧ tx i ≤ 126) : sgn tx n i ≤ 126 ∧ (i < n → 32 ≤ sgn tx n i) ∧ (n ≤ i → sgn tx n i = 0) := by
  unfold sgn
  split
  · rename_i q; have := h i q; omega
  · omega
def dgt (c : Nat) : Prop := 48 ≤ c ∧ c ≤ 51
/-- so many digits stand from i on (four at most) -/
def NumE (S : Nat → Nat) (i c : Nat) : Prop := c ≤ 4 ∧ (∀ j, j < c → dgt (S (i + j))) ∧ (c = 4 ∨ ¬ dgt (S (i + c)))
theorem NumE.inj {S : Nat → Nat} {i c d : Nat} (h1 : NumE S i c) (h2 : NumE S i d) : c = d := by
  obtain ⟨a1, a2, a3⟩ := h1
  obtain ⟨b1, b2, b3⟩ := h2
  rcases Nat.lt_trichotomy c d with q | q | q
  · rcases a3 with z | z
    · omega
    · exact absurd (b2 c q) z
  · exact q
  · rcases b3 with z | z
    · omega
    · exact absurd (a2 d q) z
/-- p letters of a body read, m parts are missing -/
def BodyR (S : Nat → Nat) (N : Nat) (A : Nat → Nat) (f i : Nat) : Nat → Nat → Prop
  | 0, m => m = 1
  | p + 1, m => ∃ m0, BodyR S N A f i p m0 ∧ 0 < m0 ∧ mNum ((S (i + p) : Nat) : Int) < 14 ∧ mMay N A f (mNum ((S (i + p) : Nat) : Int)) ∧ m = m0 + mParts N A (mNum ((S (i + p) : Nat) : Int)) - 1
theorem BodyR.inj {S : Nat → Nat} {N : Nat} {A : Nat → Nat} {f i : Nat} : ∀ {p m m' : Nat}, BodyR S N A f i p m → BodyR S N A f i p m' → m = m'
  | 0, _, _, h1, h2 => Eq.trans (show _ = 1 from h1) (show _ = 1 from h2).symm
  | p + 1, _, _, ⟨a, a1, _, _, _, a5⟩, ⟨b, b1, _, _, _, b5⟩ => by
    have e := BodyR.inj a1 b1
    subst e
    rw [a5, b5]
theorem BodyR.le {S : Nat → Nat} {N : Nat} {A : Nat → Nat} {f i p : Nat} : ∀ {j m : Nat}, BodyR S N A f i (p + (j + 1)) m → ∃ m0, BodyR S N A f i p m0 ∧ 0 < m0 ∧ mNum ((S (i + p) : Nat) : Int) < 14 ∧ mMay N A f (mNum ((S (i + p) : Nat) : Int))
  | 0, _, ⟨a, a1, a2, a3, a4, _⟩ => ⟨a, a1, a2, a3, a4⟩
  | j + 1, _, ⟨a, a1, _⟩ => BodyR.le (j := j) a1
theorem BodyR.uni {S : Nat → Nat} {N : Nat} {A : Nat → Nat} {f i p q : Nat} (h1 : BodyR S N A f i p 0) (h2 : BodyR S N A f i q 0) : p = q := by
  rcases Nat.lt_trichotomy p q with z | z | z
  · obtain ⟨j, rfl⟩ : ∃ j, q = p + (j + 1) := ⟨q - p - 1, by omega⟩
    obtain ⟨m0, b1, b2, _⟩ := BodyR.le h2
    have := BodyR.inj h1 b1
    omega
  · exact z
  · obtain ⟨j, rfl⟩ : ∃ j, p = q + (j + 1) := ⟨p - q - 1, by omega⟩
    obtain ⟨m0, b1, b2, _⟩ := BodyR.le h1
    have := BodyR.inj h2 b1
    omega
theorem BodyR.stop {S : Nat → Nat} {N : Nat} {A : Nat → Nat} {f i p m q : Nat} (h1 : BodyR S N A f i p m) (hm : 0 < m) (hs : p = 24 ∨ ¬ (mNum ((S (i + p) : Nat) : Int) < 14 ∧ mMay N A f (mNum ((S (i + p) : Nat) : Int)))) (hq : q ≤ 24) : ¬ BodyR S N A f i q 0 := by
  intro h2
  rcases Nat.lt_trichotomy p q with z | z | z
  · obtain ⟨j, rfl⟩ : ∃ j, q = p + (j + 1) := ⟨q - p - 1, by omega⟩
    obtain ⟨m0, b1, b2, b3, b4⟩ := BodyR.le h2
    rcases hs with y | y
    · omega
    · exact y ⟨b3, b4⟩
  · subst z
    have := BodyR.inj h1 h2
    omega
  · obtain ⟨j, rfl⟩ : ∃ j, p = q + (j + 1) := ⟨p - q - 1, by omega⟩
    obtain ⟨m0, b1, b2, _⟩ := BodyR.le h1
    have := BodyR.inj h2 b1
    omega
theorem BodyR.ub {S : Nat → Nat} {N : Nat} {A : Nat → Nat} {f i : Nat} (hA : ∀ i, i < N → A i ≤ 3) : ∀ {p m : Nat}, BodyR S N A f i p m → m ≤ 1 + 2 * p
  | 0, _, h => by have : _ = 1 := h; omega
  | p + 1, _, ⟨a, a1, _, _, _, a5⟩ => by
    have h1 := BodyR.ub hA a1
    have h2 := mParts_le (k := mNum ((S (i + p) : Nat) : Int)) hA
    omega
theorem nm_up {i c : Nat} {S : Nat → Nat} {ga gz : Nat → Int32} {x : Int32} (h : ∀ j, j < c → (ga j).toInt = ((S (i + j) - 48 : Nat) : Int)) (hx : x.toInt = ((S (i + c) - 48 : Nat) : Int)) (e : upd ga c x = gz) : ∀ j, j < c + 1 → (gz j).toInt = ((S (i + j) - 48 : Nat) : Int) := by
  subst e
  intro j hj
  by_cases q : j = c
  · rw [q, pk_us]; exact hx
  · rw [pk_un q]; exact h j (by omega)
theorem bd_up {i f p : Nat} {S : Nat → Nat} {gB gB1 gz : Nat → Int32} {x : Int32} (h : (∀ j, j < p → (gB1 (24 * f + j)).toInt = ((S (i + j) : Nat) : Int)) ∧ ∀ q, (q < 24 * f ∨ 24 * f + 24 ≤ q) → gB1 q = gB q) (hp : p < 24) (hx : x.toInt = ((S (i + p) : Nat) : Int)) (e : upd gB1 (24 * f + p) x = gz) : (∀ j, j < p + 1 → (gz (24 * f + j)).toInt = ((S (i + j) : Nat) : Int)) ∧ ∀ q, (q < 24 * f ∨ 24 * f + 24 ≤ q) → gz q = gB q := by
  subst e
  refine ⟨fun j hj => ?_, fun q hq => by rw [pk_un (by omega)]; exact h.2 q hq⟩
  by_cases q : j = p
  · rw [q, pk_us]; exact hx
  · rw [pk_un (by omega)]; exact h.1 j (by omega)

theorem sgn_in {tx : Nat → Nat} {n i c : Nat} (h : sgn tx n i = c) (hc : 0 < c) : i < n := by
  unfold sgn at h
  split at h
  · assumption
  · omega
/-- behind an f: a function's text -/
def FnOk (S : Nat → Nat) (i : Nat) (M : PRG) (mb p9 : Nat) : Prop := mb < pN M ∧ dgt (S i) ∧ S (i + 1) = 44 ∧ p9 ≤ 24 ∧ BodyR S (pN M) (pA M) mb (i + 1 + 1) p9 0 ∧ S (i + 1 + 1 + p9) = 59
def mFn (S : Nat → Nat) (M : PRG) (mb i p9 : Nat) : PRG := (pN M, pA M, fun x => if x = mb then S i - 48 else pK M x, fun x => if x = mb then p9 else pL M x, fun x j => if x = mb then mNum ((S (i + 1 + 1 + j) : Nat) : Int) else pB M x j)
/-- the functions told so far, mb of them whole -/
def RSp (M : PRG) (mb : Nat) (nm : Int32) (ga gk gl gB : Nat → Int32) : Prop :=
  nm.toInt = ((pN M : Nat) : Int) ∧ mb ≤ pN M ∧ pN M ≤ 4 ∧ (∀ i, i < pN M → (ga i).toInt = (pA M i : Int) ∧ pA M i ≤ 3) ∧ (∀ i, i < mb → (gk i).toInt = ((pK M i : Nat) : Int)) ∧ (∀ i, i < mb → (gl i).toInt = ((pL M i : Nat) : Int) ∧ pL M i ≤ 24) ∧ ∀ i, i < mb → ∀ j, j < pL M i → (gB (24 * i + j)).toInt = ((mCode (pB M i j) : Nat) : Int)
theorem BodyR.ok {S : Nat → Nat} {N : Nat} {A : Nat → Nat} {f i p j : Nat} (h : BodyR S N A f i p 0) (hj : j < p) : ∃ m0, BodyR S N A f i j m0 ∧ 0 < m0 ∧ mNum ((S (i + j) : Nat) : Int) < 14 ∧ mMay N A f (mNum ((S (i + j) : Nat) : Int)) := by
  obtain ⟨x, rfl⟩ : ∃ x, p = j + (x + 1) := ⟨p - j - 1, by omega⟩
  exact BodyR.le h
theorem RSp.fn {S : Nat → Nat} {M : PRG} {mb i p9 : Nat} {nm : Int32} {ga gk gl gB gk2 gl2 gB2 : Nat → Int32} {x : Int32} (R : RSp M mb nm ga gk gl gB) (hF : FnOk S i M mb p9) (e1 : upd gk mb x = gk2) (hx : x.toInt = ((S i - 48 : Nat) : Int)) (h1 : ∀ q, q ≠ mb → gl2 q = gl q) (h2 : ∀ q, (q < 24 * mb ∨ 24 * mb + 24 ≤ q) → gB2 q = gB q) (h3 : (gl2 mb).toInt = ((p9 : Nat) : Int)) (h4 : ∀ j, j < p9 → (gB2 (24 * mb + j)).toInt = ((S (i + 1 + 1 + j) : Nat) : Int)) : RSp (mFn S M mb i p9) (mb + 1) nm ga gk2 gl2 gB2 := by
  obtain ⟨a1, a2, a3, a4, a5, a6, a7⟩ := R
  obtain ⟨f1, f2, f3, f4, f5, f6⟩ := hF
  subst e1
  refine ⟨a1, by show mb + 1 ≤ pN M; omega, a3, a4, fun j hj => ?_, fun j hj => ?_, fun j hj k hk => ?_⟩
  · show (upd gk mb x j).toInt = (((if j = mb then S i - 48 else pK M j) : Nat) : Int)
    by_cases q : j = mb
    · rw [if_pos q, q, pk_us]; exact hx
    · rw [if_neg q, pk_un q]; exact a5 j (by omega)
  · show (gl2 j).toInt = (((if j = mb then p9 else pL M j) : Nat) : Int) ∧ (if j = mb then p9 else pL M j) ≤ 24
    by_cases q : j = mb
    · rw [if_pos q, q]; exact ⟨h3, f4⟩
    · rw [if_neg q, h1 j q]; exact a6 j (by omega)
  · have hk' : k < (if j = mb then p9 else pL M j) := hk
    show (gB2 (24 * j + k)).toInt = ((mCode (if j = mb then mNum ((S (i + 1 + 1 + k) : Nat) : Int) else pB M j k) : Nat) : Int)
    by_cases q : j = mb
    · rw [if_pos q] at hk' ⊢
      obtain ⟨m0, _, _, b3, _⟩ := f5.ok hk'
      rw [q, h4 k hk', mCode_num b3]
    · rw [if_neg q] at hk' ⊢
      have := (a6 j (by omega)).2
      rw [h2 _ (by omega)]; exact a7 j (by omega) k hk'
abbrev PS : Type := Nat × PRG × Nat
/-- one item read -/
def ItemOk (S : Nat → Nat) (s s' : PS) : Prop :=
  (S s.1 = 110 ∧ s.1 = 0 ∧ ∃ c, NumE S (s.1 + 1) c ∧ 0 < c ∧ S (s.1 + 1 + c) = 59 ∧ s' = (s.1 + 1 + c + 1, (c, fun j => S (s.1 + 1 + j) - 48, pK s.2.1, pL s.2.1, pB s.2.1), s.2.2)) ∨
  (S s.1 = 102 ∧ ∃ p9, FnOk S (s.1 + 1) s.2.1 s.2.2 p9 ∧ s' = (s.1 + 1 + 1 + 1 + p9 + 1, mFn S s.2.1 s.2.2 (s.1 + 1) p9, s.2.2 + 1))
theorem ItemOk.inj {S : Nat → Nat} {s a b : PS} (h1 : ItemOk S s a) (h2 : ItemOk S s b) : a = b := by
  rcases h1 with ⟨x1, x2, c, x3, x4, x5, x6⟩ | ⟨x1, p, x2, x3⟩ <;> rcases h2 with ⟨y1, y2, d, y3, y4, y5, y6⟩ | ⟨y1, q, y2, y3⟩
  · have e := x3.inj y3
    subst e
    rw [x6, y6]
  · omega
  · omega
  · have e := x2.2.2.2.2.1.uni y2.2.2.2.2.1
    subst e
    rw [x3, y3]
def ps0 : PS := (0, (0, fun _ => 0, fun _ => 0, fun _ => 0, fun _ _ => 0), 0)
def RunR (S : Nat → Nat) (n : Nat) : Nat → PS → Prop
  | 0, s => s = ps0
  | k + 1, s => ∃ s0, RunR S n k s0 ∧ s0.1 < n ∧ ItemOk S s0 s
theorem RunR.inj {S : Nat → Nat} {n : Nat} : ∀ {k : Nat} {a b : PS}, RunR S n k a → RunR S n k b → a = b
  | 0, _, _, h1, h2 => Eq.trans (show _ = ps0 from h1) (show _ = ps0 from h2).symm
  | k + 1, _, _, ⟨x, x1, x2, x3⟩, ⟨y, y1, y2, y3⟩ => by
    have e := RunR.inj x1 y1
    subst e
    exact x3.inj y3
theorem RunR.le {S : Nat → Nat} {n k : Nat} : ∀ {j : Nat} {b : PS}, RunR S n (k + (j + 1)) b → ∃ a a', RunR S n k a ∧ a.1 < n ∧ ItemOk S a a'
  | 0, b, ⟨x, x1, x2, x3⟩ => ⟨x, b, x1, x2, x3⟩
  | j + 1, _, ⟨_, x1, _⟩ => RunR.le (j := j) x1
/-- a run's end: all is read, or an item is not so -/
def RunE (S : Nat → Nat) (n : Nat) (s : PS) : Prop := (∃ k, RunR S n k s) ∧ (n ≤ s.1 ∨ ¬ ∃ s', ItemOk S s s')
theorem RunE.inj {S : Nat → Nat} {n : Nat} {a b : PS} (h1 : RunE S n a) (h2 : RunE S n b) : a = b := by
  obtain ⟨⟨k, x1⟩, x2⟩ := h1
  obtain ⟨⟨j, y1⟩, y2⟩ := h2
  rcases Nat.lt_trichotomy k j with z | z | z
  · obtain ⟨d, rfl⟩ : ∃ d, j = k + (d + 1) := ⟨j - k - 1, by omega⟩
    obtain ⟨c, c', c1, c2, c3⟩ := RunR.le y1
    have e := x1.inj c1
    subst e
    rcases x2 with q | q
    · omega
    · exact absurd ⟨c', c3⟩ q
  · subst z; exact x1.inj y1
  · obtain ⟨d, rfl⟩ : ∃ d, k = j + (d + 1) := ⟨k - j - 1, by omega⟩
    obtain ⟨c, c', c1, c2, c3⟩ := RunR.le x1
    have e := y1.inj c1
    subst e
    rcases y2 with q | q
    · omega
    · exact absurd ⟨c', c3⟩ q
theorem ItemOk.at {tx : Nat → Nat} {n : Nat} {s s' : PS} (h : ItemOk (sgn tx n) s s') : s.1 < s'.1 ∧ s'.1 ≤ n ∧ 0 < s'.1 ∧ 0 < pN s'.2.1 := by
  rcases h with ⟨x1, x2, c, x3, x4, x5, rfl⟩ | ⟨x1, p, x2, rfl⟩
  · have := sgn_in x5 (by omega)
    exact ⟨by show s.1 < s.1 + 1 + c + 1; omega, by show s.1 + 1 + c + 1 ≤ n; omega, by show 0 < s.1 + 1 + c + 1; omega, x4⟩
  · have := sgn_in x2.2.2.2.2.2 (by omega)
    exact ⟨by show s.1 < s.1 + 1 + 1 + 1 + p + 1; omega, by show s.1 + 1 + 1 + 1 + p + 1 ≤ n; omega, by show 0 < s.1 + 1 + 1 + 1 + p + 1; omega, by show 0 < pN s.2.1; have := x2.1; omega⟩
/-- what a call of fault() answers -/
def AnFault (s : ST) (r : Int32) : Prop := ∃ t, RunE (sgn (sT s) (sL s)) (sL s) t ∧ ((sL s ≤ t.1 ∧ r.toInt = -4) ∨ (t.1 < sL s ∧ r.toInt = ((t.1 : Nat) : Int)))
def AnLay (s : ST) (r : Int32) (s' : ST) : Prop := ∃ t, RunE (sgn (sT s) (sL s)) (sL s) t ∧ ((sL s ≤ t.1 ∧ 0 < pN t.2.1 ∧ t.2.2 = pN t.2.1 ∧ r.toInt = ((pN t.2.1 : Nat) : Int) ∧ s' = (t.2.1, (0, sUs s), (0, sVs s), s.2.2.2)) ∨ (¬ (sL s ≤ t.1 ∧ 0 < pN t.2.1 ∧ t.2.2 = pN t.2.1) ∧ r.toInt = -2 ∧ s' = s))
theorem rsp0 {nm : Int32} {ga gk gl gB : Nat → Int32} (h : nm.toInt = 0) : RSp ps0.2.1 0 nm ga gk gl gB :=
  ⟨h, Nat.le_refl _, by decide, fun i hi => absurd hi (Nat.not_lt_zero _), fun i hi => absurd hi (Nat.not_lt_zero _), fun i hi => absurd hi (Nat.not_lt_zero _), fun i hi => absurd hi (Nat.not_lt_zero _)⟩

theorem rsp_rs {M : PRG} {nm : Int32} {ga gk gl gB : Nat → Int32} (R : RSp M (pN M) nm ga gk gl gB) : RS M nm ga gk gl gB :=
  ⟨R.1, fun i hi => (R.2.2.2.1 i hi).1, fun i hi => R.2.2.2.2.1 i hi, fun i hi => (R.2.2.2.2.2.1 i hi).1, fun i hi j hj => R.2.2.2.2.2.2 i hi j hj⟩
/-- what stands behind items read -/
def RunOk (s : PS) : Prop := s.2.2 ≤ pN s.2.1 ∧ pN s.2.1 ≤ 4 ∧ (s.1 = 0 → s.2.2 = 0) ∧ (∀ f, f < pN s.2.1 → pA s.2.1 f ≤ 3) ∧ ∀ f, f < s.2.2 → pK s.2.1 f ≤ 3 ∧ 1 ≤ pL s.2.1 f ∧ pL s.2.1 f ≤ 24 ∧ (∀ p, p < pL s.2.1 f → pB s.2.1 f p < 14 ∧ mMay (pN s.2.1) (pA s.2.1) f (pB s.2.1 f p) ∧ 1 ≤ mDep s.2.1 f p) ∧ mDep s.2.1 f (pL s.2.1 f) = 0
theorem mDep_cg {M M' : PRG} {f : Nat} (h1 : pN M' = pN M) (h2 : pA M' = pA M) (h3 : ∀ p, pB M' f p = pB M f p) : ∀ p, mDep M' f p = mDep M f p
  | 0 => rfl
  | p + 1 => by
    show mDep M' f p + mParts (pN M') (pA M') (pB M' f p) - 1 = mDep M f p + mParts (pN M) (pA M) (pB M f p) - 1
    rw [mDep_cg h1 h2 h3 p, h1, h2, h3 p]
theorem mDep_body {S : Nat → Nat} {M : PRG} {mb i p9 : Nat} : ∀ {p m : Nat}, BodyR S (pN M) (pA M) mb (i + 1 + 1) p m → mDep (mFn S M mb i p9) mb p = m
  | 0, _, h => Eq.symm (show _ = 1 from h)
  | p + 1, m, ⟨a, a1, _, _, _, a5⟩ => by
    have e := mDep_body (p9 := p9) a1
    show mDep (mFn S M mb i p9) mb p + mParts (pN M) (pA M) (if mb = mb then mNum ((S (i + 1 + 1 + p) : Nat) : Int) else pB M mb p) - 1 = m
    rw [if_pos rfl, e, a5]
theorem RunOk.step {S : Nat → Nat} {s s' : PS} (h : RunOk s) (hI : ItemOk S s s') : RunOk s' := by
  obtain ⟨a1, a2, a3, a4, a5⟩ := h
  rcases hI with ⟨x1, x2, c, x3, x4, x5, rfl⟩ | ⟨x1, p9, x2, rfl⟩
  · have hz := a3 x2
    refine ⟨by show s.2.2 ≤ c; omega, x3.1, fun _ => hz, fun f hf => ?_, fun f hf => ?_⟩
    · have hd := x3.2.1 f hf
      unfold dgt at hd
      show S (s.1 + 1 + f) - 48 ≤ 3
      omega
    · have hf2 : f < s.2.2 := hf
      omega
  · obtain ⟨f1, f2, f3, f4, f5, f6⟩ := x2
    unfold dgt at f2
    refine ⟨by show s.2.2 + 1 ≤ pN s.2.1; omega, a2, fun q => by have q2 : s.1 + 1 + 1 + 1 + p9 + 1 = 0 := q; omega, a4, fun f hf => ?_⟩
    have hf2 : f < s.2.2 + 1 := hf
    by_cases q : f = s.2.2
    · subst q
      have eK : pK (mFn S s.2.1 s.2.2 (s.1 + 1) p9) s.2.2 = S (s.1 + 1) - 48 := if_pos rfl
      have eL : pL (mFn S s.2.1 s.2.2 (s.1 + 1) p9) s.2.2 = p9 := if_pos rfl
      have eB : ∀ p, pB (mFn S s.2.1 s.2.2 (s.1 + 1) p9) s.2.2 p = mNum ((S (s.1 + 1 + 1 + 1 + p) : Nat) : Int) := fun p => if_pos rfl
      have hp1 : p9 ≠ 0 := fun z => by
        rw [z] at f5
        have : (0 : Nat) = 1 := f5
        omega
      refine ⟨by show pK (mFn S s.2.1 s.2.2 (s.1 + 1) p9) s.2.2 ≤ 3; omega, by show 1 ≤ pL (mFn S s.2.1 s.2.2 (s.1 + 1) p9) s.2.2; omega, by show pL (mFn S s.2.1 s.2.2 (s.1 + 1) p9) s.2.2 ≤ 24; omega, fun p hp => ?_, ?_⟩
      · have hp2 : p < pL (mFn S s.2.1 s.2.2 (s.1 + 1) p9) s.2.2 := hp
        rw [eL] at hp2
        obtain ⟨m0, b1, b2, b3, b4⟩ := f5.ok hp2
        refine ⟨?_, ?_, ?_⟩
        · show pB (mFn S s.2.1 s.2.2 (s.1 + 1) p9) s.2.2 p < 14
          rw [eB]; exact b3
        · show mMay (pN s.2.1) (pA s.2.1) s.2.2 (pB (mFn S s.2.1 s.2.2 (s.1 + 1) p9) s.2.2 p)
          rw [eB]; exact b4
        · show 1 ≤ mDep (mFn S s.2.1 s.2.2 (s.1 + 1) p9) s.2.2 p
          rw [mDep_body b1]; omega
      · show mDep (mFn S s.2.1 s.2.2 (s.1 + 1) p9) s.2.2 (pL (mFn S s.2.1 s.2.2 (s.1 + 1) p9) s.2.2) = 0
        rw [eL, mDep_body f5]
    · have eK : pK (mFn S s.2.1 s.2.2 (s.1 + 1) p9) f = pK s.2.1 f := if_neg q
      have eL : pL (mFn S s.2.1 s.2.2 (s.1 + 1) p9) f = pL s.2.1 f := if_neg q
      have eB : ∀ p, pB (mFn S s.2.1 s.2.2 (s.1 + 1) p9) f p = pB s.2.1 f p := fun p => if_neg q
      have eD : ∀ p, mDep (mFn S s.2.1 s.2.2 (s.1 + 1) p9) f p = mDep s.2.1 f p := mDep_cg rfl rfl eB
      obtain ⟨b1, b2, b3, b4, b5⟩ := a5 f (by omega)
      refine ⟨by show pK (mFn S s.2.1 s.2.2 (s.1 + 1) p9) f ≤ 3; omega, by show 1 ≤ pL (mFn S s.2.1 s.2.2 (s.1 + 1) p9) f; omega, by show pL (mFn S s.2.1 s.2.2 (s.1 + 1) p9) f ≤ 24; omega, fun p hp => ?_, ?_⟩
      · have hp2 : p < pL (mFn S s.2.1 s.2.2 (s.1 + 1) p9) f := hp
        rw [eL] at hp2
        obtain ⟨c1, c2, c3⟩ := b4 p hp2
        refine ⟨?_, ?_, ?_⟩
        · show pB (mFn S s.2.1 s.2.2 (s.1 + 1) p9) f p < 14
          rw [eB]; exact c1
        · show mMay (pN s.2.1) (pA s.2.1) f (pB (mFn S s.2.1 s.2.2 (s.1 + 1) p9) f p)
          rw [eB]; exact c2
        · show 1 ≤ mDep (mFn S s.2.1 s.2.2 (s.1 + 1) p9) f p
          rw [eD]; exact c3
      · show mDep (mFn S s.2.1 s.2.2 (s.1 + 1) p9) f (pL (mFn S s.2.1 s.2.2 (s.1 + 1) p9) f) = 0
        rw [eL, eD]; exact b5
theorem RunR.rok {S : Nat → Nat} {n : Nat} : ∀ {k : Nat} {s : PS}, RunR S n k s → RunOk s
  | 0, s, h => by
    have e : s = ps0 := h
    subst e
    exact ⟨Nat.le_refl _, by decide, fun _ => rfl, fun f hf => absurd hf (Nat.not_lt_zero _), fun f hf => absurd hf (Nat.not_lt_zero _)⟩
  | k + 1, s, ⟨x, x1, x2, x3⟩ => (RunR.rok x1).step x3
theorem run_pv {S : Nat → Nat} {n : Nat} {s : PS} (h : ∃ k, RunR S n k s) (e : s.2.2 = pN s.2.1) (hp : 0 < pN s.2.1) : PV s.2.1 := by
  obtain ⟨k, hk⟩ := h
  obtain ⟨a1, a2, a3, a4, a5⟩ := hk.rok
  refine ⟨by omega, a2, fun f hf => ?_⟩
  obtain ⟨b1, b2, b3, b4, b5⟩ := a5 f (by omega)
  exact ⟨a4 f hf, b1, b2, b3, b4, b5⟩
