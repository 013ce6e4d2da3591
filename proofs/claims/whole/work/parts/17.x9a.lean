/-- the sign of letter k, in their order -/
def mCode (k : Nat) : Nat := [111, 105, 119, 97, 98, 99, 109, 43, 38, 63, 48, 49, 50, 51].getD k 0
theorem mCode_c {k : Nat} (hk : k < 14) : (k = 0 ∧ mCode k = 111) ∨ (k = 1 ∧ mCode k = 105) ∨ (k = 2 ∧ mCode k = 119) ∨ (3 ≤ k ∧ k < 6 ∧ mCode k = 94 + k) ∨ (k = 6 ∧ mCode k = 109) ∨ (k = 7 ∧ mCode k = 43) ∨ (k = 8 ∧ mCode k = 38) ∨ (k = 9 ∧ mCode k = 63) ∨ (10 ≤ k ∧ mCode k = 38 + k) := by
  rcases (show k = 0 ∨ k = 1 ∨ k = 2 ∨ k = 3 ∨ k = 4 ∨ k = 5 ∨ k = 6 ∨ k = 7 ∨ k = 8 ∨ k = 9 ∨ k = 10 ∨ k = 11 ∨ k = 12 ∨ k = 13 by omega) with e | e | e | e | e | e | e | e | e | e | e | e | e | e <;> subst e <;> decide
theorem mCode_inj {a b : Nat} (ha : a < 14) (hb : b < 14) (h : mCode a = mCode b) : a = b := by
  have h1 := mCode_c ha
  have h2 := mCode_c hb
  omega
/-- the letter of a sign, 14 for none -/
def mNum (c : Int) : Nat := if c = 111 then 0 else if c = 105 then 1 else if c = 119 then 2 else if 97 ≤ c ∧ c ≤ 99 then (c - 94).toNat else if c = 109 then 6 else if c = 43 then 7 else if c = 38 then 8 else if c = 63 then 9 else if 48 ≤ c ∧ c ≤ 51 then (c - 38).toNat else 14
theorem mNum_c (c : Int) : (mNum c = 0 ∧ c = 111) ∨ (mNum c = 1 ∧ c = 105) ∨ (mNum c = 2 ∧ c = 119) ∨ (3 ≤ mNum c ∧ mNum c < 6 ∧ c = 94 + mNum c) ∨ (mNum c = 6 ∧ c = 109) ∨ (mNum c = 7 ∧ c = 43) ∨ (mNum c = 8 ∧ c = 38) ∨ (mNum c = 9 ∧ c = 63) ∨ (10 ≤ mNum c ∧ mNum c < 14 ∧ c = 38 + mNum c) ∨ (mNum c = 14 ∧ c ≠ 111 ∧ c ≠ 105 ∧ c ≠ 119 ∧ c ≠ 109 ∧ c ≠ 43 ∧ c ≠ 38 ∧ c ≠ 63 ∧ ¬ (97 ≤ c ∧ c ≤ 99) ∧ ¬ (48 ≤ c ∧ c ≤ 51)) := by
  unfold mNum
  split
  · omega
  split
  · omega
  split
  · omega
  split
  · omega
  split
  · omega
  split
  · omega
  split
  · omega
  split
  · omega
  split <;> omega
theorem mNum_code {k : Nat} (hk : k < 14) : mNum ((mCode k : Nat) : Int) = k := by
  have h1 := mCode_c hk
  have h2 := mNum_c ((mCode k : Nat) : Int)
  omega
theorem mCode_num {c : Int} (h : mNum c < 14) : ((mCode (mNum c) : Nat) : Int) = c := by
  have h1 := mCode_c h
  have h2 := mNum_c c
  omega
/-- the reference at r: the object and its 13 rows of ints -/
def MdA (g : GE) (h : Nat → va_E) (r : Nat) (nm kn um sv sz ra rm : Int32) (ga gk gl gB gt gn gr gp gh gv gs gx gf : Nat → Int32) : Prop :=
  r + 14 ≤ g.2.2.2 ∧ h r = .inr (7, [.int nm, .ref (g.2.2.1 (r + 1)), .ref (g.2.2.1 (r + 2)), .ref (g.2.2.1 (r + 3)), .ref (g.2.2.1 (r + 4)), .ref (g.2.2.1 (r + 5)), .ref (g.2.2.1 (r + 6)), .ref (g.2.2.1 (r + 7)), .int kn, .ref (g.2.2.1 (r + 8)), .ref (g.2.2.1 (r + 9)), .int um, .ref (g.2.2.1 (r + 10)), .int sv, .ref (g.2.2.1 (r + 11)), .ref (g.2.2.1 (r + 12)), .int sz, .int ra, .int rm, .ref (g.2.2.1 (r + 13))]) ∧
  h (r + 1) = .inl (g.2.1 0, 4, .inl ga) ∧ h (r + 2) = .inl (g.2.1 0, 4, .inl gk) ∧ h (r + 3) = .inl (g.2.1 0, 4, .inl gl) ∧ h (r + 4) = .inl (g.2.1 0, 96, .inl gB) ∧ h (r + 5) = .inl (g.2.1 0, 1500, .inl gt) ∧ h (r + 6) = .inl (g.2.1 0, 500, .inl gn) ∧ h (r + 7) = .inl (g.2.1 0, 3, .inl gr) ∧ h (r + 8) = .inl (g.2.1 0, 32, .inl gp) ∧ h (r + 9) = .inl (g.2.1 0, 872, .inl gh) ∧ h (r + 10) = .inl (g.2.1 0, 218, .inl gv) ∧ h (r + 11) = .inl (g.2.1 0, 109, .inl gs) ∧ h (r + 12) = .inl (g.2.1 0, 200, .inl gx) ∧ h (r + 13) = .inl (g.2.1 0, 109, .inl gf)
section MDS
variable {g : GE} {h h' : Nat → va_E} {r : Nat} {nm kn um sv sz ra rm nm' kn' um' sv' sz' ra' rm' : Int32} {ga gk gl gB gt gn gr gp gh gv gs gx gf gz : Nat → Int32}
theorem MdA.c0 (D : MdA g h r nm kn um sv sz ra rm ga gk gl gB gt gn gr gp gh gv gs gx gf) : h r = .inr (7, [.int nm, .ref (g.2.2.1 (r + 1)), .ref (g.2.2.1 (r + 2)), .ref (g.2.2.1 (r + 3)), .ref (g.2.2.1 (r + 4)), .ref (g.2.2.1 (r + 5)), .ref (g.2.2.1 (r + 6)), .ref (g.2.2.1 (r + 7)), .int kn, .ref (g.2.2.1 (r + 8)), .ref (g.2.2.1 (r + 9)), .int um, .ref (g.2.2.1 (r + 10)), .int sv, .ref (g.2.2.1 (r + 11)), .ref (g.2.2.1 (r + 12)), .int sz, .int ra, .int rm, .ref (g.2.2.1 (r + 13))]) := D.2.1
theorem MdA.c1 (D : MdA g h r nm kn um sv sz ra rm ga gk gl gB gt gn gr gp gh gv gs gx gf) : h (r + 1) = .inl (g.2.1 0, 4, .inl ga) := D.2.2.1
theorem MdA.c2 (D : MdA g h r nm kn um sv sz ra rm ga gk gl gB gt gn gr gp gh gv gs gx gf) : h (r + 2) = .inl (g.2.1 0, 4, .inl gk) := D.2.2.2.1
theorem MdA.c3 (D : MdA g h r nm kn um sv sz ra rm ga gk gl gB gt gn gr gp gh gv gs gx gf) : h (r + 3) = .inl (g.2.1 0, 4, .inl gl) := D.2.2.2.2.1
theorem MdA.c4 (D : MdA g h r nm kn um sv sz ra rm ga gk gl gB gt gn gr gp gh gv gs gx gf) : h (r + 4) = .inl (g.2.1 0, 96, .inl gB) := D.2.2.2.2.2.1
theorem MdA.c5 (D : MdA g h r nm kn um sv sz ra rm ga gk gl gB gt gn gr gp gh gv gs gx gf) : h (r + 5) = .inl (g.2.1 0, 1500, .inl gt) := D.2.2.2.2.2.2.1
theorem MdA.c6 (D : MdA g h r nm kn um sv sz ra rm ga gk gl gB gt gn gr gp gh gv gs gx gf) : h (r + 6) = .inl (g.2.1 0, 500, .inl gn) := D.2.2.2.2.2.2.2.1
theorem MdA.c7 (D : MdA g h r nm kn um sv sz ra rm ga gk gl gB gt gn gr gp gh gv gs gx gf) : h (r + 7) = .inl (g.2.1 0, 3, .inl gr) := D.2.2.2.2.2.2.2.2.1
theorem MdA.c8 (D : MdA g h r nm kn um sv sz ra rm ga gk gl gB gt gn gr gp gh gv gs gx gf) : h (r + 8) = .inl (g.2.1 0, 32, .inl gp) := D.2.2.2.2.2.2.2.2.2.1
theorem MdA.c9 (D : MdA g h r nm kn um sv sz ra rm ga gk gl gB gt gn gr gp gh gv gs gx gf) : h (r + 9) = .inl (g.2.1 0, 872, .inl gh) := D.2.2.2.2.2.2.2.2.2.2.1
theorem MdA.c10 (D : MdA g h r nm kn um sv sz ra rm ga gk gl gB gt gn gr gp gh gv gs gx gf) : h (r + 10) = .inl (g.2.1 0, 218, .inl gv) := D.2.2.2.2.2.2.2.2.2.2.2.1
theorem MdA.c11 (D : MdA g h r nm kn um sv sz ra rm ga gk gl gB gt gn gr gp gh gv gs gx gf) : h (r + 11) = .inl (g.2.1 0, 109, .inl gs) := D.2.2.2.2.2.2.2.2.2.2.2.2.1
theorem MdA.c12 (D : MdA g h r nm kn um sv sz ra rm ga gk gl gB gt gn gr gp gh gv gs gx gf) : h (r + 12) = .inl (g.2.1 0, 200, .inl gx) := D.2.2.2.2.2.2.2.2.2.2.2.2.2.1
theorem MdA.c13 (D : MdA g h r nm kn um sv sz ra rm ga gk gl gB gt gn gr gp gh gv gs gx gf) : h (r + 13) = .inl (g.2.1 0, 109, .inl gf) := D.2.2.2.2.2.2.2.2.2.2.2.2.2.2
theorem MdA.fr (D : MdA g h r nm kn um sv sz ra rm ga gk gl gB gt gn gr gp gh gv gs gx gf) (hf : ∀ k, r ≤ k → k < r + 14 → h' k = h k) : MdA g h' r nm kn um sv sz ra rm ga gk gl gB gt gn gr gp gh gv gs gx gf := by
  obtain ⟨a0, b0, b1, b2, b3, b4, b5, b6, b7, b8, b9, b10, b11, b12, b13⟩ := D
  exact ⟨a0, by rw [hf _ (by omega) (by omega)]; exact b0, by rw [hf _ (by omega) (by omega)]; exact b1, by rw [hf _ (by omega) (by omega)]; exact b2, by rw [hf _ (by omega) (by omega)]; exact b3, by rw [hf _ (by omega) (by omega)]; exact b4, by rw [hf _ (by omega) (by omega)]; exact b5, by rw [hf _ (by omega) (by omega)]; exact b6, by rw [hf _ (by omega) (by omega)]; exact b7, by rw [hf _ (by omega) (by omega)]; exact b8, by rw [hf _ (by omega) (by omega)]; exact b9, by rw [hf _ (by omega) (by omega)]; exact b10, by rw [hf _ (by omega) (by omega)]; exact b11, by rw [hf _ (by omega) (by omega)]; exact b12, by rw [hf _ (by omega) (by omega)]; exact b13⟩
theorem MdA.s0 (D : MdA g h r nm kn um sv sz ra rm ga gk gl gB gt gn gr gp gh gv gs gx gf) (e : h' = va_up h r (.inr (7, [.int nm', .ref (g.2.2.1 (r + 1)), .ref (g.2.2.1 (r + 2)), .ref (g.2.2.1 (r + 3)), .ref (g.2.2.1 (r + 4)), .ref (g.2.2.1 (r + 5)), .ref (g.2.2.1 (r + 6)), .ref (g.2.2.1 (r + 7)), .int kn', .ref (g.2.2.1 (r + 8)), .ref (g.2.2.1 (r + 9)), .int um', .ref (g.2.2.1 (r + 10)), .int sv', .ref (g.2.2.1 (r + 11)), .ref (g.2.2.1 (r + 12)), .int sz', .int ra', .int rm', .ref (g.2.2.1 (r + 13))]))) : MdA g h' r nm' kn' um' sv' sz' ra' rm' ga gk gl gB gt gn gr gp gh gv gs gx gf := by
  obtain ⟨a0, b0, b1, b2, b3, b4, b5, b6, b7, b8, b9, b10, b11, b12, b13⟩ := D
  subst e
  exact ⟨a0, va_up_self _ _ _, by rw [va_up_ne _ _ (by omega)]; exact b1, by rw [va_up_ne _ _ (by omega)]; exact b2, by rw [va_up_ne _ _ (by omega)]; exact b3, by rw [va_up_ne _ _ (by omega)]; exact b4, by rw [va_up_ne _ _ (by omega)]; exact b5, by rw [va_up_ne _ _ (by omega)]; exact b6, by rw [va_up_ne _ _ (by omega)]; exact b7, by rw [va_up_ne _ _ (by omega)]; exact b8, by rw [va_up_ne _ _ (by omega)]; exact b9, by rw [va_up_ne _ _ (by omega)]; exact b10, by rw [va_up_ne _ _ (by omega)]; exact b11, by rw [va_up_ne _ _ (by omega)]; exact b12, by rw [va_up_ne _ _ (by omega)]; exact b13⟩
theorem MdA.s1 (D : MdA g h r nm kn um sv sz ra rm ga gk gl gB gt gn gr gp gh gv gs gx gf) (e : h' = va_up h (r + 1) (.inl (g.2.1 0, 4, .inl gz))) : MdA g h' r nm kn um sv sz ra rm gz gk gl gB gt gn gr gp gh gv gs gx gf := by
  obtain ⟨a0, b0, b1, b2, b3, b4, b5, b6, b7, b8, b9, b10, b11, b12, b13⟩ := D
  subst e
  exact ⟨a0, by rw [va_up_ne _ _ (by omega)]; exact b0, va_up_self _ _ _, by rw [va_up_ne _ _ (by omega)]; exact b2, by rw [va_up_ne _ _ (by omega)]; exact b3, by rw [va_up_ne _ _ (by omega)]; exact b4, by rw [va_up_ne _ _ (by omega)]; exact b5, by rw [va_up_ne _ _ (by omega)]; exact b6, by rw [va_up_ne _ _ (by omega)]; exact b7, by rw [va_up_ne _ _ (by omega)]; exact b8, by rw [va_up_ne _ _ (by omega)]; exact b9, by rw [va_up_ne _ _ (by omega)]; exact b10, by rw [va_up_ne _ _ (by omega)]; exact b11, by rw [va_up_ne _ _ (by omega)]; exact b12, by rw [va_up_ne _ _ (by omega)]; exact b13⟩
theorem MdA.s2 (D : MdA g h r nm kn um sv sz ra rm ga gk gl gB gt gn gr gp gh gv gs gx gf) (e : h' = va_up h (r + 2) (.inl (g.2.1 0, 4, .inl gz))) : MdA g h' r nm kn um sv sz ra rm ga gz gl gB gt gn gr gp gh gv gs gx gf := by
  obtain ⟨a0, b0, b1, b2, b3, b4, b5, b6, b7, b8, b9, b10, b11, b12, b13⟩ := D
  subst e
  exact ⟨a0, by rw [va_up_ne _ _ (by omega)]; exact b0, by rw [va_up_ne _ _ (by omega)]; exact b1, va_up_self _ _ _, by rw [va_up_ne _ _ (by omega)]; exact b3, by rw [va_up_ne _ _ (by omega)]; exact b4, by rw [va_up_ne _ _ (by omega)]; exact b5, by rw [va_up_ne _ _ (by omega)]; exact b6, by rw [va_up_ne _ _ (by omega)]; exact b7, by rw [va_up_ne _ _ (by omega)]; exact b8, by rw [va_up_ne _ _ (by omega)]; exact b9, by rw [va_up_ne _ _ (by omega)]; exact b10, by rw [va_up_ne _ _ (by omega)]; exact b11, by rw [va_up_ne _ _ (by omega)]; exact b12, by rw [va_up_ne _ _ (by omega)]; exact b13⟩
theorem MdA.s3 (D : MdA g h r nm kn um sv sz ra rm ga gk gl gB gt gn gr gp gh gv gs gx gf) (e : h' = va_up h (r + 3) (.inl (g.2.1 0, 4, .inl gz))) : MdA g h' r nm kn um sv sz ra rm ga gk gz gB gt gn gr gp gh gv gs gx gf := by
  obtain ⟨a0, b0, b1, b2, b3, b4, b5, b6, b7, b8, b9, b10, b11, b12, b13⟩ := D
  subst e
  exact ⟨a0, by rw [va_up_ne _ _ (by omega)]; exact b0, by rw [va_up_ne _ _ (by omega)]; exact b1, by rw [va_up_ne _ _ (by omega)]; exact b2, va_up_self _ _ _, by rw [va_up_ne _ _ (by omega)]; exact b4, by rw [va_up_ne _ _ (by omega)]; exact b5, by rw [va_up_ne _ _ (by omega)]; exact b6, by rw [va_up_ne _ _ (by omega)]; exact b7, by rw [va_up_ne _ _ (by omega)]; exact b8, by rw [va_up_ne _ _ (by omega)]; exact b9, by rw [va_up_ne _ _ (by omega)]; exact b10, by rw [va_up_ne _ _ (by omega)]; exact b11, by rw [va_up_ne _ _ (by omega)]; exact b12, by rw [va_up_ne _ _ (by omega)]; exact b13⟩
theorem MdA.s4 (D : MdA g h r nm kn um sv sz ra rm ga gk gl gB gt gn gr gp gh gv gs gx gf) (e : h' = va_up h (r + 4) (.inl (g.2.1 0, 96, .inl gz))) : MdA g h' r nm kn um sv sz ra rm ga gk gl gz gt gn gr gp gh gv gs gx gf := by
  obtain ⟨a0, b0, b1, b2, b3, b4, b5, b6, b7, b8, b9, b10, b11, b12, b13⟩ := D
  subst e
  exact ⟨a0, by rw [va_up_ne _ _ (by omega)]; exact b0, by rw [va_up_ne _ _ (by omega)]; exact b1, by rw [va_up_ne _ _ (by omega)]; exact b2, by rw [va_up_ne _ _ (by omega)]; exact b3, va_up_self _ _ _, by rw [va_up_ne _ _ (by omega)]; exact b5, by rw [va_up_ne _ _ (by omega)]; exact b6, by rw [va_up_ne _ _ (by omega)]; exact b7, by rw [va_up_ne _ _ (by omega)]; exact b8, by rw [va_up_ne _ _ (by omega)]; exact b9, by rw [va_up_ne _ _ (by omega)]; exact b10, by rw [va_up_ne _ _ (by omega)]; exact b11, by rw [va_up_ne _ _ (by omega)]; exact b12, by rw [va_up_ne _ _ (by omega)]; exact b13⟩
theorem MdA.s5 (D : MdA g h r nm kn um sv sz ra rm ga gk gl gB gt gn gr gp gh gv gs gx gf) (e : h' = va_up h (r + 5) (.inl (g.2.1 0, 1500, .inl gz))) : MdA g h' r nm kn um sv sz ra rm ga gk gl gB gz gn gr gp gh gv gs gx gf := by
  obtain ⟨a0, b0, b1, b2, b3, b4, b5, b6, b7, b8, b9, b10, b11, b12, b13⟩ := D
  subst e
  exact ⟨a0, by rw [va_up_ne _ _ (by omega)]; exact b0, by rw [va_up_ne _ _ (by omega)]; exact b1, by rw [va_up_ne _ _ (by omega)]; exact b2, by rw [va_up_ne _ _ (by omega)]; exact b3, by rw [va_up_ne _ _ (by omega)]; exact b4, va_up_self _ _ _, by rw [va_up_ne _ _ (by omega)]; exact b6, by rw [va_up_ne _ _ (by omega)]; exact b7, by rw [va_up_ne _ _ (by omega)]; exact b8, by rw [va_up_ne _ _ (by omega)]; exact b9, by rw [va_up_ne _ _ (by omega)]; exact b10, by rw [va_up_ne _ _ (by omega)]; exact b11, by rw [va_up_ne _ _ (by omega)]; exact b12, by rw [va_up_ne _ _ (by omega)]; exact b13⟩
theorem MdA.s6 (D : MdA g h r nm kn um sv sz ra rm ga gk gl gB gt gn gr gp gh gv gs gx gf) (e : h' = va_up h (r + 6) (.inl (g.2.1 0, 500, .inl gz))) : MdA g h' r nm kn um sv sz ra rm ga gk gl gB gt gz gr gp gh gv gs gx gf := by
  obtain ⟨a0, b0, b1, b2, b3, b4, b5, b6, b7, b8, b9, b10, b11, b12, b13⟩ := D
  subst e
  exact ⟨a0, by rw [va_up_ne _ _ (by omega)]; exact b0, by rw [va_up_ne _ _ (by omega)]; exact b1, by rw [va_up_ne _ _ (by omega)]; exact b2, by rw [va_up_ne _ _ (by omega)]; exact b3, by rw [va_up_ne _ _ (by omega)]; exact b4, by rw [va_up_ne _ _ (by omega)]; exact b5, va_up_self _ _ _, by rw [va_up_ne _ _ (by omega)]; exact b7, by rw [va_up_ne _ _ (by omega)]; exact b8, by rw [va_up_ne _ _ (by omega)]; exact b9, by rw [va_up_ne _ _ (by omega)]; exact b10, by rw [va_up_ne _ _ (by omega)]; exact b11, by rw [va_up_ne _ _ (by omega)]; exact b12, by rw [va_up_ne _ _ (by omega)]; exact b13⟩
theorem MdA.s7 (D : MdA g h r nm kn um sv sz ra rm ga gk gl gB gt gn gr gp gh gv gs gx gf) (e : h' = va_up h (r + 7) (.inl (g.2.1 0, 3, .inl gz))) : MdA g h' r nm kn um sv sz ra rm ga gk gl gB gt gn gz gp gh gv gs gx gf := by
  obtain ⟨a0, b0, b1, b2, b3, b4, b5, b6, b7, b8, b9, b10, b11, b12, b13⟩ := D
  subst e
  exact ⟨a0, by rw [va_up_ne _ _ (by omega)]; exact b0, by rw [va_up_ne _ _ (by omega)]; exact b1, by rw [va_up_ne _ _ (by omega)]; exact b2, by rw [va_up_ne _ _ (by omega)]; exact b3, by rw [va_up_ne _ _ (by omega)]; exact b4, by rw [va_up_ne _ _ (by omega)]; exact b5, by rw [va_up_ne _ _ (by omega)]; exact b6, va_up_self _ _ _, by rw [va_up_ne _ _ (by omega)]; exact b8, by rw [va_up_ne _ _ (by omega)]; exact b9, by rw [va_up_ne _ _ (by omega)]; exact b10, by rw [va_up_ne _ _ (by omega)]; exact b11, by rw [va_up_ne _ _ (by omega)]; exact b12, by rw [va_up_ne _ _ (by omega)]; exact b13⟩
theorem MdA.s8 (D : MdA g h r nm kn um sv sz ra rm ga gk gl gB gt gn gr gp gh gv gs gx gf) (e : h' = va_up h (r + 8) (.inl (g.2.1 0, 32, .inl gz))) : MdA g h' r nm kn um sv sz ra rm ga gk gl gB gt gn gr gz gh gv gs gx gf := by
  obtain ⟨a0, b0, b1, b2, b3, b4, b5, b6, b7, b8, b9, b10, b11, b12, b13⟩ := D
  subst e
  exact ⟨a0, by rw [va_up_ne _ _ (by omega)]; exact b0, by rw [va_up_ne _ _ (by omega)]; exact b1, by rw [va_up_ne _ _ (by omega)]; exact b2, by rw [va_up_ne _ _ (by omega)]; exact b3, by rw [va_up_ne _ _ (by omega)]; exact b4, by rw [va_up_ne _ _ (by omega)]; exact b5, by rw [va_up_ne _ _ (by omega)]; exact b6, by rw [va_up_ne _ _ (by omega)]; exact b7, va_up_self _ _ _, by rw [va_up_ne _ _ (by omega)]; exact b9, by rw [va_up_ne _ _ (by omega)]; exact b10, by rw [va_up_ne _ _ (by omega)]; exact b11, by rw [va_up_ne _ _ (by omega)]; exact b12, by rw [va_up_ne _ _ (by omega)]; exact b13⟩
theorem MdA.s9 (D : MdA g h r nm kn um sv sz ra rm ga gk gl gB gt gn gr gp gh gv gs gx gf) (e : h' = va_up h (r + 9) (.inl (g.2.1 0, 872, .inl gz))) : MdA g h' r nm kn um sv sz ra rm ga gk gl gB gt gn gr gp gz gv gs gx gf := by
  obtain ⟨a0, b0, b1, b2, b3, b4, b5, b6, b7, b8, b9, b10, b11, b12, b13⟩ := D
  subst e
  exact ⟨a0, by rw [va_up_ne _ _ (by omega)]; exact b0, by rw [va_up_ne _ _ (by omega)]; exact b1, by rw [va_up_ne _ _ (by omega)]; exact b2, by rw [va_up_ne _ _ (by omega)]; exact b3, by rw [va_up_ne _ _ (by omega)]; exact b4, by rw [va_up_ne _ _ (by omega)]; exact b5, by rw [va_up_ne _ _ (by omega)]; exact b6, by rw [va_up_ne _ _ (by omega)]; exact b7, by rw [va_up_ne _ _ (by omega)]; exact b8, va_up_self _ _ _, by rw [va_up_ne _ _ (by omega)]; exact b10, by rw [va_up_ne _ _ (by omega)]; exact b11, by rw [va_up_ne _ _ (by omega)]; exact b12, by rw [va_up_ne _ _ (by omega)]; exact b13⟩
theorem MdA.s10 (D : MdA g h r nm kn um sv sz ra rm ga gk gl gB gt gn gr gp gh gv gs gx gf) (e : h' = va_up h (r + 10) (.inl (g.2.1 0, 218, .inl gz))) : MdA g h' r nm kn um sv sz ra rm ga gk gl gB gt gn gr gp gh gz gs gx gf := by
  obtain ⟨a0, b0, b1, b2, b3, b4, b5, b6, b7, b8, b9, b10, b11, b12, b13⟩ := D
  subst e
  exact ⟨a0, by rw [va_up_ne _ _ (by omega)]; exact b0, by rw [va_up_ne _ _ (by omega)]; exact b1, by rw [va_up_ne _ _ (by omega)]; exact b2, by rw [va_up_ne _ _ (by omega)]; exact b3, by rw [va_up_ne _ _ (by omega)]; exact b4, by rw [va_up_ne _ _ (by omega)]; exact b5, by rw [va_up_ne _ _ (by omega)]; exact b6, by rw [va_up_ne _ _ (by omega)]; exact b7, by rw [va_up_ne _ _ (by omega)]; exact b8, by rw [va_up_ne _ _ (by omega)]; exact b9, va_up_self _ _ _, by rw [va_up_ne _ _ (by omega)]; exact b11, by rw [va_up_ne _ _ (by omega)]; exact b12, by rw [va_up_ne _ _ (by omega)]; exact b13⟩
theorem MdA.s11 (D : MdA g h r nm kn um sv sz ra rm ga gk gl gB gt gn gr gp gh gv gs gx gf) (e : h' = va_up h (r + 11) (.inl (g.2.1 0, 109, .inl gz))) : MdA g h' r nm kn um sv sz ra rm ga gk gl gB gt gn gr gp gh gv gz gx gf := by
  obtain ⟨a0, b0, b1, b2, b3, b4, b5, b6, b7, b8, b9, b10, b11, b12, b13⟩ := D
  subst e
  exact ⟨a0, by rw [va_up_ne _ _ (by omega)]; exact b0, by rw [va_up_ne _ _ (by omega)]; exact b1, by rw [va_up_ne _ _ (by omega)]; exact b2, by rw [va_up_ne _ _ (by omega)]; exact b3, by rw [va_up_ne _ _ (by omega)]; exact b4, by rw [va_up_ne _ _ (by omega)]; exact b5, by rw [va_up_ne _ _ (by omega)]; exact b6, by rw [va_up_ne _ _ (by omega)]; exact b7, by rw [va_up_ne _ _ (by omega)]; exact b8, by rw [va_up_ne _ _ (by omega)]; exact b9, by rw [va_up_ne _ _ (by omega)]; exact b10, va_up_self _ _ _, by rw [va_up_ne _ _ (by omega)]; exact b12, by rw [va_up_ne _ _ (by omega)]; exact b13⟩
theorem MdA.s12 (D : MdA g h r nm kn um sv sz ra rm ga gk gl gB gt gn gr gp gh gv gs gx gf) (e : h' = va_up h (r + 12) (.inl (g.2.1 0, 200, .inl gz))) : MdA g h' r nm kn um sv sz ra rm ga gk gl gB gt gn gr gp gh gv gs gz gf := by
  obtain ⟨a0, b0, b1, b2, b3, b4, b5, b6, b7, b8, b9, b10, b11, b12, b13⟩ := D
  subst e
  exact ⟨a0, by rw [va_up_ne _ _ (by omega)]; exact b0, by rw [va_up_ne _ _ (by omega)]; exact b1, by rw [va_up_ne _ _ (by omega)]; exact b2, by rw [va_up_ne _ _ (by omega)]; exact b3, by rw [va_up_ne _ _ (by omega)]; exact b4, by rw [va_up_ne _ _ (by omega)]; exact b5, by rw [va_up_ne _ _ (by omega)]; exact b6, by rw [va_up_ne _ _ (by omega)]; exact b7, by rw [va_up_ne _ _ (by omega)]; exact b8, by rw [va_up_ne _ _ (by omega)]; exact b9, by rw [va_up_ne _ _ (by omega)]; exact b10, by rw [va_up_ne _ _ (by omega)]; exact b11, va_up_self _ _ _, by rw [va_up_ne _ _ (by omega)]; exact b13⟩
theorem MdA.s13 (D : MdA g h r nm kn um sv sz ra rm ga gk gl gB gt gn gr gp gh gv gs gx gf) (e : h' = va_up h (r + 13) (.inl (g.2.1 0, 109, .inl gz))) : MdA g h' r nm kn um sv sz ra rm ga gk gl gB gt gn gr gp gh gv gs gx gz := by
  obtain ⟨a0, b0, b1, b2, b3, b4, b5, b6, b7, b8, b9, b10, b11, b12, b13⟩ := D
  subst e
  exact ⟨a0, by rw [va_up_ne _ _ (by omega)]; exact b0, by rw [va_up_ne _ _ (by omega)]; exact b1, by rw [va_up_ne _ _ (by omega)]; exact b2, by rw [va_up_ne _ _ (by omega)]; exact b3, by rw [va_up_ne _ _ (by omega)]; exact b4, by rw [va_up_ne _ _ (by omega)]; exact b5, by rw [va_up_ne _ _ (by omega)]; exact b6, by rw [va_up_ne _ _ (by omega)]; exact b7, by rw [va_up_ne _ _ (by omega)]; exact b8, by rw [va_up_ne _ _ (by omega)]; exact b9, by rw [va_up_ne _ _ (by omega)]; exact b10, by rw [va_up_ne _ _ (by omega)]; exact b11, by rw [va_up_ne _ _ (by omega)]; exact b12, va_up_self _ _ _⟩
end MDS

abbrev rm_X9_in : Room := { frames := 0, cells := 0, slots := 0, locals := 0 }
set_option maxHeartbeats 4000000 in
set_option maxRecDepth 100000 in
theorem c_X9_in (l : Launch) {g : GE} {h : Nat → va_E} (p0 p1 p2 : Int32) : MI l yX9_in wsX9_in rm_X9_in [.int p0, .int p1, .int p2] g h (fun r h2 => h2 = h ∧ Bq r (p1.toInt ≤ p0.toInt ∧ p0.toInt ≤ p2.toInt)) := by
  refine Met.ofW (cc := cX9_in) (maxL := 3) (ret := (some .boolean)) (by decide) rfl ?_
  intro p e s m args below meth c s₁ B hml hv
  obtain ⟨rfl, w0⟩ := hv
  have hx := B.exec
  have hb := B.bytes
  have hr := B.returns
  have hts := atoms_spec (ws := wsX9_in) B.pre
  have hown : s.vm.findClass RX9 = some m.cls := findClass_of_methodNamed B.named
  have hlocks := B.notSynchronized
  have w := w0.start
  clear w0
  have hl := lv_entry ([.int p0, .int p1, .int p2]) (n := 3) (Nat.le_of_ble_eq_true rfl)
  rw [lg_entry_eq]
  generalize (lg_sl ([.int p0, .int p1, .int p2]) ++ List.replicate (3 - (lg_sl ([.int p0, .int p1, .int p2])).length) Slot.unset).toArray = ls at hl ⊢
  have hl : lv_has ls 3 [(0, .int p0), (1, .int p1), (2, .int p2)] := hl
  refine lv_iload_n hx hb dX9_in_0 rfl (lv_at hl 0 rfl) ?_
  refine lv_iload_n hx hb dX9_in_1 rfl (lv_at hl 1 rfl) ?_
  refine lv_icmp_lt (tgt := 14) hx hb dX9_in_2 (by decide) (fun c1 => ?_) (fun c1 => ?_)
  · have c1 : p0.toInt < p1.toInt := (i_lt (rfl : p0.toInt = p0.toInt) (rfl : p1.toInt = p1.toInt)).mp c1
    refine lv_iconst (v := 0) hx hb dX9_in_14 (by decide) ?_
    refine r_zret (v := 0) hx hb hr rfl hlocks w dX9_in_15 ?_
    exact ⟨rfl, by first | exact Bq.t (by omega) | exact Bq.f (by omega)⟩
  · have c1 : ¬ (p0.toInt < p1.toInt) := fun q => c1 ((i_lt (rfl : p0.toInt = p0.toInt) (rfl : p1.toInt = p1.toInt)).mpr q)
    refine lv_iload_n hx hb dX9_in_5 rfl (lv_at hl 0 rfl) ?_
    refine lv_iload_n hx hb dX9_in_6 rfl (lv_at hl 2 rfl) ?_
    refine lv_icmp_gt (tgt := 14) hx hb dX9_in_7 (by decide) (fun c2 => ?_) (fun c2 => ?_)
    · have c2 : p2.toInt < p0.toInt := (i_lt (rfl : p2.toInt = p2.toInt) (rfl : p0.toInt = p0.toInt)).mp c2
      refine lv_iconst (v := 0) hx hb dX9_in_14 (by decide) ?_
      refine r_zret (v := 0) hx hb hr rfl hlocks w dX9_in_15 ?_
      exact ⟨rfl, by first | exact Bq.t (by omega) | exact Bq.f (by omega)⟩
    · have c2 : ¬ (p2.toInt < p0.toInt) := fun q => c2 ((i_lt (rfl : p2.toInt = p2.toInt) (rfl : p0.toInt = p0.toInt)).mpr q)
      refine lv_iconst (v := 1) hx hb dX9_in_10 (by decide) ?_
      refine lv_goto (tgt := 15) hx hb dX9_in_11 (by decide) ?_
      refine r_zret (v := 1) hx hb hr rfl hlocks w dX9_in_15 ?_
      exact ⟨rfl, by first | exact Bq.t (by omega) | exact Bq.f (by omega)⟩

theorem inX9_isFunction_X9 : ∀ w ∈ wsX90, w ∈ wsX9_isFunction := by decide +kernel
abbrev rm_X9_isFunction : Room := { frames := 1, cells := 0, slots := 0, locals := 22 }
set_option maxHeartbeats 4000000 in
set_option maxRecDepth 100000 in
theorem c_X9_isFunction (l : Launch) {g : GE} {h : Nat → va_E} {r : Nat} {nm kn um sv sz ra rm : Int32} {ga gk gl gB gt gn gr gp gh gv gs gx gf : Nat → Int32} (D : MdA g h r nm kn um sv sz ra rm ga gk gl gB gt gn gr gp gh gv gs gx gf) {n : Nat} (hn : nm.toInt = (n : Int)) (p0 : Int32) : MI l yX9_isFunction wsX9_isFunction rm_X9_isFunction [.ref (g.2.2.1 r), .int p0] g h (fun r h2 => h2 = h ∧ Bq r (0 ≤ p0.toInt ∧ p0.toInt < (n : Int))) := by
  refine Met.ofW (cc := cX9_isFunction) (maxL := 2) (ret := (some .boolean)) (by decide) rfl ?_
  intro p e s m args below meth c s₁ B hml hv
  obtain ⟨rfl, w0⟩ := hv
  have hx := B.exec
  have hb := B.bytes
  have hr := B.returns
  have hts := atoms_spec (ws := wsX9_isFunction) B.pre
  have hown : s.vm.findClass RX9 = some m.cls := findClass_of_methodNamed B.named
  have hlocks := B.notSynchronized
  have w := w0.start
  clear w0
  have hl := lv_entry ([.ref (g.2.2.1 r), .int p0]) (n := 2) (Nat.le_of_ble_eq_true rfl)
  rw [lg_entry_eq]
  generalize (lg_sl ([.ref (g.2.2.1 r), .int p0]) ++ List.replicate (2 - (lg_sl ([.ref (g.2.2.1 r), .int p0])).length) Slot.unset).toArray = ls at hl ⊢
  have hl : lv_has ls 2 [(0, .ref (g.2.2.1 r)), (1, .int p0)] := hl
  have hi_ := i_hi nm
  refine lv_iload_n hx hb dX9_isFunction_0 rfl (lv_at hl 1 rfl) ?_
  refine lv_iconst (v := 0) hx hb dX9_isFunction_1 (by decide) ?_
  refine lv_aload_n hx hb dX9_isFunction_2 rfl (lv_at hl 0 rfl) ?_
  refine r_get (C := RX9) (T := TX9) (N := 20) (ci := 7) hx hb hts inX9_isFunction_X9 hown w (by have := D.1; omega) D.c0 rfl 0 (by decide) (hts (Cond.fieldLink RX9 49 "EarlyValuesModel" "many" "I") (List.mem_of_getElem? (i := 1) (by decide +kernel))) rfl rfl dX9_isFunction_3 ?_
  refine lv_iconst (v := 1) hx hb dX9_isFunction_6 (by decide) ?_
  refine lv_isub hx hb dX9_isFunction_7 ?_
  refine lv_topi (fun y1 ey1 => ?_)
  have ty1 : y1.toInt = ((n : Nat) : Int) - ((1 : Nat) : Int) := i_sub ey1 hn (by decide : (1 : Int32).toInt = ((1 : Nat) : Int)) (by omega)
  refine r_callI w (va_runS (As := [.int p0, .int 0, .int y1]) (rest := []) ⟨hx, hb, hml, hown, hts⟩ (c_X9_in l p0 0 y1) (va_cwS 3 hts gX9_isFunction_X9_in rfl rfl rfl (by decide +kernel) ⟨Nat.le_of_ble_eq_true rfl, Nat.le_of_ble_eq_true rfl⟩) (r_preS w) rfl rfl hl.1 rfl (lv_room (Nat.le_of_ble_eq_true rfl)) dX9_isFunction_8 ⟨Nat.zero_le _, Nat.zero_le _⟩) (fun r3 h2 H locs hp w => ?_)
  obtain ⟨eh_, qq4⟩ := hp
  have eh_ := eh_.symm
  subst eh_
  have b5 : Bq r3 (((0 : Nat) : Int) ≤ p0.toInt ∧ p0.toInt ≤ (((n : Nat) : Int) - ((1 : Nat) : Int))) := qq4.iff (by rw [((rfl : p0.toInt = p0.toInt) : (p0 : Int32).toInt = _), ((by decide : (0 : Int32).toInt = ((0 : Nat) : Int)) : (0 : Int32).toInt = _), (ty1 : (y1 : Int32).toInt = _)])
  refine r_zret (v := r3) hx hb hr b5.nar hlocks w dX9_isFunction_11 ?_
  exact ⟨rfl, b5.iff (by omega)⟩

abbrev rm_X9_letterBy : Room := { frames := 0, cells := 0, slots := 0, locals := 0 }
set_option maxHeartbeats 4000000 in
set_option maxRecDepth 100000 in
theorem c_X9_letterBy (l : Launch) {g : GE} {h : Nat → va_E} {k : Nat} (p0 : Int32) (hp0 : p0.toInt = (k : Int)) (hk : k < 14) : MI l yX9_letterBy wsX9_letterBy rm_X9_letterBy [.int p0] g h (fun r h2 => h2 = h ∧ r.toInt = ((mCode k : Nat) : Int)) := by
  refine Met.ofW (cc := cX9_letterBy) (maxL := 1) (ret := (some .int)) (by decide) rfl ?_
  intro p e s m args below meth c s₁ B hml hv
  obtain ⟨rfl, w0⟩ := hv
  have hx := B.exec
  have hb := B.bytes
  have hr := B.returns
  have hts := atoms_spec (ws := wsX9_letterBy) B.pre
  have hown : s.vm.findClass RX9 = some m.cls := findClass_of_methodNamed B.named
  have hlocks := B.notSynchronized
  have w := w0.start
  clear w0
  have hl := lv_entry ([.int p0]) (n := 1) (Nat.le_of_ble_eq_true rfl)
  rw [lg_entry_eq]
  generalize (lg_sl ([.int p0]) ++ List.replicate (1 - (lg_sl ([.int p0])).length) Slot.unset).toArray = ls at hl ⊢
  have hl : lv_has ls 1 [(0, .int p0)] := hl
  refine lv_iload_n hx hb dX9_letterBy_0 rfl (lv_at hl 0 rfl) ?_
  rcases (show (((k : Nat) : Int) < 0 ∨ 9 < ((k : Nat) : Int)) ∨ ((k : Nat) : Int) = 0 ∨ ((k : Nat) : Int) = 1 ∨ ((k : Nat) : Int) = 2 ∨ ((k : Nat) : Int) = 3 ∨ ((k : Nat) : Int) = 4 ∨ ((k : Nat) : Int) = 5 ∨ ((k : Nat) : Int) = 6 ∨ ((k : Nat) : Int) = 7 ∨ ((k : Nat) : Int) = 8 ∨ ((k : Nat) : Int) = 9 by omega) with c1 | c1 | c1 | c1 | c1 | c1 | c1 | c1 | c1 | c1 | c1
  · refine lv_tableOut (tgt := 86) hx hb dX9_letterBy_1 (by rw [hp0]; exact c1) (by decide) ?_
    refine lv_bipush (v := 48) hx hb dX9_letterBy_86 (by decide) ?_
    refine lv_iload_n hx hb dX9_letterBy_88 rfl (lv_at hl 0 rfl) ?_
    refine lv_iadd hx hb dX9_letterBy_89 ?_
    refine lv_topi (fun y2 ey2 => ?_)
    have ty2 : y2.toInt = (((48 + k) : Nat) : Int) := i_addN ey2 (by decide : (48 : Int32).toInt = ((48 : Nat) : Int)) hp0 (by omega)
    refine lv_bipush (v := 10) hx hb dX9_letterBy_90 (by decide) ?_
    refine lv_isub hx hb dX9_letterBy_92 ?_
    refine lv_topi (fun y3 ey3 => ?_)
    have ty3 : y3.toInt = (((48 + k) : Nat) : Int) - ((10 : Nat) : Int) := i_sub ey3 ty2 (by decide : (10 : Int32).toInt = ((10 : Nat) : Int)) (by omega)
    refine r_iret (v := y3) hx hb hr hlocks w dX9_letterBy_93 ?_
    refine ⟨rfl, ty3.trans ?_⟩
    have hc_ := mCode_c hk
    omega
  · refine lv_tableIn (off := 55) (tgt := 56) hx hb dX9_letterBy_1 (by rw [hp0]; omega) (by rw [hp0]; omega) (by rw [hp0, c1]; rfl) (by decide) ?_
    refine lv_bipush (v := 111) hx hb dX9_letterBy_56 (by decide) ?_
    refine r_iret (v := 111) hx hb hr hlocks w dX9_letterBy_58 ?_
    refine ⟨rfl, (by decide : (111 : Int32).toInt = ((111 : Nat) : Int)).trans ?_⟩
    have hc_ := mCode_c hk
    omega
  · refine lv_tableIn (off := 58) (tgt := 59) hx hb dX9_letterBy_1 (by rw [hp0]; omega) (by rw [hp0]; omega) (by rw [hp0, c1]; rfl) (by decide) ?_
    refine lv_bipush (v := 105) hx hb dX9_letterBy_59 (by decide) ?_
    refine r_iret (v := 105) hx hb hr hlocks w dX9_letterBy_61 ?_
    refine ⟨rfl, (by decide : (105 : Int32).toInt = ((105 : Nat) : Int)).trans ?_⟩
    have hc_ := mCode_c hk
    omega
  · refine lv_tableIn (off := 61) (tgt := 62) hx hb dX9_letterBy_1 (by rw [hp0]; omega) (by rw [hp0]; omega) (by rw [hp0, c1]; rfl) (by decide) ?_
    refine lv_bipush (v := 119) hx hb dX9_letterBy_62 (by decide) ?_
    refine r_iret (v := 119) hx hb hr hlocks w dX9_letterBy_64 ?_
    refine ⟨rfl, (by decide : (119 : Int32).toInt = ((119 : Nat) : Int)).trans ?_⟩
    have hc_ := mCode_c hk
    omega
  · refine lv_tableIn (off := 64) (tgt := 65) hx hb dX9_letterBy_1 (by rw [hp0]; omega) (by rw [hp0]; omega) (by rw [hp0, c1]; rfl) (by decide) ?_
    refine lv_bipush (v := 97) hx hb dX9_letterBy_65 (by decide) ?_
    refine r_iret (v := 97) hx hb hr hlocks w dX9_letterBy_67 ?_
    refine ⟨rfl, (by decide : (97 : Int32).toInt = ((97 : Nat) : Int)).trans ?_⟩
    have hc_ := mCode_c hk
    omega
  · refine lv_tableIn (off := 67) (tgt := 68) hx hb dX9_letterBy_1 (by rw [hp0]; omega) (by rw [hp0]; omega) (by rw [hp0, c1]; rfl) (by decide) ?_
    refine lv_bipush (v := 98) hx hb dX9_letterBy_68 (by decide) ?_
    refine r_iret (v := 98) hx hb hr hlocks w dX9_letterBy_70 ?_
    refine ⟨rfl, (by decide : (98 : Int32).toInt = ((98 : Nat) : Int)).trans ?_⟩
    have hc_ := mCode_c hk
    omega
  · refine lv_tableIn (off := 70) (tgt := 71) hx hb dX9_letterBy_1 (by rw [hp0]; omega) (by rw [hp0]; omega) (by rw [hp0, c1]; rfl) (by decide) ?_
    refine lv_bipush (v := 99) hx hb dX9_letterBy_71 (by decide) ?_
    refine r_iret (v := 99) hx hb hr hlocks w dX9_letterBy_73 ?_
    refine ⟨rfl, (by decide : (99 : Int32).toInt = ((99 : Nat) : Int)).trans ?_⟩
    have hc_ := mCode_c hk
    omega
  · refine lv_tableIn (off := 73) (tgt := 74) hx hb dX9_letterBy_1 (by rw [hp0]; omega) (by rw [hp0]; omega) (by rw [hp0, c1]; rfl) (by decide) ?_
    refine lv_bipush (v := 109) hx hb dX9_letterBy_74 (by decide) ?_
    refine r_iret (v := 109) hx hb hr hlocks w dX9_letterBy_76 ?_
    refine ⟨rfl, (by decide : (109 : Int32).toInt = ((109 : Nat) : Int)).trans ?_⟩
    have hc_ := mCode_c hk
    omega
  · refine lv_tableIn (off := 76) (tgt := 77) hx hb dX9_letterBy_1 (by rw [hp0]; omega) (by rw [hp0]; omega) (by rw [hp0, c1]; rfl) (by decide) ?_
    refine lv_bipush (v := 43) hx hb dX9_letterBy_77 (by decide) ?_
    refine r_iret (v := 43) hx hb hr hlocks w dX9_letterBy_79 ?_
    refine ⟨rfl, (by decide : (43 : Int32).toInt = ((43 : Nat) : Int)).trans ?_⟩
    have hc_ := mCode_c hk
    omega
  · refine lv_tableIn (off := 79) (tgt := 80) hx hb dX9_letterBy_1 (by rw [hp0]; omega) (by rw [hp0]; omega) (by rw [hp0, c1]; rfl) (by decide) ?_
    refine lv_bipush (v := 38) hx hb dX9_letterBy_80 (by decide) ?_
    refine r_iret (v := 38) hx hb hr hlocks w dX9_letterBy_82 ?_
    refine ⟨rfl, (by decide : (38 : Int32).toInt = ((38 : Nat) : Int)).trans ?_⟩
    have hc_ := mCode_c hk
    omega
  · refine lv_tableIn (off := 82) (tgt := 83) hx hb dX9_letterBy_1 (by rw [hp0]; omega) (by rw [hp0]; omega) (by rw [hp0, c1]; rfl) (by decide) ?_
    refine lv_bipush (v := 63) hx hb dX9_letterBy_83 (by decide) ?_
    refine r_iret (v := 63) hx hb hr hlocks w dX9_letterBy_85 ?_
    refine ⟨rfl, (by decide : (63 : Int32).toInt = ((63 : Nat) : Int)).trans ?_⟩
    have hc_ := mCode_c hk
    omega

abbrev rm_X9_placeOf : Room := { frames := 1, cells := 0, slots := 0, locals := 20 }
set_option maxHeartbeats 4000000 in
set_option maxRecDepth 100000 in
theorem c_X9_placeOf (l : Launch) {g : GE} {h : Nat → va_E} {k : Nat} (p0 : Int32) (hp0 : p0.toInt = ((mCode k : Nat) : Int)) (hk : k < 14) : MI l yX9_placeOf wsX9_placeOf rm_X9_placeOf [.int p0] g h (fun r h2 => h2 = h ∧ r.toInt = (k : Int)) := by
  refine Met.ofW (cc := cX9_placeOf) (maxL := 2) (ret := (some .int)) (by decide) rfl ?_
  intro p e s m args below meth c s₁ B hml hv
  obtain ⟨rfl, w0⟩ := hv
  have hx := B.exec
  have hb := B.bytes
  have hr := B.returns
  have hts := atoms_spec (ws := wsX9_placeOf) B.pre
  have hown : s.vm.findClass RX9 = some m.cls := findClass_of_methodNamed B.named
  have hlocks := B.notSynchronized
  have w := w0.start
  clear w0
  have hl := lv_entry ([.int p0]) (n := 2) (Nat.le_of_ble_eq_true rfl)
  rw [lg_entry_eq]
  generalize (lg_sl ([.int p0]) ++ List.replicate (2 - (lg_sl ([.int p0])).length) Slot.unset).toArray = ls at hl ⊢
  have hl : lv_has ls 2 [(0, .int p0)] := hl
  have cuts : ∀ N : Nat, (∀ (i : Nat) (x1 : Int32) (hc : Nat → va_E) (H : Heap) (locs : List Loc) (ls : Array Slot), WD g (inW g) s hc H locs → lv_has ls 2 [(0, .int p0), (1, .int x1)] → (i ≤ k) → (x1.toInt = ((i : Nat) : Int)) → (hc = h) → 15 - i < N → W p l e (headSpec wsX9_placeOf rm_X9_placeOf).room s m ([.int p0] : List Value).toArray below meth c H locs 0 0 (MQ below (va_Qi (fun r h2 => h2 = h ∧ r.toInt = (k : Int)) (Wd g) (inW g)) ([.int p0] : List Value).toArray s 0 0 (inW g)) (F0 m 2 ls [])) := by
    intro N
    induction N with
    | zero => exact by intros; omega
    | succ N ih =>
      have ih2 := ih
      · intro i x1 hc H locs ls w hl hi hx1 hh hN_
        refine lv_iload_n hx hb dX9_placeOf_2 rfl (lv_at hl 1 rfl) ?_
        refine lv_bipush (v := 14) hx hb dX9_placeOf_3 (by decide) ?_
        refine lv_icmp_ge (tgt := 22) hx hb dX9_placeOf_5 (by decide) (fun c1 => ?_) (fun c1 => ?_)
        · have c1 : ((14 : Nat) : Int) ≤ ((i : Nat) : Int) := (i_le (by decide : (14 : Int32).toInt = ((14 : Nat) : Int)) hx1).mp c1
          exfalso; omega
        · have c1 : ¬ (((14 : Nat) : Int) ≤ ((i : Nat) : Int)) := fun q => c1 ((i_le (by decide : (14 : Int32).toInt = ((14 : Nat) : Int)) hx1).mpr q)
          refine lv_iload_n hx hb dX9_placeOf_8 rfl (lv_at hl 1 rfl) ?_
          refine r_callI w (va_runS (As := [.int x1]) (rest := []) ⟨hx, hb, hml, hown, hts⟩ (c_X9_letterBy l x1 hx1 (by omega)) (va_cwS 1 hts gX9_placeOf_X9_letterBy rfl rfl rfl (by decide +kernel) ⟨Nat.le_of_ble_eq_true rfl, Nat.le_of_ble_eq_true rfl⟩) (r_preS w) rfl rfl hl.1 rfl (lv_room (Nat.le_of_ble_eq_true rfl)) dX9_placeOf_9 ⟨Nat.zero_le _, Nat.zero_le _⟩) (fun r3 h2 H locs hp w => ?_)
          obtain ⟨eh_, qq4⟩ := hp
          have eh_ := eh_.symm
          subst eh_
          refine lv_iload_n hx hb dX9_placeOf_12 rfl (lv_at hl 0 rfl) ?_
          refine lv_icmp_eq (tgt := 22) hx hb dX9_placeOf_13 (by decide) (fun c5 => ?_) (fun c5 => ?_)
          · have c5 : (((mCode i) : Nat) : Int) = (((mCode k) : Nat) : Int) := (i_eq qq4 hp0).mp c5
            refine lv_iload_n hx hb dX9_placeOf_22 rfl (lv_at hl 1 rfl) ?_
            refine r_iret (v := x1) hx hb hr hlocks w dX9_placeOf_23 ?_
            have := mCode_inj (a := i) (b := k)
            exact ⟨hh, hx1.trans (by omega)⟩
          · have c5 : ¬ ((((mCode i) : Nat) : Int) = (((mCode k) : Nat) : Int)) := fun q => c5 ((i_eq qq4 hp0).mpr q)
            obtain ⟨y6, ey6⟩ : ∃ y : Int32, y = x1 + (1) := ⟨_, rfl⟩
            have ty6 : y6.toInt = (((i + 1) : Nat) : Int) := i_addN ey6 hx1 (by decide : (1 : Int32).toInt = ((1 : Nat) : Int)) (by omega)
            refine lv_iinc (v := y6) (lv' := [(1, .int y6), (0, .int p0)]) hx hb dX9_placeOf_16 hl (k := 1) rfl (by rw [ey6]; rfl) (by decide) rfl (fun ls hl => ?_)
            refine lv_goto (tgt := 2) hx hb dX9_placeOf_19 (by decide) ?_
            exact ih2 (i + 1) y6 hc _ _ _ w (lv_sub hl [1, 0] rfl) (by rcases Nat.lt_or_eq_of_le hi with q_ | q_; omega; exfalso; rw [q_] at c5; omega) ty6 hh (by omega)
  have ih2 := cuts (20)
  refine lv_iconst (v := 0) hx hb dX9_placeOf_0 (by decide) ?_
  refine lv_istore_n (lv' := [(1, .int 0), (0, .int p0)]) hx hb dX9_placeOf_1 rfl hl (by decide) rfl (fun ls hl => ?_)
  exact ih2 0 0 h _ _ _ w (lv_sub hl [1, 0] rfl) (Nat.zero_le _) ((by decide : (0 : Int32).toInt = ((0 : Nat) : Int))) rfl (by omega)

