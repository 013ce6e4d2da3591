-- ===== each call has one answer and one new state =====
theorem i_same {r r' : Int32} {a : Int} (h : r.toInt = a) (h' : r'.toInt = a) : r = r' := i_inj (h.trans h'.symm)
theorem AnWrite.inj {s s1 s2 : ST} {p r r' : Int32} (h1 : AnWrite s p r s1) (h2 : AnWrite s p r' s2) : r = r' ∧ s1 = s2 := by
  rcases h1 with ⟨a, b, c⟩ | ⟨a, b, c, d⟩ | ⟨a, b, c, d⟩ <;> rcases h2 with ⟨a', b', c'⟩ | ⟨a', b', c', d'⟩ | ⟨a', b', c', d'⟩
  · exact ⟨i_same b b', by rw [c, c']⟩
  · exact absurd a' a
  · exact absurd a' a
  · exact absurd a a'
  · exact ⟨i_same c c', by rw [d, d']⟩
  · omega
  · exact absurd a a'
  · omega
  · exact ⟨i_same c c', by rw [d, d']⟩
theorem AnWipe.inj {s s1 s2 : ST} {r r' : Int32} (h1 : AnWipe s r s1) (h2 : AnWipe s r' s2) : r = r' ∧ s1 = s2 := ⟨i_same h1.1 h2.1, h1.2.trans h2.2.symm⟩
theorem AnUndo.inj {s s1 s2 : ST} {r r' : Int32} (h1 : AnUndo s r s1) (h2 : AnUndo s r' s2) : r = r' ∧ s1 = s2 := by
  rcases h1 with ⟨a, b, c⟩ | ⟨a, b, c⟩ <;> rcases h2 with ⟨a', b', c'⟩ | ⟨a', b', c'⟩
  · exact ⟨i_same b b', by rw [c, c']⟩
  · omega
  · omega
  · exact ⟨i_same b b', by rw [c, c']⟩
theorem AnKeep.inj {s s1 s2 : ST} {r r' : Int32} (h1 : AnKeep s r s1) (h2 : AnKeep s r' s2) : r = r' ∧ s1 = s2 := by
  rcases h1 with ⟨a, b, c⟩ | ⟨a, b, c⟩ <;> rcases h2 with ⟨a', b', c'⟩ | ⟨a', b', c'⟩
  · exact ⟨i_same b b', by rw [c, c']⟩
  · omega
  · omega
  · exact ⟨i_same b b', by rw [c, c']⟩
theorem AnBack.inj {s s1 s2 : ST} {r r' : Int32} (h1 : AnBack s r s1) (h2 : AnBack s r' s2) : r = r' ∧ s1 = s2 := by
  rcases h1 with ⟨a, b, c⟩ | ⟨a, b, c⟩ <;> rcases h2 with ⟨a', b', c'⟩ | ⟨a', b', c'⟩
  · exact ⟨i_same b b', by rw [c, c']⟩
  · omega
  · omega
  · exact ⟨i_same b b', by rw [c, c']⟩
theorem AnFault.inj {s : ST} {r r' : Int32} (h1 : AnFault s r) (h2 : AnFault s r') : r = r' := by
  obtain ⟨t, a, b⟩ := h1
  obtain ⟨t', a', b'⟩ := h2
  have e := a.inj a'
  subst e
  rcases b with ⟨b1, b2⟩ | ⟨b1, b2⟩ <;> rcases b' with ⟨c1, c2⟩ | ⟨c1, c2⟩
  · exact i_same b2 c2
  · omega
  · omega
  · exact i_same b2 c2
theorem AnLay.inj {s s1 s2 : ST} {r r' : Int32} (h1 : AnLay s r s1) (h2 : AnLay s r' s2) : r = r' ∧ s1 = s2 := by
  obtain ⟨t, a, b⟩ := h1
  obtain ⟨t', a', b'⟩ := h2
  have e := a.inj a'
  subst e
  rcases b with ⟨b1, b2, b3, b4, b5⟩ | ⟨b1, b2, b3⟩ <;> rcases b' with ⟨c1, c2, c3, c4, c5⟩ | ⟨c1, c2, c3⟩
  · exact ⟨i_same b4 c4, by rw [b5, c5]⟩
  · exact absurd ⟨b1, b2, b3⟩ c1
  · exact absurd ⟨c1, c2, c3⟩ b1
  · exact ⟨i_same b2 c2, by rw [b3, c3]⟩
theorem AnRounds.inj {s : ST} {p r r' : Int32} (h1 : AnRounds s p r) (h2 : AnRounds s p r') : r = r' := by
  rcases h1 with ⟨u, K, a, b, c, d⟩ | ⟨a, b⟩ <;> rcases h2 with ⟨u', K', a', b', c', d'⟩ | ⟨a', b'⟩
  · obtain rfl : u = u' := by omega
    rw [c.inj c'] at d
    exact i_same d d'
  · omega
  · omega
  · exact i_same b b'
theorem AnCount.inj {s : ST} {p r r' : Int32} (h1 : AnCount s p r) (h2 : AnCount s p r') : r = r' := by
  refine i_inj ?_
  unfold AnCount at h1 h2
  omega
theorem AnMakes.no {M : PRG} {f a i k i' k' : Nat} (c : Cand M f a i k) (h : ∀ i2 k2, i2 < pL M f → k2 < 14 → (i2 < i' ∨ (i2 = i' ∧ k2 < k')) → ¬ Cand M f a i2 k2) (hi : i < pL M f) (hk : k < 14) : i' < i ∨ (i' = i ∧ k' ≤ k) := by
  rcases Nat.lt_trichotomy i i' with q | q | q
  · exact absurd c (h i k hi hk (Or.inl q))
  · rcases Nat.lt_or_ge k k' with z | z
    · exact absurd c (h i k hi hk (Or.inr ⟨q, z⟩))
    · exact Or.inr ⟨q.symm, z⟩
  · exact Or.inl q
