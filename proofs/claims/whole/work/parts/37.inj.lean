-- ===== each call has one answer and one new state =====
theorem i_same {r r' : Int32} {a : Int} (h : r.toInt = a) (h' : r'.toInt = a) : r = r' := i_inj (h.trans h'.symm)
theorem AnWrite.inj {s s1 s2 : ST} {p r r' : Int32} (h1 : AnWrite s p r s1) (h2 : AnWrite s p r' s2) : r = r' ∧ s1 = s2 := by
  rcases h1 with ⟨a, b, c⟩ | ⟨a, b, c, d⟩ | ⟨a, b, c, d⟩ <;> rcases h2 with ⟨a', b', c'⟩ | ⟨a', b', c', d'⟩ | ⟨a', b', c', d'⟩
  · exact ⟨i_same b b', by rw [c, c']⟩
  · exact absurd a' a
  · exact absurd a' a
  · exact absurd a a'
  · exact ⟨i_same c c', by rw [d, d']⟩
  · omega
  · exact absurd a a'
  · omega
  · exact ⟨i_same c c', by rw [d, d']⟩
theorem AnWipe.inj {s s1 s2 : ST} {r r' : Int32} (h1 : AnWipe s r s1) (h2 : AnWipe s r' s2) : r = r' ∧ s1 = s2 := ⟨i_same h1.1 h2.1, h1.2.trans h2.2.symm⟩
theorem AnUndo.inj {s s1 s2 : ST} {r r' : Int32} (h1 : AnUndo s r s1) (h2 : AnUndo s r' s2) : r = r' ∧ s1 = s2 := by
  rcases h1 with ⟨a, b, c⟩ | ⟨a, b, c⟩ <;> rcases h2 with ⟨a', b', c'⟩ | ⟨a', b', c'⟩
  · exact ⟨i_same b b', by rw [c, c']⟩
  · omega
  · omega
  · exact ⟨i_same b b', by rw [c, c']⟩
theorem AnKeep.inj {s s1 s2 : ST} {r r' : Int32} (h1 : AnKeep s r s1) (h2 : AnKeep s r' s2) : r = r' ∧ s1 = s2 := by
  rcases h1 with ⟨a, b, c⟩ | ⟨a, b, c⟩ <;> rcases h2 with ⟨a', b', c'⟩ | ⟨a', b', c'⟩
  · exact ⟨i_same b b', by rw [c, c']⟩
  · omega
  · omega
  · exact ⟨i_same b b', by rw [c, c']⟩
theorem AnBack.inj {s s1 s2 : ST} {r r' : Int32} (h1 : AnBack s r s1) (h2 : AnBack s r' s2) : r = r' ∧ s1 = s2 := by
  rcases h1 with ⟨a, b, c⟩ | ⟨a, b, c⟩ <;> rcases h2 with ⟨a', b', c'⟩ | ⟨a', b', c'⟩
  · exact ⟨i_same b b', by rw [c, c']⟩
  · omega
  · omega
  · exact ⟨i_same b b', by rw [c, c']⟩
theorem AnFault.inj {s : ST} {r r' : Int32} (h1 : AnFault s r) (h2 : AnFault s r') : r = r' := by
  obtain ⟨t, a, b⟩ := h1
  obtain ⟨t', a', b'⟩ := h2
  have e := a.inj a'
  subst e
  rcases b with ⟨b1, b2⟩ | ⟨b1, b2⟩ <;> rcases b' with ⟨c1, c2⟩ | ⟨c1, c2⟩
  · exact i_same b2 c2
  · omega
  · omega
  · exact i_same b2 c2
theorem AnLay.inj {s s1 s2 : ST} {r r' : Int32} (h1 : AnLay s r s1) (h2 : AnLay s r' s2) : r = r' ∧ s1 = s2 := by
  obtain ⟨t, a, b⟩ := h1
  obtain ⟨t', a', b'⟩ := h2
  have e := a.inj a'
  subst e
  rcases b with ⟨b1, b2, b3, b4, b5⟩ | ⟨b1, b2, b3⟩ <;> rcases b' with ⟨c1, c2, c3, c4, c5⟩ | ⟨c1, c2, c3⟩
  · exact ⟨i_same b4 c4, by rw [b5, c5]⟩
  · exact absurd ⟨b1, b2, b3⟩ c1
  · exact absurd ⟨c1, c2, c3⟩ b1
  · exact ⟨i_same b2 c2, by rw [b3, c3]⟩
theorem AnRounds.inj {s : ST} {p r r' : Int32} (h1 : AnRounds s p r) (h2 : AnRounds s p r') : r = r' := by
  rcases h1 with ⟨u, K, a, b, c, d⟩ | ⟨a, b⟩ <;> rcases h2 with ⟨u', K', a', b', c', d'⟩ | ⟨a', b'⟩
  · obtain rfl : u = u' := by omega
    rw [c.inj c'] at d
    exact i_same d d'
  · omega
  · omega
  · exact i_same b b'
theorem AnCount.inj {s : ST} {p r r' : Int32} (h1 : AnCount s p r) (h2 : AnCount s p r') : r = r' := by
  refine i_inj ?_
  unfold AnCount at h1 h2
  omega
theorem AnMakes.no {M : PRG} {f a i k i' k' : Nat} (c : Cand M f a i k) (h : ∀ i2 k2, i2 < pL M f → k2 < 14 → (i2 < i' ∨ (i2 = i' ∧ k2 < k')) → ¬ Cand M f a i2 k2) (hi : i < pL M f) (hk : k < 14) : i' < i ∨ (i' = i ∧ k' ≤ k) := by
  rcases Nat.lt_trichotomy i i' with q | q | q
  · exact absurd c (h i k hi hk (Or.inl q))
  · rcases Nat.lt_or_ge k k' with z | z
    · exact absurd c (h i k hi hk (Or.inr ⟨q, z⟩))
    · exact Or.inr ⟨q.symm, z⟩
  · exact Or.inl q
theorem AnFunction.inj {s : ST} {p q r r' : Int32} (h1 : AnFunction s p q r) (h2 : AnFunction s p q r') : r = r' := by
  rcases h1 with ⟨f, a, b, c⟩ | ⟨a, b⟩ <;> rcases h2 with ⟨f', a', b', c'⟩ | ⟨a', b'⟩
  · obtain rfl : f = f' := by omega
    refine i_inj ?_
    omega
  · omega
  · omega
  · exact i_same b b'
theorem AnLetter.inj {s : ST} {p q r r' : Int32} (h1 : AnLetter s p q r) (h2 : AnLetter s p q r') : r = r' := by
  rcases h1 with ⟨f, j, a, b, c, d, e⟩ | ⟨a, b⟩ <;> rcases h2 with ⟨f', j', a', b', c', d', e'⟩ | ⟨a', b'⟩
  · obtain rfl : f = f' := by omega
    obtain rfl : j = j' := by omega
    exact i_same e e'
  · exact absurd ⟨f, j, a, b, c, d⟩ a'
  · exact absurd ⟨f', j', a', b', c', d'⟩ a
  · exact i_same b b'
theorem AnPut.inj {s s1 s2 : ST} {p q k r r' : Int32} (h1 : AnPut s p q k r s1) (h2 : AnPut s p q k r' s2) : r = r' ∧ s1 = s2 := by
  rcases h1 with ⟨f, j, a, b, c, d, e, m, x⟩ | ⟨a, b, x⟩ <;> rcases h2 with ⟨f', j', a', b', c', d', e', m', x'⟩ | ⟨a', b', x'⟩
  · obtain rfl : f = f' := by omega
    obtain rfl : j = j' := by omega
    rcases x with ⟨x1, x2, x3⟩ | ⟨x1, x2, x3⟩ <;> rcases x' with ⟨y1, y2, y3⟩ | ⟨y1, y2, y3⟩
    · exact ⟨i_same x2 y2, by rw [x3, y3]⟩
    · exact absurd x1 y1
    · exact absurd y1 x1
    · exact ⟨i_same x2 y2, by rw [x3, y3]⟩
  · exact absurd ⟨f, j, a, b, c, d, e, m⟩ a'
  · exact absurd ⟨f', j', a', b', c', d', e', m'⟩ a
  · exact ⟨i_same b b', by rw [x, x']⟩
theorem AnRename.inj {s s1 s2 : ST} {p k r r' : Int32} (h1 : AnRename s p k r s1) (h2 : AnRename s p k r' s2) : r = r' ∧ s1 = s2 := by
  rcases h1 with ⟨f, j, a, b, c, d, x⟩ | ⟨a, b, x⟩ <;> rcases h2 with ⟨f', j', a', b', c', d', x'⟩ | ⟨a', b', x'⟩
  · obtain rfl : f = f' := by omega
    obtain rfl : j = j' := by omega
    rcases x with ⟨x1, x2, x3⟩ | ⟨x1, x2, x3⟩ <;> rcases x' with ⟨y1, y2, y3⟩ | ⟨y1, y2, y3⟩
    · exact ⟨i_same x2 y2, by rw [x3, y3]⟩
    · exact absurd x1 y1
    · exact absurd y1 x1
    · exact ⟨i_same x2 y2, by rw [x3, y3]⟩
  · omega
  · omega
  · exact ⟨i_same b b', by rw [x, x']⟩
theorem AnTab.inj {u : Nat} {s : ST} {p x y z r r' : Int32} (h1 : AnTab u s p x y z r) (h2 : AnTab u s p x y z r') : r = r' := by
  rcases h1 with ⟨f, a, b, c, e1, e2, e3, e4, e5, e6, K, e7, e8⟩ | ⟨a, b⟩ <;> rcases h2 with ⟨f', a', b', c', d1, d2, d3, d4, d5, d6, K', d7, d8⟩ | ⟨a', b'⟩
  · obtain rfl : f = f' := by omega
    obtain rfl : a = a' := by omega
    obtain rfl : b = b' := by omega
    obtain rfl : c = c' := by omega
    rw [e7.inj d7] at e8
    exact i_same e8 d8
  · exact absurd ⟨f, a, b, c, e1, e2, e3, e4, e5, e6⟩ a'
  · exact absurd ⟨f', a', b', c', d1, d2, d3, d4, d5, d6⟩ a
  · exact i_same b b'
theorem AnRough.inj {s : ST} {p q r r' : Int32} (h1 : AnRough s p q r) (h2 : AnRough s p q r') : r = r' := by
  rcases h1 with ⟨f, a, e1, e2, e5, e6, K, e7, e8⟩ | ⟨a, b⟩ <;> rcases h2 with ⟨f', a', d1, d2, d5, d6, K', d7, d8⟩ | ⟨a', b'⟩
  · obtain rfl : f = f' := by omega
    obtain rfl : a = a' := by omega
    rw [e7.inj d7] at e8
    exact i_same e8 d8
  · exact absurd ⟨f, a, e1, e2, e5, e6⟩ a'
  · exact absurd ⟨f', a', d1, d2, d5, d6⟩ a
  · exact i_same b b'
theorem AnStrict.inj {s : ST} {p q r r' : Int32} (h1 : AnStrict s p q r) (h2 : AnStrict s p q r') : r = r' := by
  rcases h1 with ⟨f, k, a, b, c, d, e⟩ | ⟨a, b⟩ <;> rcases h2 with ⟨f', k', a', b', c', d', e'⟩ | ⟨a', b'⟩
  · obtain rfl : f = f' := by omega
    obtain rfl : k = k' := by omega
    exact i_same e e'
  · omega
  · omega
  · exact i_same b b'
theorem AnEarly.inj {s : ST} {p q r r' : Int32} (h1 : AnEarly s p q r) (h2 : AnEarly s p q r') : r = r' := by
  rcases h1 with ⟨f, k, a, b, c, d, e⟩ | ⟨a, b⟩ <;> rcases h2 with ⟨f', k', a', b', c', d', e'⟩ | ⟨a', b'⟩
  · obtain rfl : f = f' := by omega
    obtain rfl : k = k' := by omega
    exact i_same e e'
  · omega
  · omega
  · exact i_same b b'
theorem Bq.uni {r r' : Int32} {P : Prop} (h : Bq r P) (h' : Bq r' P) : r = r' := by
  rcases h with ⟨a, b⟩ | ⟨a, b⟩ <;> rcases h' with ⟨a', b'⟩ | ⟨a', b'⟩
  · rw [a, a']
  · exact absurd b b'
  · exact absurd b' b
  · rw [a, a']
theorem AnSame.inj {s : ST} {p q r r' : Int32} (h1 : AnSame s p q r) (h2 : AnSame s p q r') : r = r' := by
  rcases h1 with ⟨f, k, K, a, b, c, d, e, x⟩ | ⟨a, b⟩ <;> rcases h2 with ⟨f', k', K', a', b', c', d', e', x'⟩ | ⟨a', b'⟩
  · obtain rfl : f = f' := by omega
    obtain rfl : k = k' := by omega
    rw [e.inj e'] at x
    exact x.uni x'
  · omega
  · omega
  · exact i_same b b'
theorem AnFirst.inj {s : ST} {p q r r' : Int32} (h1 : AnFirst s p q r) (h2 : AnFirst s p q r') : r = r' := by
  rcases h1 with ⟨f, k, K, a, b, c, d, e, x⟩ | ⟨a, b⟩ <;> rcases h2 with ⟨f', k', K', a', b', c', d', e', x'⟩ | ⟨a', b'⟩
  · obtain rfl : f = f' := by omega
    obtain rfl : k = k' := by omega
    rw [e.inj e'] at x
    rcases x with ⟨i, x1, x2, x3, x4⟩ | ⟨x1, x2⟩ <;> rcases x' with ⟨j, y1, y2, y3, y4⟩ | ⟨y1, y2⟩
    · have : i = j := by
        rcases Nat.lt_trichotomy i j with z | z | z
        · exact absurd x2 (y3 i z)
        · exact z
        · exact absurd y2 (x3 j z)
      rw [this] at x4
      exact i_same x4 y4
    · exact absurd x2 (y1 i x1)
    · exact absurd y2 (x1 j y1)
    · exact i_same x2 y2
  · omega
  · omega
  · exact i_same b b'
theorem AnMakes.inj {s : ST} {p q r r' : Int32} (h1 : AnMakes s p q r) (h2 : AnMakes s p q r') : r = r' := by
  rcases h1 with ⟨f, a, e1, e2, e3, e4, x⟩ | ⟨a, b⟩ <;> rcases h2 with ⟨f', a', d1, d2, d3, d4, x'⟩ | ⟨a', b'⟩
  · obtain rfl : f = f' := by omega
    obtain rfl : a = a' := by omega
    rcases x with ⟨x1, x2⟩ | ⟨x1, ⟨i, k, u1, u2, u3, u4, u5⟩ | ⟨u1, u2⟩⟩ <;> rcases x' with ⟨y1, y2⟩ | ⟨y1, ⟨j, l, v1, v2, v3, v4, v5⟩ | ⟨v1, v2⟩⟩
    · exact i_same x2 y2
    · exact absurd x1 y1
    · exact absurd x1 y1
    · exact absurd y1 x1
    · have z1 := AnMakes.no u3 v4 u1 u2
      have z2 := AnMakes.no v3 u4 v1 v2
      obtain rfl : i = j := by omega
      obtain rfl : k = l := by omega
      exact i_same u5 v5
    · exact absurd u3 (v1 i k u1 u2)
    · exact absurd y1 x1
    · exact absurd v3 (u1 j l v1 v2)
    · exact i_same u2 v2
  · exact absurd ⟨f, a, e1, e2, e3, e4⟩ a'
  · exact absurd ⟨f', a', d1, d2, d3, d4⟩ a
  · exact i_same b b'
theorem AnDay.inj {s : ST} {p q k r r' : Int32} (h1 : AnDay s p q k r) (h2 : AnDay s p q k r') : r = r' := by
  rcases h1 with ⟨z, n, w, M, a1, a2, a3, a4, a5, a6, a7, a8, a9⟩ | ⟨a, b⟩ <;> rcases h2 with ⟨z', n', w', M', b1, b2, b3, b4, b5, b6, b7, b8, b9⟩ | ⟨a', b'⟩
  · obtain rfl : z = z' := by omega
    obtain rfl : n = n' := by omega
    obtain rfl : w = w' := by omega
    have e := a8.inj b8
    subst e
    rcases a9 with ⟨c1, c2⟩ | ⟨c1, K, c2, c3⟩ <;> rcases b9 with ⟨d1, d2⟩ | ⟨d1, L, d2, d3⟩
    · exact i_same c2 d2
    · omega
    · omega
    · rw [c2.inj d2] at c3
      exact i_same c3 d3
  · omega
  · omega
  · exact i_same b b'
theorem sm_mo {f : Nat → Nat} {a : Nat} : ∀ j, sm f a ≤ sm f (a + j)
  | 0 => Nat.le_refl _
  | j + 1 => Nat.le_trans (sm_mo j) (by show sm f (a + j) ≤ sm f (a + j) + f (a + j); omega)
theorem AnFrontier.inj {s : ST} {p k r r' : Int32} (h1 : AnFrontier s p k r) (h2 : AnFrontier s p k r') : r = r' := by
  rcases h1 with ⟨f, K, a, b, c, x⟩ | ⟨a, b⟩ <;> rcases h2 with ⟨f', K', a', b', c', x'⟩ | ⟨a', b'⟩
  · obtain rfl : f = f' := by omega
    rw [c.inj c'] at x
    rcases x with ⟨x1, x2⟩ | ⟨x1, ⟨i, u1, u2, u3, u4⟩ | ⟨u1, u2⟩⟩ <;> rcases x' with ⟨y1, y2⟩ | ⟨y1, ⟨j, v1, v2, v3, v4⟩ | ⟨v1, v2⟩⟩
    · exact i_same x2 y2
    · omega
    · omega
    · omega
    · have : i = j := by
        rcases Nat.lt_trichotomy i j with z | z | z
        · obtain ⟨d, rfl⟩ : ∃ d, j = i + 1 + d := ⟨j - i - 1, by omega⟩
          have q := sm_mo (f := fF (mTab 1 (sM s) K') f) (a := i + 1) d
          have q2 := sm_1 (f := fF (mTab 1 (sM s) K') f) u2
          omega
        · exact z
        · obtain ⟨d, rfl⟩ : ∃ d, i = j + 1 + d := ⟨i - j - 1, by omega⟩
          have q := sm_mo (f := fF (mTab 1 (sM s) K') f) (a := j + 1) d
          have q2 := sm_1 (f := fF (mTab 1 (sM s) K') f) v2
          omega
      rw [this] at u4
      exact i_same u4 v4
    · exact absurd u3 (v1 i u1 u2)
    · omega
    · exact absurd v3 (u1 j v1 v2)
    · exact i_same u2 v2
  · omega
  · omega
  · exact i_same b b'
