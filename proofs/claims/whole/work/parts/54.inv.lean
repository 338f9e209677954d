/-! PURE 4: what holds of a shelf goes on holding -/
theorem putA_3 (A : AS) (c q j : Nat) : putA A c q 3 j = if j = q then A 3 q + 1 else A 3 j := by
  simp only [putA, u2, ↓reduceIte, Nat.reduceEqDiff, Nat.zero_ne_one, Nat.one_ne_zero]
theorem putA_4 (A : AS) (c q x : Nat) : putA A c q 4 x = if x = q * 4 + A 3 q then c else A 4 x := by
  simp only [putA, u2, ↓reduceIte, Nat.reduceEqDiff, Nat.zero_ne_one, Nat.one_ne_zero]
theorem putA_2 (A : AS) (c q x : Nat) : putA A c q 2 x = if x = c then q else A 2 x := by
  simp only [putA, u2, ↓reduceIte, Nat.reduceEqDiff, Nat.zero_ne_one, Nat.one_ne_zero]
theorem putA_r (A : AS) (c q : Nat) {k : Nat} (h2 : k ≠ 2) (h3 : k ≠ 3) (h4 : k ≠ 4) : putA A c q k = A k := by
  unfold putA
  rw [u2_row _ _ _ h2, u2_row _ _ _ h3, u2_row _ _ _ h4]
theorem pullA_3 (A : AS) (q j : Nat) : pullA A q 3 j = if j = q then A 3 q - 1 else A 3 j := by
  simp only [pullA, u2, ↓reduceIte, Nat.reduceEqDiff, Nat.zero_ne_one, Nat.one_ne_zero]
theorem pullA_2 (A : AS) (q x : Nat) : pullA A q 2 x = if x = topA A q then 100 else A 2 x := by
  simp only [pullA, u2, topA, ↓reduceIte, Nat.reduceEqDiff, Nat.zero_ne_one, Nat.one_ne_zero]
  rfl
theorem pullA_r (A : AS) (q : Nat) {k : Nat} (h2 : k ≠ 2) (h3 : k ≠ 3) : pullA A q k = A k := by
  unfold pullA
  rw [u2_row _ _ _ h2, u2_row _ _ _ h3]
theorem goA_2 (A : AS) (c col x : Nat) : goA A c col 2 x = if x = c then (if col < A 5 2 ∨ 7 - A 5 2 ≤ col then 102 else 101) else A 2 x := by
  simp only [goA, u2, ↓reduceIte, Nat.reduceEqDiff, Nat.zero_ne_one, Nat.one_ne_zero]
theorem goA_r (A : AS) (c col : Nat) {k : Nat} (h2 : k ≠ 2) : goA A c col k = A k := by
  unfold goA
  rw [u2_row _ _ _ h2]
theorem IA_put {A : AS} (h : IA A) {c q : Nat} (hc : c < A 0 6) (hp : A 2 c = 100) (hq : q < 42) (hh : A 3 q < 4) : IA (putA A c q) := by
  have r0 : putA A c q 0 = A 0 := putA_r A c q (by decide) (by decide) (by decide)
  have r1 : putA A c q 1 = A 1 := putA_r A c q (by decide) (by decide) (by decide)
  have r5 : putA A c q 5 = A 5 := putA_r A c q (by decide) (by decide) (by decide)
  have r6 : putA A c q 6 = A 6 := putA_r A c q (by decide) (by decide) (by decide)
  have hne : ∀ q' i, q' < 42 → i < A 3 q' → A 4 (q' * 4 + i) ≠ c := by
    intro q' i h1 h2 e
    have h3 := (ia_s h h1 h2).2
    rw [e, hp] at h3
    omega
  unfold IA
  rw [r0, r1, r5, r6]
  refine ⟨⟨h.1.1, h.1.2.1, fun x hx => ?_⟩, ⟨fun j hj => ?_, fun q' i hq' hi => ?_, fun q' i j hq' hij hj => ?_, fun x hx hx2 => ?_⟩, h.2.2.1, h.2.2.2⟩
  · rw [putA_2]
    split
    · exact Or.inl hq
    · exact ia_p h hx
  · rw [putA_3]
    split
    · omega
    · exact ia_h h hj
  · rw [putA_3] at hi
    rw [putA_4, putA_2]
    by_cases e : q' * 4 + i = q * 4 + A 3 q
    · have e1 : q' = q := by
        have := ia_h h hq'
        split at hi <;> omega
      rw [if_pos e, if_pos rfl]
      exact ⟨hc, e1.symm⟩
    · rw [if_neg e]
      have h2 : i < A 3 q' := by
        split at hi
        · rename_i e1
          subst e1
          omega
        · exact hi
      obtain ⟨h3, h4⟩ := ia_s h hq' h2
      rw [if_neg (hne q' i hq' h2)]
      exact ⟨h3, h4⟩
  · rw [putA_3] at hj
    rw [putA_4, putA_4]
    have hb := ia_h h hq'
    by_cases e : q' = q
    · subst e
      rw [if_pos rfl] at hj
      rw [if_neg (by omega)]
      by_cases e2 : j = A 3 q'
      · subst e2
        rw [if_pos rfl]
        exact hne q' i hq' hij
      · rw [if_neg (by omega)]
        exact ia_d h hq' hij (by omega)
    · rw [if_neg e] at hj
      rw [if_neg (by omega), if_neg (by omega)]
      exact ia_d h hq' hij hj
  · rw [putA_2] at hx2 ⊢
    by_cases e : x = c
    · subst e
      rw [if_pos rfl]
      refine ⟨A 3 q, ?_, ?_⟩
      · rw [putA_3, if_pos rfl]
        omega
      · rw [putA_4, if_pos rfl]
    · rw [if_neg e] at hx2 ⊢
      obtain ⟨i, h1, h2⟩ := ia_o h hx hx2
      have hb := ia_h h hx2
      refine ⟨i, ?_, ?_⟩
      · rw [putA_3]
        split
        · rename_i e1
          rw [e1] at h1
          omega
        · exact h1
      · rw [putA_4, if_neg ?_]
        · exact h2
        · intro e1
          have e2 : A 2 x = q := by omega
          rw [e2] at h1 e1
          omega
theorem IA_pull {A : AS} (h : IA A) {q : Nat} (hq : q < 42) (hh : 0 < A 3 q) : IA (pullA A q) ∧ topA A q < A 0 6 ∧ pullA A q 2 (topA A q) = 100 := by
  have r0 : pullA A q 0 = A 0 := pullA_r A q (by decide) (by decide)
  have r1 : pullA A q 1 = A 1 := pullA_r A q (by decide) (by decide)
  have r4 : pullA A q 4 = A 4 := pullA_r A q (by decide) (by decide)
  have r5 : pullA A q 5 = A 5 := pullA_r A q (by decide) (by decide)
  have r6 : pullA A q 6 = A 6 := pullA_r A q (by decide) (by decide)
  obtain ⟨t1, t2⟩ := ia_top h hq hh
  refine ⟨?_, t1, by rw [pullA_2, if_pos rfl]⟩
  unfold IA
  rw [r0, r1, r4, r5, r6]
  have hb := ia_h h hq
  have hne : ∀ q' i, q' < 42 → i < pullA A q 3 q' → i < A 3 q' ∧ A 4 (q' * 4 + i) ≠ topA A q := by
    intro q' i h1 h2
    rw [pullA_3] at h2
    by_cases e : q' = q
    · subst e
      rw [if_pos rfl] at h2
      exact ⟨by omega, ia_d h h1 h2 (by omega)⟩
    · rw [if_neg e] at h2
      refine ⟨h2, fun e2 => ?_⟩
      have h3 := (ia_s h h1 h2).2
      rw [e2, t2] at h3
      exact e h3.symm
  refine ⟨⟨h.1.1, h.1.2.1, fun x hx => ?_⟩, ⟨fun j hj => ?_, fun q' i hq' hi => ?_, fun q' i j hq' hij hj => ?_, fun x hx hx2 => ?_⟩, h.2.2.1, h.2.2.2⟩
  · rw [pullA_2]
    split
    · exact Or.inr (Or.inl rfl)
    · exact ia_p h hx
  · rw [pullA_3]
    split
    · omega
    · exact ia_h h hj
  · obtain ⟨h1, h2⟩ := hne q' i hq' hi
    rw [pullA_2, if_neg h2]
    exact ia_s h hq' h1
  · exact ia_d h hq' hij (hne q' j hq' hj).1
  · rw [pullA_2] at hx2 ⊢
    by_cases e : x = topA A q
    · rw [if_pos e] at hx2
      omega
    · rw [if_neg e] at hx2 ⊢
      obtain ⟨i, h1, h2⟩ := ia_o h hx hx2
      refine ⟨i, ?_, h2⟩
      rw [pullA_3]
      split
      · rename_i e1
        rw [e1] at h1 h2
        by_cases e2 : i = A 3 q - 1
        · exact absurd (by rw [← h2, e2]; rfl) e
        · omega
      · exact h1
theorem IA_go {A : AS} (h : IA A) {c col : Nat} (hp : A 2 c = 100) : IA (goA A c col) := by
  have r0 : goA A c col 0 = A 0 := goA_r A c col (by decide)
  have r1 : goA A c col 1 = A 1 := goA_r A c col (by decide)
  have r3 : goA A c col 3 = A 3 := goA_r A c col (by decide)
  have r4 : goA A c col 4 = A 4 := goA_r A c col (by decide)
  have r5 : goA A c col 5 = A 5 := goA_r A c col (by decide)
  have r6 : goA A c col 6 = A 6 := goA_r A c col (by decide)
  unfold IA
  rw [r0, r1, r3, r4, r5, r6]
  refine ⟨⟨h.1.1, h.1.2.1, fun x hx => ?_⟩, ⟨h.2.1.1, fun q' i hq' hi => ?_, h.2.1.2.2.1, fun x hx hx2 => ?_⟩, h.2.2.1, h.2.2.2⟩
  · rw [goA_2]
    split
    · split
      · exact Or.inr (Or.inr (Or.inr rfl))
      · exact Or.inr (Or.inr (Or.inl rfl))
    · exact ia_p h hx
  · obtain ⟨h1, h2⟩ := ia_s h hq' hi
    rw [goA_2, if_neg ?_]
    · exact ⟨h1, h2⟩
    · intro e
      rw [e, hp] at h2
      omega
  · rw [goA_2] at hx2 ⊢
    by_cases e : x = c
    · rw [if_pos e] at hx2
      split at hx2 <;> omega
    · rw [if_neg e] at hx2 ⊢
      exact ia_o h hx hx2
theorem IA_slide {A : AS} (h : IA A) {q : Nat} (hq : q < 42) (hh : 0 < A 3 q) (hx : q % 6 ≠ 5 → A 3 (q + 1) < 4) : IA (slideA A q) := by
  obtain ⟨h1, h2, h3⟩ := IA_pull h hq hh
  unfold slideA
  split
  · exact IA_go h1 h3
  · rename_i e
    refine IA_put h1 h2 h3 (by omega) ?_
    rw [pullA_3, if_neg (by omega)]
    exact hx e
