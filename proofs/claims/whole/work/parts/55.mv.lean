/-! PURE 5: a stack goes on -/
def sdA (A : AS) (c row : Nat) : Nat := if row = 5 then (if c < A 5 2 ∨ 7 - A 5 2 ≤ c then 102 else 101) else c * 6 + row + 1
theorem mvF_form {c row : Nat} (hc : c < 7) (hr : row < 6) : ∀ (d k : Nat) (B : AS), k + d ≤ 4 → (row ≠ 5 → B 3 (c * 6 + row + 1) = k) →
    (∀ i, i ≠ 2 → i ≠ 3 → i ≠ 4 → mvF c row d k B i = B i) ∧
    (∀ j, mvF c row d k B 3 j = if row ≠ 5 ∧ j = c * 6 + row + 1 then k + d else B 3 j) ∧
    (∀ x, mvF c row d k B 4 x = if row ≠ 5 ∧ (c * 6 + row + 1) * 4 + k ≤ x ∧ x < (c * 6 + row + 1) * 4 + k + d then B 4 (x - 4) else B 4 x) ∧
    (∀ x, ((∃ i, k ≤ i ∧ i < k + d ∧ B 4 ((c * 6 + row) * 4 + i) = x) → mvF c row d k B 2 x = sdA B c row) ∧ ((∀ i, k ≤ i → i < k + d → B 4 ((c * 6 + row) * 4 + i) ≠ x) → mvF c row d k B 2 x = B 2 x)) := by
  intro d
  induction d with
  | zero =>
    intro k B hk h3
    refine ⟨fun _ _ _ _ => rfl, fun j => ?_, fun x => ?_, fun x => ?_⟩
    · show B 3 j = _
      split
      · rename_i e
        rw [e.2, h3 e.1]
        rfl
      · rfl
    · rw [if_neg (by omega)]
      rfl
    · exact ⟨fun ⟨i, h1, h2, _⟩ => absurd h2 (by omega), fun _ => rfl⟩
  | succ d ih =>
    intro k B hk h3
    by_cases e5 : row = 5
    · subst e5
      have hm : mvF c 5 (d + 1) k B = mvF c 5 d (k + 1) (goA B (B 4 ((c * 6 + 5) * 4 + k)) c) := by
        show mvF c 5 d (k + 1) (if 5 = 5 then _ else _) = _
        rw [if_pos rfl]
      obtain ⟨g1, g2, g3, g4⟩ := ih (k + 1) (goA B (B 4 ((c * 6 + 5) * 4 + k)) c) (by omega) (fun e => absurd rfl e)
      rw [hm]
      refine ⟨fun i h1 h2 h4 => by rw [g1 i h1 h2 h4, goA_r _ _ _ h1], fun j => ?_, fun x => ?_, fun x => ?_⟩
      · rw [g2, if_neg (by omega), if_neg (by omega), goA_r _ _ _ (by decide)]
      · rw [g3, if_neg (by omega), if_neg (by omega), goA_r _ _ _ (by decide)]
      · have e1 : sdA (goA B (B 4 ((c * 6 + 5) * 4 + k)) c) c 5 = sdA B c 5 := by
          unfold sdA
          rw [goA_r _ _ _ (by decide)]
        obtain ⟨p1, p2⟩ := g4 x
        rw [e1, goA_r B _ _ (show (4 : Nat) ≠ 2 by decide)] at p1
        rw [goA_r B _ _ (show (4 : Nat) ≠ 2 by decide), goA_2] at p2
        have e2 : sdA B c 5 = if c < B 5 2 ∨ 7 - B 5 2 ≤ c then 102 else 101 := by
          unfold sdA
          rw [if_pos rfl]
        by_cases hx : ∃ i, k + 1 ≤ i ∧ i < k + 1 + d ∧ B 4 ((c * 6 + 5) * 4 + i) = x
        · obtain ⟨i, i1, i2, i3⟩ := hx
          exact ⟨fun _ => p1 ⟨i, i1, i2, i3⟩, fun z => absurd i3 (z i (by omega) (by omega))⟩
        · have p3 := p2 (fun i i1 i2 i3 => hx ⟨i, i1, i2, i3⟩)
          refine ⟨fun ⟨i, i1, i2, i3⟩ => ?_, fun z => ?_⟩
          · have i4 : i = k := by
              by_cases i4 : i = k
              · exact i4
              · exact absurd ⟨i, by omega, by omega, i3⟩ hx
            subst i4
            rw [p3, if_pos i3.symm, e2]
          · rw [p3, if_neg (fun e => z k (Nat.le_refl _) (by omega) e.symm)]
    · have hm : mvF c row (d + 1) k B = mvF c row d (k + 1) (putA B (B 4 ((c * 6 + row) * 4 + k)) (c * 6 + row + 1)) := by
        show mvF c row d (k + 1) (if row = 5 then _ else _) = _
        rw [if_neg e5]
      have h3' := h3 e5
      obtain ⟨g1, g2, g3, g4⟩ := ih (k + 1) (putA B (B 4 ((c * 6 + row) * 4 + k)) (c * 6 + row + 1)) (by omega) (fun _ => by rw [putA_3, if_pos rfl, h3'])
      rw [hm]
      have hlow : ∀ i, i < 4 → putA B (B 4 ((c * 6 + row) * 4 + k)) (c * 6 + row + 1) 4 ((c * 6 + row) * 4 + i) = B 4 ((c * 6 + row) * 4 + i) := by
        intro i hi
        rw [putA_4, if_neg (by omega)]
      refine ⟨fun i h1 h2 h4 => by rw [g1 i h1 h2 h4, putA_r _ _ _ h1 h2 h4], fun j => ?_, fun x => ?_, fun x => ?_⟩
      · rw [g2, putA_3]
        by_cases hj : j = c * 6 + row + 1
        · rw [if_pos ⟨e5, hj⟩, if_pos ⟨e5, hj⟩]
          omega
        · rw [if_neg (fun z : row ≠ 5 ∧ j = c * 6 + row + 1 => hj z.2), if_neg (fun z : row ≠ 5 ∧ j = c * 6 + row + 1 => hj z.2), if_neg hj]
      · rw [g3, putA_4, putA_4, h3']
        by_cases hx : (c * 6 + row + 1) * 4 + k ≤ x ∧ x < (c * 6 + row + 1) * 4 + k + (d + 1)
        · rw [if_pos (show row ≠ 5 ∧ (c * 6 + row + 1) * 4 + k ≤ x ∧ x < (c * 6 + row + 1) * 4 + k + (d + 1) from ⟨e5, hx⟩)]
          by_cases hx2 : x = (c * 6 + row + 1) * 4 + k
          · rw [if_neg (by omega), if_pos hx2]
            congr 1
            omega
          · rw [if_pos ⟨e5, by omega, by omega⟩, if_neg (by omega)]
        · rw [if_neg (by omega), if_neg (by omega), if_neg (by omega)]
      · have e1 : sdA (putA B (B 4 ((c * 6 + row) * 4 + k)) (c * 6 + row + 1)) c row = sdA B c row := by
          unfold sdA
          rw [if_neg e5, if_neg e5]
        have e2 : sdA B c row = c * 6 + row + 1 := by
          unfold sdA
          rw [if_neg e5]
        obtain ⟨p1, p2⟩ := g4 x
        rw [e1] at p1
        rw [putA_2] at p2
        by_cases hx : ∃ i, k + 1 ≤ i ∧ i < k + 1 + d ∧ B 4 ((c * 6 + row) * 4 + i) = x
        · obtain ⟨i, i1, i2, i3⟩ := hx
          exact ⟨fun _ => p1 ⟨i, i1, i2, by rw [hlow i (by omega)]; exact i3⟩, fun z => absurd i3 (z i (by omega) (by omega))⟩
        · have p3 := p2 (fun i i1 i2 i3 => hx ⟨i, i1, i2, by rw [← hlow i (by omega)]; exact i3⟩)
          refine ⟨fun ⟨i, i1, i2, i3⟩ => ?_, fun z => ?_⟩
          · have i4 : i = k := by
              by_cases i4 : i = k
              · exact i4
              · exact absurd ⟨i, by omega, by omega, i3⟩ hx
            subst i4
            rw [p3, if_pos i3.symm, e2]
          · rw [p3, if_neg (fun e => z k (Nat.le_refl _) (by omega) e.symm)]
theorem mvA_form {A : AS} (h : IA A) {c row : Nat} (hc : c < 7) (hr : row < 6) (hz : row ≠ 5 → A 3 (c * 6 + row + 1) = 0) :
    (∀ i, i ≠ 2 → i ≠ 3 → i ≠ 4 → mvA A c row i = A i) ∧
    (∀ j, mvA A c row 3 j = if j = c * 6 + row then 0 else if row ≠ 5 ∧ j = c * 6 + row + 1 then A 3 (c * 6 + row) else A 3 j) ∧
    (∀ x, mvA A c row 4 x = if row ≠ 5 ∧ (c * 6 + row + 1) * 4 ≤ x ∧ x < (c * 6 + row + 1) * 4 + A 3 (c * 6 + row) then A 4 (x - 4) else A 4 x) ∧
    (∀ x, x < A 0 6 → mvA A c row 2 x = if A 2 x = c * 6 + row then sdA A c row else A 2 x) := by
  have hb := ia_h h (show c * 6 + row < 42 by omega)
  obtain ⟨g1, g2, g3, g4⟩ := mvF_form hc hr (A 3 (c * 6 + row)) 0 A (by omega) hz
  unfold mvA
  refine ⟨fun i h1 h2 h4 => by rw [u2_row _ _ _ h2, g1 i h1 h2 h4], fun j => ?_, fun x => ?_, fun x hx => ?_⟩
  · by_cases e : j = c * 6 + row
    · rw [if_pos e, e, u2_eq]
    · rw [if_neg e, u2_ne _ _ (fun z => e z.2), g2, Nat.zero_add]
  · rw [u2_row _ _ _ (by decide), g3, Nat.add_zero]
  · rw [u2_row _ _ _ (by decide)]
    by_cases e : A 2 x = c * 6 + row
    · rw [if_pos e]
      obtain ⟨i, i1, i2⟩ := ia_o h hx (by omega)
      rw [e] at i1 i2
      exact (g4 x).1 ⟨i, Nat.zero_le _, by omega, i2⟩
    · rw [if_neg e]
      refine (g4 x).2 (fun i _ i2 i3 => e ?_)
      rw [← i3]
      exact (ia_s h (by omega) (by omega)).2
theorem IA_mv {A : AS} (h : IA A) {c row : Nat} (hc : c < 7) (hr : row < 6) (hz : row ≠ 5 → A 3 (c * 6 + row + 1) = 0) : IA (mvA A c row) := by
  have hq : c * 6 + row < 42 := by omega
  have hb := ia_h h hq
  obtain ⟨g1, g2, g3, g4⟩ := mvA_form h hc hr hz
  have r0 : mvA A c row 0 = A 0 := g1 0 (by decide) (by decide) (by decide)
  have r1 : mvA A c row 1 = A 1 := g1 1 (by decide) (by decide) (by decide)
  have r5 : mvA A c row 5 = A 5 := g1 5 (by decide) (by decide) (by decide)
  have r6 : mvA A c row 6 = A 6 := g1 6 (by decide) (by decide) (by decide)
  have hs : sdA A c row < 42 ∧ row ≠ 5 ∧ sdA A c row = c * 6 + row + 1 ∨ row = 5 ∧ (sdA A c row = 101 ∨ sdA A c row = 102) := by
    unfold sdA
    by_cases e5 : row = 5
    · rw [if_pos e5]
      split
      · exact Or.inr ⟨e5, Or.inr rfl⟩
      · exact Or.inr ⟨e5, Or.inl rfl⟩
    · rw [if_neg e5]
      exact Or.inl ⟨by omega, e5, rfl⟩
  -- a place of a stack, before
  have key : ∀ q' i, q' < 42 → i < mvA A c row 3 q' → q' ≠ c * 6 + row ∧ ∃ q0 , q0 < 42 ∧ i < A 3 q0 ∧ mvA A c row 4 (q' * 4 + i) = A 4 (q0 * 4 + i) ∧ ((q' = c * 6 + row + 1 ∧ row ≠ 5 ∧ q0 = c * 6 + row) ∨ (¬ (q' = c * 6 + row + 1 ∧ row ≠ 5) ∧ q0 = q')) := by
    intro q' i h1 h2
    rw [g2] at h2
    by_cases e1 : q' = c * 6 + row
    · rw [if_pos e1] at h2
      omega
    · rw [if_neg e1] at h2
      refine ⟨e1, ?_⟩
      by_cases e2 : row ≠ 5 ∧ q' = c * 6 + row + 1
      · rw [if_pos e2] at h2
        refine ⟨c * 6 + row, hq, h2, ?_, Or.inl ⟨e2.2, e2.1, rfl⟩⟩
        rw [g3, if_pos ⟨e2.1, by omega, by omega⟩]
        congr 1
        omega
      · rw [if_neg e2] at h2
        have hb' := ia_h h h1
        refine ⟨q', h1, h2, ?_, Or.inr ⟨fun z => e2 ⟨z.2, z.1⟩, rfl⟩⟩
        rw [g3, if_neg ?_]
        rintro ⟨z1, z2, z3⟩
        have : q' = c * 6 + row + 1 := by omega
        exact e2 ⟨z1, this⟩
  unfold IA
  rw [r0, r1, r5, r6]
  refine ⟨⟨h.1.1, h.1.2.1, fun x hx => ?_⟩, ⟨fun j hj => ?_, fun q' i hq' hi => ?_, fun q' i j hq' hij hj => ?_, fun x hx hx2 => ?_⟩, h.2.2.1, h.2.2.2⟩
  · rw [g4 x hx]
    split
    · omega
    · exact ia_p h hx
  · rw [g2]
    have := ia_h h hj
    split
    · omega
    · split <;> omega
  · obtain ⟨k1, q0, k2, k3, k4, k5⟩ := key q' i hq' hi
    obtain ⟨s1, s2⟩ := ia_s h k2 k3
    rw [k4]
    refine ⟨s1, ?_⟩
    rw [g4 _ s1, s2]
    rcases k5 with ⟨z1, z2, z3⟩ | ⟨z1, z2⟩
    · rw [if_pos z3]
      omega
    · rw [if_neg (by omega), z2]
  · obtain ⟨k1, q0, k2, k3, k4, k5⟩ := key q' j hq' hj
    obtain ⟨k1', q0', k2', k3', k4', k5'⟩ := key q' i hq' (by omega)
    have e : q0' = q0 := by omega
    subst e
    rw [k4, k4']
    exact ia_d h k2 hij k3
  · have g4x := g4 x hx
    by_cases e : A 2 x = c * 6 + row
    · rw [if_pos e] at g4x
      rw [g4x] at hx2 ⊢
      obtain ⟨i, i1, i2⟩ := ia_o h hx (by omega)
      rw [e] at i1 i2
      have hs' : row ≠ 5 ∧ sdA A c row = c * 6 + row + 1 := by omega
      refine ⟨i, ?_, ?_⟩
      · rw [g2, hs'.2, if_neg (by omega), if_pos ⟨hs'.1, rfl⟩]
        exact i1
      · rw [g3, hs'.2, if_pos ⟨hs'.1, by omega, by omega⟩]
        rw [← i2]
        congr 1
        omega
    · rw [if_neg e] at g4x
      rw [g4x] at hx2 ⊢
      obtain ⟨i, i1, i2⟩ := ia_o h hx hx2
      have hb' := ia_h h hx2
      have hne : ¬ (row ≠ 5 ∧ A 2 x = c * 6 + row + 1) := by
        rintro ⟨z1, z2⟩
        rw [z2, hz z1] at i1
        omega
      refine ⟨i, ?_, ?_⟩
      · rw [g2, if_neg e, if_neg hne]
        exact i1
      · rw [g3, if_neg ?_]
        · exact i2
        · rintro ⟨z1, z2, z3⟩
          exact hne ⟨z1, by omega⟩
