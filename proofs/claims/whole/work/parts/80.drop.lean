/-! PURE 30: a drop takes one coin out of the hand -/
theorem dp_2 {A : AS} (h : IA A) {c col : Nat} (hl : col < 7) (x : Nat) : dpA A c col 2 x = 100 ↔ (A 2 x = 100 ∧ x ≠ c) := by
  have hm := Nat.mod_lt (A 0 7) (show 2 > 0 by decide)
  obtain ⟨f1, f2⟩ := fcA_col (fun q hq => ia_h h hq) hm (7 - col) col (by omega)
  unfold dpA
  dsimp only
  by_cases e : fcA A (A 0 7 % 2) (7 - col) col = 7
  · rw [if_pos e]
    show (if x = c then 102 else A 2 x) = 100 ↔ _
    by_cases q : x = c
    · rw [if_pos q]
      exact ⟨fun z => absurd z (by decide), fun z => absurd q z.2⟩
    · rw [if_neg q]
      exact ⟨fun z => ⟨z, q⟩, fun z => z.1⟩
  · rw [if_neg e, putA_2]
    by_cases q : x = c
    · rw [if_pos q]
      exact ⟨fun z => by omega, fun z => absurd q z.2⟩
    · rw [if_neg q]
      exact ⟨fun z => ⟨z, q⟩, fun z => z.1⟩
theorem dp_r {A : AS} (c col : Nat) : dpA A c col 0 6 = A 0 6 ∧ dpA A c col 1 = A 1 := by
  unfold dpA
  dsimp only
  split
  · exact ⟨rfl, rfl⟩
  · exact ⟨rfl, rfl⟩
theorem dr_hand {A : AS} (h : IA A) {c col : Nat} (hc : c < A 0 6) (hp : A 2 c = 100) (hl : col < 7) : drA A c col 0 6 = A 0 6 ∧ drA A c col 1 = A 1 ∧ (∀ x, x < A 0 6 → (drA A c col 2 x = 100 ↔ (A 2 x = 100 ∧ x ≠ c))) ∧ hcA (drA A c col) + 1 = hcA A := by
  have hd := dpA_IA h hc hp hl
  obtain ⟨d1, d2⟩ := dp_r (A := A) c col
  obtain ⟨b1, b2⟩ := bh_bt (T := (dpA A c col, 0, 0)) hd.1
  have e : drA A c col = (btT (dpA A c col, 0, 0)).1 := rfl
  have r0 : drA A c col 0 6 = A 0 6 := by rw [e, b1]; exact d1
  have r1 : drA A c col 1 = A 1 := by
    rw [e, btT_r _ (by decide) (by decide) (by decide) (by decide)]
    exact d2
  have r2 : ∀ x, x < A 0 6 → (drA A c col 2 x = 100 ↔ (A 2 x = 100 ∧ x ≠ c)) := by
    intro x hx
    rw [e]
    exact (b2 x (by show x < dpA A c col 0 6; omega)).trans (dp_2 h hl x)
  refine ⟨r0, r1, r2, ?_⟩
  unfold hcA
  rw [r0, cn_or (k := fun x => decide (A 2 x = 100)) (f := fun x => decide (drA A c col 2 x = 100)) (g := fun x => decide (x = c)) (A 0 6) 0 (fun x _ hx => ⟨?_, ?_⟩), cn_one (f := fun x => decide (x = c)) (y := c) (A 0 6) 0 (Nat.zero_le _) (by omega) (fun x _ _ => by rw [decide_eq_true_eq])]
  · have z := r2 x (by omega)
    by_cases q : x = c
    · rw [decide_eq_true q, Bool.or_true, q, decide_eq_true hp]
    · rw [decide_eq_false q, Bool.or_false]
      exact decide_eq_decide.mpr ⟨fun w => z.mpr ⟨w, q⟩, fun w => (z.mp w).1⟩
  · rintro ⟨z1, z2⟩
    exact ((r2 x (by omega)).mp (of_decide_eq_true z1)).2 (of_decide_eq_true z2)
/-- some coin is in hand -/
theorem lh_some {A : AS} : ∀ d c, c + d = A 0 6 → 0 < cnF (fun x => decide (A 2 x = 100)) d c → lhA A d c < A 0 6 := by
  intro d
  induction d with
  | zero => intro c _ h; exact absurd h (by show ¬ 0 < 0; decide)
  | succ d ih =>
    intro c h1 h2
    unfold lhA
    by_cases e : A 2 c = 100
    · rw [if_pos e]
      omega
    · rw [if_neg e]
      refine ih (c + 1) (by omega) ?_
      have z : cnF (fun x => decide (A 2 x = 100)) (d + 1) c = (if decide (A 2 c = 100) = true then 1 else 0) + cnF (fun x => decide (A 2 x = 100)) d (c + 1) := rfl
      rw [z, if_neg (by rw [decide_eq_true_eq]; exact e)] at h2
      omega
theorem lih_some {A : AS} (h : 0 < hcA A) : lih A < A 0 6 ∧ A 2 (lih A) = 100 := by
  have e := lh_some (A 0 6) 0 (Nat.zero_add _) h
  exact ⟨e, (lih_hand A).2 e⟩
