/-! PURE 39: jolts -/
def frA (A : AS) (q : Nat) : Bool := decide (q % 6 = 5) || decide (A 3 (q + 1) < 4)
def jlA (A : AS) (q : Nat) : Bool := decide (2 ≤ A 3 q) && (frA A q && decide (SLI (A 1 (topA A q)) = 1))
def jrT (row : Nat) : Nat → Nat → TS × Nat → TS × Nat
  | 0, _, P => P
  | n + 1, c, P => jrT row n (c + 1) (if jlA P.1.1 (c * 6 + row) = true then (slT P.1 (c * 6 + row), P.2 + 1) else P)
def jaT : Nat → TS × Nat → TS × Nat
  | 0, P => P
  | n + 1, P => jaT n (jrT n 7 0 P)
theorem jl_pre {A : AS} {q : Nat} (h : jlA A q = true) : 2 ≤ A 3 q ∧ (q % 6 ≠ 5 → A 3 (q + 1) < 4) ∧ SLI (A 1 (topA A q)) = 1 := by
  unfold jlA frA at h
  rw [Bool.and_eq_true, Bool.and_eq_true, Bool.or_eq_true, decide_eq_true_eq, decide_eq_true_eq, decide_eq_true_eq, decide_eq_true_eq] at h
  exact ⟨h.1, fun z => h.2.1.resolve_left z, h.2.2⟩
theorem sli2 {k : Nat} (h : k < 7) : SLI k < 2 := by
  have key : ∀ k, k < 7 → SLI k < 2 := by decide
  exact key k h
theorem lx_36 {A : AS} (h : IA A) {q row cnt : Nat} (hq : q < 42) (k4 : Int32 → Int32 → St → Option (Int32 × St)) (k10 : Int32 → Int32 → Int32 → St → Option (Int32 × St)) :
    X1_shake_L36 k4 k10 (nI cnt) (nI row) (nI q) (nI (if frA A q = true then 1 else 0)) (rp A) = k10 (nI (if jlA A q = true then cnt + 1 else cnt)) (nI row) (nI (q + 6)) (rp (if jlA A q = true then slideA A q else A)) := by
  have h4 := ia_h h hq
  have e6 : nI q + 6 = nI (q + 6) := nI_add q 6
  unfold X1_shake_L36
  rw [e6]
  by_cases f : frA A q = true
  · rw [if_pos f, if_neg (show ¬ nI 1 = 0 by decide), rd_n hq (by decide), bd_some]
    by_cases e2 : 2 ≤ A 3 q
    · rw [if_neg (show ¬ nI (A 3 q) < 2 from ltN (b := 2) (by omega) (by omega)), X1_topSlides_n h hq, bd_some]
      by_cases e3 : SLI (A 1 (topA A q)) = 1
      · have j : jlA A q = true := by
          unfold jlA
          rw [decide_eq_true e2, f, decide_eq_true e3]
          rfl
        rw [j, if_pos rfl, if_pos rfl, if_pos (show 0 < A 3 q ∧ SLI (A 1 (topA A q)) = 1 from ⟨by omega, e3⟩), if_neg (show ¬ nI 1 = 0 by decide), X1_slideTop_n h hq (by omega) (jl_pre j).2.1, bd_some, show nI cnt + 1 = nI (cnt + 1) from (nI_succ cnt).symm]
      · have j : jlA A q = false := by
          unfold jlA
          rw [decide_eq_false e3, Bool.and_false, Bool.and_false]
        rw [j, if_neg Bool.false_ne_true, if_neg Bool.false_ne_true, if_neg (show ¬ (0 < A 3 q ∧ SLI (A 1 (topA A q)) = 1) from fun z => e3 z.2), if_pos (show nI 0 = 0 from rfl)]
    · have j : jlA A q = false := by
        unfold jlA
        rw [decide_eq_false e2, Bool.false_and]
      rw [j, if_neg Bool.false_ne_true, if_neg Bool.false_ne_true, if_pos (show nI (A 3 q) < 2 from ltY (b := 2) (by omega) (by decide))]
  · have j : jlA A q = false := by
      unfold jlA
      rw [Bool.not_eq_true] at f
      rw [f, Bool.false_and, Bool.and_false]
    rw [j, if_neg f, if_neg Bool.false_ne_true, if_neg Bool.false_ne_true, if_pos (show nI 0 = 0 from rfl)]
theorem jr_ok {row : Nat} (hr : row < 6) : ∀ (d c : Nat) (P : TS × Nat), c + d = 7 → IA P.1.1 → IA (jrT row d c P).1.1 ∧ (jrT row d c P).2 ≤ P.2 + d ∧ (jrT row d c P).1.1 0 = P.1.1 0 ∧ (jrT row d c P).1.1 1 = P.1.1 1 ∧ BLR P.1 (jrT row d c P).1 := by
  intro d
  induction d with
  | zero => intro c P _ h; exact ⟨h, Nat.le_refl _, rfl, rfl, bl_id _⟩
  | succ d ih =>
    intro c P hc h
    show IA (jrT row d (c + 1) (if jlA P.1.1 (c * 6 + row) = true then (slT P.1 (c * 6 + row), P.2 + 1) else P)).1.1 ∧ (jrT row d (c + 1) (if jlA P.1.1 (c * 6 + row) = true then (slT P.1 (c * 6 + row), P.2 + 1) else P)).2 ≤ _ ∧ (jrT row d (c + 1) (if jlA P.1.1 (c * 6 + row) = true then (slT P.1 (c * 6 + row), P.2 + 1) else P)).1.1 0 = _ ∧ (jrT row d (c + 1) (if jlA P.1.1 (c * 6 + row) = true then (slT P.1 (c * 6 + row), P.2 + 1) else P)).1.1 1 = _ ∧ BLR P.1 (jrT row d (c + 1) (if jlA P.1.1 (c * 6 + row) = true then (slT P.1 (c * 6 + row), P.2 + 1) else P)).1
    by_cases e : jlA P.1.1 (c * 6 + row) = true
    · obtain ⟨j1, j2, j3⟩ := jl_pre e
      rw [if_pos e]
      have hs : IA (slT P.1 (c * 6 + row)).1 := IA_slide h (by omega) (by omega) j2
      obtain ⟨g1, g2, g3, g4, g5⟩ := ih (c + 1) (slT P.1 (c * 6 + row), P.2 + 1) (by omega) hs
      refine ⟨g1, ?_, g3.trans ?_, g4.trans ?_, bl_tr (bl_sl h (by omega) (by omega)) g5⟩
      · exact Nat.le_trans g2 (by show P.2 + 1 + d ≤ P.2 + (d + 1); omega)
      · exact slideA_r (by decide) (by decide) (by decide)
      · exact slideA_r (by decide) (by decide) (by decide)
    · rw [if_neg e]
      obtain ⟨g1, g2, g3, g4, g5⟩ := ih (c + 1) P (by omega) h
      exact ⟨g1, by omega, g3, g4, g5⟩
theorem ja_ok : ∀ (d : Nat) (P : TS × Nat), d ≤ 6 → IA P.1.1 → IA (jaT d P).1.1 ∧ (jaT d P).2 ≤ P.2 + 7 * d ∧ (jaT d P).1.1 0 = P.1.1 0 ∧ (jaT d P).1.1 1 = P.1.1 1 ∧ BLR P.1 (jaT d P).1 := by
  intro d
  induction d with
  | zero => intro P _ h; exact ⟨h, Nat.le_refl _, rfl, rfl, bl_id _⟩
  | succ d ih =>
    intro P hd h
    obtain ⟨f1, f2, f3, f4, f5⟩ := jr_ok (show d < 6 by omega) 7 0 P rfl h
    obtain ⟨g1, g2, g3, g4, g5⟩ := ih (jrT d 7 0 P) (by omega) f1
    exact ⟨g1, by show (jaT d (jrT d 7 0 P)).2 ≤ _; omega, g3.trans f3, g4.trans f4, bl_tr f5 g5⟩
theorem lx_jr {row : Nat} (hr : row < 6) (k4 : Int32 → Int32 → St → Option (Int32 × St)) : ∀ (d c n : Nat) (P : TS × Nat), c + d = 7 → d < n → IA P.1.1 →
    X1_shake_L10 k4 n (nI P.2) (nI row) (nI (c * 6 + row)) (rp P.1.1) = k4 (nI (jrT row d c P).2) (nI row + (-1)) (rp (jrT row d c P).1.1) := by
  intro d
  induction d with
  | zero =>
    intro c n P h1 h2 h
    obtain ⟨n, rfl⟩ : ∃ m, n = m + 1 := ⟨n - 1, by omega⟩
    unfold X1_shake_L10
    rw [if_pos (show (42 : Int32) ≤ nI (c * 6 + row) from leY (a := 42) (by omega) (by omega))]
    rfl
  | succ d ih =>
    intro c n P h1 h2 h
    obtain ⟨n, rfl⟩ : ∃ m, n = m + 1 := ⟨n - 1, by omega⟩
    have hq : c * 6 + row < 42 := by omega
    have z := lx_36 h (row := row) (cnt := P.2) hq k4 (X1_shake_L10 k4 n)
    have w : X1_shake_L10 k4 (n + 1) (nI P.2) (nI row) (nI (c * 6 + row)) (rp P.1.1) = X1_shake_L36 k4 (X1_shake_L10 k4 n) (nI P.2) (nI row) (nI (c * 6 + row)) (nI (if frA P.1.1 (c * 6 + row) = true then 1 else 0)) (rp P.1.1) := by
      show (if (42 : Int32) ≤ nI (c * 6 + row) then _ else _) = _
      rw [if_neg (show ¬ (42 : Int32) ≤ nI (c * 6 + row) from leN (a := 42) (by omega) (by decide))]
      unfold X1_shake_L31
      by_cases e : row = 5
      · rw [if_pos (show nI row = 5 from congrArg nI e), if_pos (show frA P.1.1 (c * 6 + row) = true by unfold frA; rw [decide_eq_true (show (c * 6 + row) % 6 = 5 by omega)]; rfl)]
        rfl
      · have q5 : decide ((c * 6 + row) % 6 = 5) = false := decide_eq_false (by omega)
        rw [if_neg (show ¬ nI row = 5 from eqN (b := 5) e (by omega) (by decide)), show nI (c * 6 + row) + 1 = nI (c * 6 + row + 1) from (nI_succ _).symm, X1_hasRoom_n h (show c * 6 + row + 1 < 42 by omega), bd_some]
        by_cases e2 : P.1.1 3 (c * 6 + row + 1) < 4
        · rw [if_pos e2, if_neg (show ¬ nI 1 = 0 by decide), if_pos (show frA P.1.1 (c * 6 + row) = true by unfold frA; rw [q5, decide_eq_true e2]; rfl)]
          rfl
        · rw [if_neg e2, if_pos (show nI 0 = 0 from rfl), if_neg (show ¬ frA P.1.1 (c * 6 + row) = true by unfold frA; rw [q5, decide_eq_false e2]; decide)]
          rfl
    rw [w, z, show c * 6 + row + 6 = (c + 1) * 6 + row by omega]
    show _ = k4 (nI (jrT row d (c + 1) (if jlA P.1.1 (c * 6 + row) = true then (slT P.1 (c * 6 + row), P.2 + 1) else P)).2) _ (rp (jrT row d (c + 1) (if jlA P.1.1 (c * 6 + row) = true then (slT P.1 (c * 6 + row), P.2 + 1) else P)).1.1)
    by_cases e : jlA P.1.1 (c * 6 + row) = true
    · obtain ⟨j1, j2, j3⟩ := jl_pre e
      have hs : IA (slT P.1 (c * 6 + row)).1 := IA_slide h (by omega) (by omega) j2
      rw [if_pos e, if_pos e, if_pos e]
      exact ih (c + 1) n (slT P.1 (c * 6 + row), P.2 + 1) (by omega) (by omega) hs
    · rw [if_neg e, if_neg e, if_neg e]
      exact ih (c + 1) n P (by omega) (by omega) h
theorem lx_ja : ∀ (d n : Nat) (P : TS × Nat), d ≤ 6 → d < n → IA P.1.1 → X1_shake_L4 n (nI P.2) (nI d + (-1)) (rp P.1.1) = some (nI (jaT d P).2, rp (jaT d P).1.1) := by
  intro d
  induction d with
  | zero =>
    intro n P h1 h2 h
    obtain ⟨n, rfl⟩ : ∃ m, n = m + 1 := ⟨n - 1, by omega⟩
    unfold X1_shake_L4
    rw [if_pos (by decide)]
    rfl
  | succ d ih =>
    intro n P h1 h2 h
    obtain ⟨n, rfl⟩ : ∃ m, n = m + 1 := ⟨n - 1, by omega⟩
    unfold X1_shake_L4
    have z := lx_jr (row := d) (by omega) (X1_shake_L4 n) 7 0 FU P rfl (by decide) h
    rw [show 0 * 6 + d = d by omega] at z
    rw [mn_n, if_neg (nI_pos (by omega)), z, ih n (jrT d 7 0 P) (by omega) (by omega) (jr_ok (show d < 6 by omega) 7 0 P rfl h).1]
    rfl
theorem X1_shake_n {T : TS} (h : IA T.1) : X1_shake (rp T.1) = some (nI (jaT 6 (T, 0)).2, rp (jaT 6 (T, 0)).1.1) := lx_ja 6 FU (T, 0) (by decide) (by decide) h
theorem lm_45 {m : St} {P : TS × Nat} (h : IA P.1.1) {c row : Nat} (hc : c < 7) (hr : row < 6) (k4 : Int32 → Int32 → St → Option (Int32 × St)) (k10 : Int32 → Int32 → Int32 → St → Option (Int32 × St)) :
    X4_jolt_L45 k4 k10 (nI P.2) (nI row) (nI c) (nI (c * 6 + row)) (nI (if frA P.1.1 (c * 6 + row) = true then 1 else 0)) (mst m P.1) = k10 (nI (if jlA P.1.1 (c * 6 + row) = true then (slT P.1 (c * 6 + row), P.2 + 1) else P).2) (nI row) (nI (c + 1)) (mst m (if jlA P.1.1 (c * 6 + row) = true then (slT P.1 (c * 6 + row), P.2 + 1) else P).1) := by
  have hq : c * 6 + row < 42 := by omega
  have h4 := ia_h h hq
  unfold X4_jolt_L45
  rw [X4_highOf_n hq, bd_some, show nI c + 1 = nI (c + 1) from (nI_succ c).symm]
  by_cases e2 : 2 ≤ P.1.1 3 (c * 6 + row)
  · rw [if_neg (show ¬ nI (P.1.1 3 (c * 6 + row)) ≤ 1 from leN (b := 1) (by omega) (by omega))]
    by_cases f : frA P.1.1 (c * 6 + row) = true
    · have t := (ia_top h hq (by omega)).1
      have hk := ia_k h t
      have hn := ia_n h
      rw [if_pos f, if_neg (show ¬ nI 1 = 0 by decide), X4_topOf_n hq (by omega) h4, bd_some, X4_slides_n (by omega) hk, bd_some]
      have s2 := sli2 hk
      by_cases e3 : SLI (P.1.1 1 (topA P.1.1 (c * 6 + row))) = 1
      · have j : jlA P.1.1 (c * 6 + row) = true := by
          unfold jlA
          rw [decide_eq_true e2, f, decide_eq_true e3]
          rfl
        rw [if_pos j, e3, if_neg (show ¬ nI 1 = 0 by decide), X4_slidesOff_n h hc hr (by omega) (jl_pre j).2.1, bd_some, show nI P.2 + 1 = nI (P.2 + 1) from (nI_succ P.2).symm]
      · have j : jlA P.1.1 (c * 6 + row) = false := by
          unfold jlA
          rw [decide_eq_false e3, Bool.and_false, Bool.and_false]
        rw [j, if_neg Bool.false_ne_true, show SLI (P.1.1 1 (topA P.1.1 (c * 6 + row))) = 0 by omega, if_pos (show nI 0 = 0 from rfl)]
    · have j : jlA P.1.1 (c * 6 + row) = false := by
        unfold jlA
        rw [Bool.not_eq_true] at f
        rw [f, Bool.false_and, Bool.and_false]
      rw [j, if_neg f, if_neg Bool.false_ne_true, if_pos (show nI 0 = 0 from rfl)]
  · have j : jlA P.1.1 (c * 6 + row) = false := by
      unfold jlA
      rw [decide_eq_false e2, Bool.false_and]
    rw [j, if_neg Bool.false_ne_true, if_pos (show nI (P.1.1 3 (c * 6 + row)) ≤ 1 from leY (b := 1) (by omega) (by decide))]
theorem lm_jr {m : St} {row : Nat} (hr : row < 6) (k4 : Int32 → Int32 → St → Option (Int32 × St)) : ∀ (d c n : Nat) (P : TS × Nat), c + d = 7 → d < n → IA P.1.1 →
    X4_jolt_L10 k4 n (nI P.2) (nI row) (nI c) (mst m P.1) = k4 (nI (jrT row d c P).2) (nI row + (-1)) (mst m (jrT row d c P).1) := by
  intro d
  induction d with
  | zero =>
    intro c n P h1 h2 h
    obtain ⟨n, rfl⟩ : ∃ m, n = m + 1 := ⟨n - 1, by omega⟩
    unfold X4_jolt_L10
    rw [if_pos (show (7 : Int32) ≤ nI c from leY (a := 7) (by omega) (by omega))]
    rfl
  | succ d ih =>
    intro c n P h1 h2 h
    obtain ⟨n, rfl⟩ : ∃ m, n = m + 1 := ⟨n - 1, by omega⟩
    have hq : c * 6 + row < 42 := by omega
    have z := lm_45 (m := m) (P := P) h (c := c) (row := row) (by omega) hr k4 (X4_jolt_L10 k4 n)
    have w : X4_jolt_L10 k4 (n + 1) (nI P.2) (nI row) (nI c) (mst m P.1) = X4_jolt_L45 k4 (X4_jolt_L10 k4 n) (nI P.2) (nI row) (nI c) (nI (c * 6 + row)) (nI (if frA P.1.1 (c * 6 + row) = true then 1 else 0)) (mst m P.1) := by
      show (if (7 : Int32) ≤ nI c then _ else _) = _
      rw [if_neg (show ¬ (7 : Int32) ≤ nI c from leN (a := 7) (by omega) (by decide))]
      unfold X4_jolt_L40
      rw [X4_cellOf_n]
      by_cases e : row = 5
      · rw [if_pos (show nI row = 5 from congrArg nI e), if_pos (show frA P.1.1 (c * 6 + row) = true by unfold frA; rw [decide_eq_true (show (c * 6 + row) % 6 = 5 by omega)]; rfl)]
        rfl
      · have q5 : decide ((c * 6 + row) % 6 = 5) = false := decide_eq_false (by omega)
        have h41 := ia_h h (show c * 6 + row + 1 < 42 by omega)
        rw [if_neg (show ¬ nI row = 5 from eqN (b := 5) e (by omega) (by decide)), show nI (c * 6 + row) + 1 = nI (c * 6 + row + 1) from (nI_succ _).symm, X4_highOf_n (show c * 6 + row + 1 < 42 by omega), bd_some]
        by_cases e2 : P.1.1 3 (c * 6 + row + 1) < 4
        · rw [if_neg (show ¬ (4 : Int32) ≤ nI (P.1.1 3 (c * 6 + row + 1)) from leN (a := 4) (by omega) (by decide)), if_pos (show frA P.1.1 (c * 6 + row) = true by unfold frA; rw [q5, decide_eq_true e2]; rfl)]
          rfl
        · rw [if_pos (show (4 : Int32) ≤ nI (P.1.1 3 (c * 6 + row + 1)) from leY (a := 4) (by omega) (by omega)), if_neg (show ¬ frA P.1.1 (c * 6 + row) = true by unfold frA; rw [q5, decide_eq_false e2]; decide)]
          rfl
    rw [w, z]
    show _ = k4 (nI (jrT row d (c + 1) (if jlA P.1.1 (c * 6 + row) = true then (slT P.1 (c * 6 + row), P.2 + 1) else P)).2) _ (mst m (jrT row d (c + 1) (if jlA P.1.1 (c * 6 + row) = true then (slT P.1 (c * 6 + row), P.2 + 1) else P)).1)
    by_cases e : jlA P.1.1 (c * 6 + row) = true
    · obtain ⟨j1, j2, j3⟩ := jl_pre e
      have hs : IA (slT P.1 (c * 6 + row)).1 := IA_slide h (by omega) (by omega) j2
      rw [if_pos e]
      exact ih (c + 1) n (slT P.1 (c * 6 + row), P.2 + 1) (by omega) (by omega) hs
    · rw [if_neg e]
      exact ih (c + 1) n P (by omega) (by omega) h
theorem lm_ja {m : St} : ∀ (d n : Nat) (P : TS × Nat), d ≤ 6 → d < n → IA P.1.1 → X4_jolt_L4 n (nI P.2) (nI d + (-1)) (mst m P.1) = some (nI (jaT d P).2, mst m (jaT d P).1) := by
  intro d
  induction d with
  | zero =>
    intro n P h1 h2 h
    obtain ⟨n, rfl⟩ : ∃ m, n = m + 1 := ⟨n - 1, by omega⟩
    unfold X4_jolt_L4
    rw [if_pos (by decide)]
    rfl
  | succ d ih =>
    intro n P h1 h2 h
    obtain ⟨n, rfl⟩ : ∃ m, n = m + 1 := ⟨n - 1, by omega⟩
    unfold X4_jolt_L4
    have z := lm_jr (m := m) (row := d) (by omega) (X4_jolt_L4 n) 7 0 FU P rfl (by decide) h
    rw [mn_n, if_neg (nI_pos (by omega)), show (0 : Int32) = nI 0 from rfl, z, ih n (jrT d 7 0 P) (by omega) (by omega) (jr_ok (show d < 6 by omega) 7 0 P rfl h).1]
    rfl
theorem X4_jolt_n {m : St} {T : TS} (h : IA T.1) : X4_jolt (mst m T) = some (nI (jaT 6 (T, 0)).2, mst m (jaT 6 (T, 0)).1) := lm_ja 6 FU (T, 0) (by decide) (by decide) h
theorem e7_jl {A B : AS} (h : E7 A B) (q : Nat) : jlA A q = jlA B q := by
  unfold jlA frA
  rw [h 3 (by decide), h 1 (by decide), e7_top h]
theorem e7_jr (row : Nat) : ∀ (d c : Nat) (P Q : TS × Nat), E7T P.1 Q.1 → P.2 = Q.2 → E7T (jrT row d c P).1 (jrT row d c Q).1 ∧ (jrT row d c P).2 = (jrT row d c Q).2 := by
  intro d
  induction d with
  | zero => intro c P Q h h2; exact ⟨h, h2⟩
  | succ d ih =>
    intro c P Q h h2
    unfold jrT
    rw [e7_jl h.1]
    split
    · exact ih (c + 1) _ _ (e7_sl h _) (by show P.2 + 1 = Q.2 + 1; rw [h2])
    · exact ih (c + 1) _ _ h h2
theorem e7_ja : ∀ (d : Nat) (P Q : TS × Nat), E7T P.1 Q.1 → P.2 = Q.2 → E7T (jaT d P).1 (jaT d Q).1 ∧ (jaT d P).2 = (jaT d Q).2 := by
  intro d
  induction d with
  | zero => intro P Q h h2; exact ⟨h, h2⟩
  | succ d ih =>
    intro P Q h h2
    obtain ⟨g1, g2⟩ := e7_jr d 7 0 P Q h h2
    exact ih _ _ g1 g2
theorem op_jolt : OPR X3_jolt X4_jolt := by
  intro x mm h
  obtain ⟨A, o, v, m0, hA, hb, hx, rfl, hr⟩ := RLL_st h
  obtain ⟨g1, g2, g3, g4, g5⟩ := ja_ok 6 ((A, o, v), 0) (by decide) hA
  have z1 : X1_shake (rp A) = _ := X1_shake_n (T := (A, o, v)) hA
  have z2 := X4_jolt_n (m := m0) (T := (A, o, v)) hA
  generalize jaT 6 ((A, o, v), 0) = J at g1 g2 g3 g4 g5 z1 z2
  obtain ⟨⟨B, o', v'⟩, c⟩ := J
  have hB : B 0 7 ≤ 9999 := by
    have q : B 0 = A 0 := g3
    rw [q]
    exact hb
  have fin : RLL (put x 1 7 (rp B)) (mst m0 (B, o', v')) := RLL_new g1 hB hr
  unfold X3_jolt
  rw [hx, z1, bd_some, z2]
  exact ⟨nI c, _, _, rfl, rfl, fin⟩
theorem op_jolted : OPR X3_jolted X4_jolted := by
  intro x mm h
  obtain ⟨A, o, v, m0, hA, hb, hx, rfl, hr⟩ := RLL_st h
  obtain ⟨g1, g2, g3, g4, g5, g6, g7⟩ := ja_ok 6 ((A, o, v), 0) (by decide) hA
  have hn := ia_n hA
  have hi := is_x hx
  obtain ⟨B, h1, h2⟩ := is_blk (is_cpy (b2 := 15) hi)
  have z := X1_shake_n (T := (B, o, v)) (IA_eq h1 hA)
  obtain ⟨w1, w2⟩ := e7_ja 6 ((A, o, v), 0) ((B, o, v), 0) ⟨h1, rfl⟩ rfl
  have c0 : (jaT 6 ((A, o, v), 0)).1.1 0 6 = A 0 6 := congrFun g3 6
  have z4 := X4_jolt_n (m := cpm m0 A) (T := (A, o, v)) hA
  generalize jaT 6 ((A, o, v), 0) = J at g1 g2 g3 g4 g5 g6 g7 w1 w2 c0 z4
  generalize jaT 6 ((B, o, v), 0) = K at z w1 w2
  rw [← w2] at z
  have t15 : Is (put (put x 15 7 (blk x 1)) 15 7 (rp K.1.1)) 15 J.1.1 := is_put _ 15 w1.1
  have t1 : Is (put (put x 15 7 (blk x 1)) 15 7 (rp K.1.1)) 1 A := is_oth (is_oth hi (Or.inl (by decide))) (Or.inl (by decide))
  have kk : Kp x (put (put x 15 7 (blk x 1)) 15 7 (rp K.1.1)) := kp_tr (kp_put x _ (Or.inl rfl)) (kp_put _ _ (Or.inl rfl))
  have as := cpm_as m0 A
  have l2 : J.2 < 2147483648 := by
    have : J.2 ≤ 0 + 7 * 6 := g2
    omega
  unfold X3_jolted X4_jolted
  rw [bd_some, h2, z, bd_some]
  dsimp only
  rw [bd_some, show (101 : Int32) = nI 101 from rfl, is_worthAt t15 g1 (by decide), bd_some, is_worthAt t1 hA (by decide), bd_some, show X4_copyRow 1 3 (mst m0 (A, o, v)) = some (mst (cpm m0 A) (A, o, v)) from X4_aside_n m0 (A, o, v), bd_some, X4_setOf_n (T := (A, o, v)) hA (by decide) (by decide), bd_some, z4, bd_some]
  dsimp only
  rw [if_pos (nI_pos' l2), X4_setOf_n (T := J.1) g1 (by decide) (by decide), bd_some, wo_n, X4_worthOf_n (T := J.1) g1 (wo_lt (show msk J.1.1 101 < 2147483648 by have := msk_lt (A := J.1.1) (by omega) 101; omega)), bd_some, X4_putBack_n as, bd_some]
  have wm := won_more (A := A) (B := J.1.1) hn c0 g4 g7
  have fin : RLL (put (put x 15 7 (blk x 1)) 15 7 (rp K.1.1)) (mst (cpm m0 A) (A, J.1.2)) := RLL_try (o' := J.1.2.1) (v' := J.1.2.2) hA hb hx hr kk (km_cpm m0 A)
  refine ⟨_, _, _, rfl, ?_, fin⟩
  · refine congrArg some (Prod.ext ?_ rfl)
    show nI (wot J.1.1 (wo_ (msk J.1.1 101) (msk A 101))) = nI (wot J.1.1 (msk J.1.1 101)) - nI (wot A (msk A 101))
    rw [sub_n (by omega)]
    refine congrArg nI ?_
    omega
