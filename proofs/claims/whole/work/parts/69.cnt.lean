/-! PURE 19: how many coins went over -/
def cnF (f : Nat → Bool) : Nat → Nat → Nat
  | 0, _ => 0
  | n + 1, c => (if f c then 1 else 0) + cnF f n (c + 1)
theorem cn_eq {f g : Nat → Bool} : ∀ (d c : Nat), (∀ x, c ≤ x → x < c + d → f x = g x) → cnF f d c = cnF g d c := by
  intro d
  induction d with
  | zero => intro c _; rfl
  | succ d ih =>
    intro c h
    unfold cnF
    rw [h c (Nat.le_refl c) (by omega), ih (c + 1) (fun x h1 h2 => h x (by omega) (by omega))]
theorem cn_or {f g k : Nat → Bool} : ∀ (d c : Nat), (∀ x, c ≤ x → x < c + d → k x = (f x || g x) ∧ ¬ (f x = true ∧ g x = true)) → cnF k d c = cnF f d c + cnF g d c := by
  intro d
  induction d with
  | zero => intro c _; rfl
  | succ d ih =>
    intro c h
    obtain ⟨h1, h2⟩ := h c (Nat.le_refl c) (by omega)
    unfold cnF
    rw [h1, ih (c + 1) (fun x h1 h2 => h x (by omega) (by omega))]
    by_cases e : f c = true
    · by_cases e2 : g c = true
      · exact absurd ⟨e, e2⟩ h2
      · rw [if_pos (by rw [e]; rfl), if_pos e, if_neg e2]
        omega
    · by_cases e2 : g c = true
      · rw [if_pos (by rw [e2]; exact Bool.or_true _), if_neg e, if_pos e2]
        omega
      · rw [if_neg (by rw [Bool.or_eq_true]; exact fun z => z.elim e e2), if_neg e, if_neg e2]
        omega
theorem cn_no {f : Nat → Bool} : ∀ (d c : Nat), (∀ x, c ≤ x → x < c + d → f x = false) → cnF f d c = 0 := by
  intro d
  induction d with
  | zero => intro c _; rfl
  | succ d ih =>
    intro c h
    unfold cnF
    rw [h c (Nat.le_refl c) (by omega), ih (c + 1) (fun x h1 h2 => h x (by omega) (by omega)), if_neg (by decide)]
theorem cn_one {f : Nat → Bool} {y : Nat} : ∀ (d c : Nat), c ≤ y → y < c + d → (∀ x, c ≤ x → x < c + d → (f x = true ↔ x = y)) → cnF f d c = 1 := by
  intro d
  induction d with
  | zero => intro c h1 h2; omega
  | succ d ih =>
    intro c h1 h2 h
    unfold cnF
    by_cases e : c = y
    · rw [if_pos ((h c (Nat.le_refl c) (by omega)).mpr e), cn_no d (c + 1) (fun x h3 h4 => ?_)]
      have := (h x (by omega) (by omega))
      cases q : f x with
      | false => rfl
      | true =>
        have := this.mp q
        omega
    · rw [if_neg (fun z => e ((h c (Nat.le_refl c) (by omega)).mp z)), ih (c + 1) (by omega) (by omega) (fun x h3 h4 => h x (by omega) (by omega))]
theorem cn_le (f : Nat → Bool) : ∀ d c, cnF f d c ≤ d := by
  intro d
  induction d with
  | zero => intro c; exact Nat.le_refl 0
  | succ d ih =>
    intro c
    unfold cnF
    have := ih (c + 1)
    split <;> omega
/-- distinct numbers below n -/
theorem cn_img {n : Nat} (a : Nat → Nat) : ∀ k, (∀ i, i < k → a i < n) → (∀ i j, i < j → j < k → a i ≠ a j) → cnF (fun x => decide (∃ i, i < k ∧ a i = x)) n 0 = k := by
  intro k
  induction k with
  | zero =>
    intro _ _
    exact cn_no n 0 (fun x _ _ => decide_eq_false (fun ⟨i, hi, _⟩ => absurd hi (by omega)))
  | succ k ih =>
    intro h1 h2
    have e := ih (fun i hi => h1 i (by omega)) (fun i j hi hj => h2 i j hi (by omega))
    have o := cn_one (f := fun x => decide (x = a k)) (y := a k) n 0 (Nat.zero_le _) (by have := h1 k (by omega); omega) (fun x _ _ => by rw [decide_eq_true_eq])
    rw [cn_or (f := fun x => decide (∃ i, i < k ∧ a i = x)) (g := fun x => decide (x = a k)) n 0 (fun x _ _ => ⟨?_, ?_⟩), e, o]
    · by_cases q : x = a k
      · rw [decide_eq_true (show ∃ i, i < k + 1 ∧ a i = x from ⟨k, by omega, q.symm⟩), decide_eq_true q, Bool.or_true]
      · rw [decide_eq_false q, Bool.or_false]
        refine decide_eq_decide.mpr ⟨fun ⟨i, i1, i2⟩ => ⟨i, ?_, i2⟩, fun ⟨i, i1, i2⟩ => ⟨i, by omega, i2⟩⟩
        rcases Nat.lt_or_ge i k with z | z
        · exact z
        · exfalso
          have : i = k := by omega
          subst this
          exact q i2.symm
    · rintro ⟨z1, z2⟩
      obtain ⟨i, i1, i2⟩ := of_decide_eq_true z1
      have := of_decide_eq_true z2
      exact h2 i k i1 (by omega) (by omega)
theorem cn_stack {A : AS} (h : IA A) {q : Nat} (hq : q < 42) : cnF (fun x => decide (A 2 x = q)) (A 0 6) 0 = A 3 q := by
  rw [cn_eq (g := fun x => decide (∃ i, i < A 3 q ∧ A 4 (q * 4 + i) = x)) (A 0 6) 0 (fun x _ hx => ?_)]
  · exact cn_img (fun i => A 4 (q * 4 + i)) (A 3 q) (fun i hi => (ia_s h hq hi).1) (fun i j hi hj => ia_d h hq hi hj)
  · refine decide_eq_decide.mpr ⟨fun e => ?_, fun ⟨i, i1, i2⟩ => ?_⟩
    · have := ia_o h (c := x) (by omega) (by omega)
      rw [e] at this
      exact this
    · rw [← i2]
      exact (ia_s h hq i1).2
/-- over: won or lost -/
def ovp (A : AS) (x : Nat) : Bool := decide (A 2 x = 101) || decide (A 2 x = 102)
def gvA (A : AS) : Nat := cnF (ovp A) (A 0 6) 0
/-- what a step keeps: the count, the coins, what lies off the shelf -/
def BLR (T U : TS) : Prop := gvA U.1 + T.2.1 = gvA T.1 + U.2.1 ∧ U.1 0 6 = T.1 0 6 ∧ ∀ c, c < T.1 0 6 → ¬ T.1 2 c < 42 → U.1 2 c = T.1 2 c
theorem bl_id (T : TS) : BLR T T := ⟨rfl, rfl, fun _ _ _ => rfl⟩
theorem bl_tr {T U V : TS} (h1 : BLR T U) (h2 : BLR U V) : BLR T V := by
  obtain ⟨a1, a2, a3⟩ := h1
  obtain ⟨b1, b2, b3⟩ := h2
  refine ⟨by omega, by omega, fun c hc hp => ?_⟩
  have e := a3 c hc hp
  rw [b3 c (by omega) (by rw [e]; exact hp), e]
theorem ov_eq {A B : AS} {x : Nat} (h : A 2 x = B 2 x) : ovp A x = ovp B x := by
  unfold ovp
  rw [h]
theorem ov_no {A : AS} {x : Nat} (h : A 2 x < 101) : ovp A x = false := by
  unfold ovp
  rw [decide_eq_false (by omega), decide_eq_false (by omega)]
  rfl
theorem ov_yes {A : AS} {x : Nat} (h : A 2 x = 101 ∨ A 2 x = 102) : ovp A x = true := by
  unfold ovp
  rcases h with h | h
  · rw [h]; rfl
  · rw [h]; rfl
theorem bl_gn {T : TS} (h : IA T.1) {c row : Nat} (hc : c < 7) (hr : row < 6) (hz : row ≠ 5 → T.1 3 (c * 6 + row + 1) = 0) : BLR T (gnT T c row) := by
  obtain ⟨g1, g2, g3, g4⟩ := mvA_form h hc hr hz
  have r0 : mvA T.1 c row 0 6 = T.1 0 6 := by rw [g1 0 (by decide) (by decide) (by decide)]
  have hq : c * 6 + row < 42 := by omega
  refine ⟨?_, r0, fun x hx hp => ?_⟩
  · show cnF (ovp (mvA T.1 c row)) (mvA T.1 c row 0 6) 0 + T.2.1 = gvA T.1 + (T.2.1 + _)
    rw [r0]
    by_cases e : row = 5
    · rw [if_pos e, cn_or (f := ovp T.1) (g := fun x => decide (T.1 2 x = c * 6 + row)) (T.1 0 6) 0 (fun x _ hx => ⟨?_, ?_⟩), cn_stack h hq]
      · show gvA T.1 + _ + _ = _
        omega
      · have z := g4 x (by omega)
        by_cases e2 : T.1 2 x = c * 6 + row
        · rw [if_pos e2] at z
          rw [decide_eq_true e2, Bool.or_true]
          refine ov_yes ?_
          rw [z]
          unfold sdA
          rw [if_pos e]
          split
          · exact Or.inr rfl
          · exact Or.inl rfl
        · rw [if_neg e2] at z
          rw [decide_eq_false e2, Bool.or_false]
          exact ov_eq z
      · rintro ⟨z1, z2⟩
        have z3 := of_decide_eq_true z2
        rw [ov_no (by omega)] at z1
        exact absurd z1 (by decide)
    · rw [if_neg e, cn_eq (g := ovp T.1) (T.1 0 6) 0 (fun x _ hx => ?_)]
      · show gvA T.1 + _ = _
        omega
      · have z := g4 x (by omega)
        by_cases e2 : T.1 2 x = c * 6 + row
        · rw [if_pos e2] at z
          unfold sdA at z
          rw [if_neg e] at z
          rw [ov_no (show T.1 2 x < 101 by omega), ov_no (by omega)]
        · rw [if_neg e2] at z
          exact ov_eq z
  · show mvA T.1 c row 2 x = _
    rw [g4 x hx, if_neg (by omega)]
theorem bl_sl {T : TS} (h : IA T.1) {q : Nat} (hq : q < 42) (hh : 0 < T.1 3 q) : BLR T (slT T q) := by
  obtain ⟨t1, t2⟩ := ia_top h hq hh
  have r0 : slideA T.1 q 0 6 = T.1 0 6 := by rw [slideA_r (by decide) (by decide) (by decide)]
  have r2 : ∀ x, slideA T.1 q 2 x = if x = topA T.1 q then (if q % 6 = 5 then (if q / 6 < T.1 5 2 ∨ 7 - T.1 5 2 ≤ q / 6 then 102 else 101) else q + 1) else T.1 2 x := by
    intro x
    unfold slideA
    by_cases e : q % 6 = 5
    · rw [if_pos e, goA_2, pullA_2, pullA_r _ _ (by decide) (by decide), if_pos e]
      by_cases e2 : x = topA T.1 q
      · rw [if_pos e2, if_pos e2]
      · rw [if_neg e2, if_neg e2, if_neg e2]
    · rw [if_neg e, putA_2, pullA_2, if_neg e]
      by_cases e2 : x = topA T.1 q
      · rw [if_pos e2, if_pos e2]
      · rw [if_neg e2, if_neg e2, if_neg e2]
  refine ⟨?_, r0, fun x hx hp => ?_⟩
  · show cnF (ovp (slideA T.1 q)) (slideA T.1 q 0 6) 0 + T.2.1 = gvA T.1 + (T.2.1 + _)
    rw [r0]
    by_cases e : q % 6 = 5
    · rw [if_pos e, cn_or (f := ovp T.1) (g := fun x => decide (x = topA T.1 q)) (T.1 0 6) 0 (fun x _ hx => ⟨?_, ?_⟩), cn_one (f := fun x => decide (x = topA T.1 q)) (y := topA T.1 q) (T.1 0 6) 0 (Nat.zero_le _) (by omega) (fun x _ _ => by rw [decide_eq_true_eq])]
      · show gvA T.1 + _ + _ = _
        omega
      · have z := r2 x
        by_cases e2 : x = topA T.1 q
        · rw [if_pos e2, if_pos e] at z
          rw [decide_eq_true e2, Bool.or_true]
          refine ov_yes ?_
          rw [z]
          split
          · exact Or.inr rfl
          · exact Or.inl rfl
        · rw [if_neg e2] at z
          rw [decide_eq_false e2, Bool.or_false]
          exact ov_eq z
      · rintro ⟨z1, z2⟩
        have z3 := of_decide_eq_true z2
        rw [ov_no (by rw [z3]; omega)] at z1
        exact absurd z1 (by decide)
    · rw [if_neg e, cn_eq (g := ovp T.1) (T.1 0 6) 0 (fun x _ hx => ?_)]
      · show gvA T.1 + _ = _
        omega
      · have z := r2 x
        by_cases e2 : x = topA T.1 q
        · rw [if_pos e2, if_neg e] at z
          rw [ov_no (show slideA T.1 q 2 x < 101 by omega), ov_no (by rw [e2]; omega)]
        · rw [if_neg e2] at z
          exact ov_eq z
  · show slideA T.1 q 2 x = _
    rw [r2 x, if_neg (fun z => hp (by rw [z]; omega))]
theorem bl_pr {c : Nat} (hc : c < 7) : ∀ (d : Nat) (T : TS), d ≤ 6 → IA T.1 → colR T.1 c d → BLR T (prT c d T) := by
  intro d
  induction d with
  | zero => intro T _ _ _; exact bl_id T
  | succ d ih =>
    intro T hd h hr
    obtain ⟨h1, h2⟩ := colR_mv h hc (by omega) hr
    exact bl_tr (bl_gn h hc (by omega) h2) (ih (gnT T c d) (by omega) (IA_mv h hc (by omega) h2) h1)
theorem bl_pa : ∀ (d c : Nat) (T : TS), c + d = 7 → IA T.1 → BLR T (paT d c T) := by
  intro d
  induction d with
  | zero => intro c T _ _; exact bl_id T
  | succ d ih =>
    intro c T hc h
    unfold paT
    by_cases e : pmA T.1 c = true
    · rw [if_pos e]
      have h1 := rnA_le T.1 c 6 0
      have h2 := prT_IA (show c < 7 by omega) _ T (by omega) h (colR0 T.1 c)
      exact bl_tr (bl_pr (by omega) _ T (by omega) h (colR0 T.1 c)) (ih (c + 1) _ (by omega) h2)
    · rw [if_neg e]
      exact ih (c + 1) T (by omega) h
theorem bl_sr {row : Nat} (hr : row < 6) : ∀ (d c : Nat) (T : TS), c + d = 7 → IA T.1 → BLR T (srT row d c T) := by
  intro d
  induction d with
  | zero => intro c T _ _; exact bl_id T
  | succ d ih =>
    intro c T hc h
    unfold srT
    by_cases e : leanA T.1 (c * 6 + row) = true
    · rw [if_pos e]
      obtain ⟨h1, h2⟩ := lean_pre h (show c * 6 + row < 42 by omega) e
      exact bl_tr (bl_sl h (by omega) h1) (ih (c + 1) (slT T (c * 6 + row)) (by omega) (IA_slide h (by omega) h1 h2))
    · rw [if_neg e]
      exact ih (c + 1) T (by omega) h
theorem bl_sa : ∀ (d : Nat) (T : TS), d ≤ 6 → IA T.1 → BLR T (saT d T) := by
  intro d
  induction d with
  | zero => intro T _ _; exact bl_id T
  | succ d ih =>
    intro T hd h
    unfold saT
    have h1 := srT_IA (show d < 6 by omega) 7 0 T rfl h
    exact bl_tr (bl_sr (by omega) 7 0 T rfl h) (ih _ (by omega) h1.1)
theorem bl_btU {T : TS} (h : IA T.1) : BLR T (btU T) := by
  unfold btU
  split
  · exact bl_tr (bl_pa 7 0 T rfl h) (bl_sa 6 _ (by decide) (paT_IA 7 0 T rfl h).1)
  · exact bl_sa 6 T (by decide) h
theorem bl_bt {T : TS} (h : IA T.1) : BLR T (btT T) := by
  have h1 := bl_btU h
  rw [btT_eq]
  generalize btU T = U at h1
  obtain ⟨a1, a2, a3⟩ := h1
  exact ⟨a1, a2, a3⟩
theorem bl_bn : ∀ (d : Nat) (T : TS), IA T.1 → BLR T (bnT d T) := by
  intro d
  induction d with
  | zero => intro T _; exact bl_id T
  | succ d ih =>
    intro T h
    exact bl_tr (bl_bt h) (ih (btT T) (btT_IA h).1)
