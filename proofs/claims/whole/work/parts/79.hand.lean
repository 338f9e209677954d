/-! PURE 29: what lies in hand -/
def BHR (T U : TS) : Prop := U.1 0 6 = T.1 0 6 ∧ ∀ c, c < T.1 0 6 → (U.1 2 c = 100 ↔ T.1 2 c = 100)
theorem bh_id (T : TS) : BHR T T := ⟨rfl, fun _ _ => Iff.rfl⟩
theorem bh_tr {T U V : TS} (h1 : BHR T U) (h2 : BHR U V) : BHR T V :=
  ⟨h2.1.trans h1.1, fun c hc => (h2.2 c (by rw [h1.1]; exact hc)).trans (h1.2 c hc)⟩
theorem bh_gn {T : TS} (h : IA T.1) {c row : Nat} (hc : c < 7) (hr : row < 6) (hz : row ≠ 5 → T.1 3 (c * 6 + row + 1) = 0) : BHR T (gnT T c row) := by
  obtain ⟨g1, g2, g3, g4⟩ := mvA_form h hc hr hz
  refine ⟨?_, fun x hx => ?_⟩
  · show mvA T.1 c row 0 6 = _
    rw [g1 0 (by decide) (by decide) (by decide)]
  · show mvA T.1 c row 2 x = 100 ↔ _
    rw [g4 x hx]
    by_cases e : T.1 2 x = c * 6 + row
    · rw [if_pos e]
      have : ¬ sdA T.1 c row = 100 := by
        unfold sdA
        split
        · split <;> omega
        · omega
      exact ⟨fun z => absurd z this, fun z => by omega⟩
    · rw [if_neg e]
theorem bh_sl {T : TS} (h : IA T.1) {q : Nat} (hq : q < 42) (hh : 0 < T.1 3 q) : BHR T (slT T q) := by
  obtain ⟨t1, t2⟩ := ia_top h hq hh
  have r2 : ∀ x, slideA T.1 q 2 x = if x = topA T.1 q then (if q % 6 = 5 then (if q / 6 < T.1 5 2 ∨ 7 - T.1 5 2 ≤ q / 6 then 102 else 101) else q + 1) else T.1 2 x := by
    intro x
    unfold slideA
    by_cases e : q % 6 = 5
    · rw [if_pos e, goA_2, pullA_2, pullA_r _ _ (by decide) (by decide), if_pos e]
      by_cases e2 : x = topA T.1 q
      · rw [if_pos e2, if_pos e2]
      · rw [if_neg e2, if_neg e2, if_neg e2]
    · rw [if_neg e, putA_2, pullA_2, if_neg e]
      by_cases e2 : x = topA T.1 q
      · rw [if_pos e2, if_pos e2]
      · rw [if_neg e2, if_neg e2, if_neg e2]
  refine ⟨?_, fun x hx => ?_⟩
  · show slideA T.1 q 0 6 = _
    rw [slideA_r (by decide) (by decide) (by decide)]
  · show slideA T.1 q 2 x = 100 ↔ _
    rw [r2 x]
    by_cases e : x = topA T.1 q
    · rw [if_pos e, e, t2]
      have : ¬ (if q % 6 = 5 then (if q / 6 < T.1 5 2 ∨ 7 - T.1 5 2 ≤ q / 6 then 102 else 101) else q + 1) = 100 := by
        split
        · split <;> omega
        · omega
      exact ⟨fun z => absurd z this, fun z => by omega⟩
    · rw [if_neg e]
theorem bh_pr {c : Nat} (hc : c < 7) : ∀ (d : Nat) (T : TS), d ≤ 6 → IA T.1 → colR T.1 c d → BHR T (prT c d T) := by
  intro d
  induction d with
  | zero => intro T _ _ _; exact bh_id T
  | succ d ih =>
    intro T hd h hr
    obtain ⟨h1, h2⟩ := colR_mv h hc (by omega) hr
    exact bh_tr (bh_gn h hc (by omega) h2) (ih (gnT T c d) (by omega) (IA_mv h hc (by omega) h2) h1)
theorem bh_pa : ∀ (d c : Nat) (T : TS), c + d = 7 → IA T.1 → BHR T (paT d c T) := by
  intro d
  induction d with
  | zero => intro c T _ _; exact bh_id T
  | succ d ih =>
    intro c T hc h
    unfold paT
    by_cases e : pmA T.1 c = true
    · rw [if_pos e]
      have h1 := rnA_le T.1 c 6 0
      have h2 := prT_IA (show c < 7 by omega) _ T (by omega) h (colR0 T.1 c)
      exact bh_tr (bh_pr (by omega) _ T (by omega) h (colR0 T.1 c)) (ih (c + 1) _ (by omega) h2)
    · rw [if_neg e]
      exact ih (c + 1) T (by omega) h
theorem bh_sr {row : Nat} (hr : row < 6) : ∀ (d c : Nat) (T : TS), c + d = 7 → IA T.1 → BHR T (srT row d c T) := by
  intro d
  induction d with
  | zero => intro c T _ _; exact bh_id T
  | succ d ih =>
    intro c T hc h
    unfold srT
    by_cases e : leanA T.1 (c * 6 + row) = true
    · rw [if_pos e]
      obtain ⟨h1, h2⟩ := lean_pre h (show c * 6 + row < 42 by omega) e
      exact bh_tr (bh_sl h (by omega) h1) (ih (c + 1) (slT T (c * 6 + row)) (by omega) (IA_slide h (by omega) h1 h2))
    · rw [if_neg e]
      exact ih (c + 1) T (by omega) h
theorem bh_sa : ∀ (d : Nat) (T : TS), d ≤ 6 → IA T.1 → BHR T (saT d T) := by
  intro d
  induction d with
  | zero => intro T _ _; exact bh_id T
  | succ d ih =>
    intro T hd h
    unfold saT
    have h1 := srT_IA (show d < 6 by omega) 7 0 T rfl h
    exact bh_tr (bh_sr (by omega) 7 0 T rfl h) (ih _ (by omega) h1.1)
theorem bh_btU {T : TS} (h : IA T.1) : BHR T (btU T) := by
  unfold btU
  split
  · exact bh_tr (bh_pa 7 0 T rfl h) (bh_sa 6 _ (by decide) (paT_IA 7 0 T rfl h).1)
  · exact bh_sa 6 T (by decide) h
theorem bh_bt {T : TS} (h : IA T.1) : BHR T (btT T) := by
  have h1 := bh_btU h
  rw [btT_eq]
  generalize btU T = U at h1
  exact ⟨h1.1, h1.2⟩
theorem bh_bn : ∀ (d : Nat) (T : TS), IA T.1 → BHR T (bnT d T) := by
  intro d
  induction d with
  | zero => intro T _; exact bh_id T
  | succ d ih =>
    intro T h
    exact bh_tr (bh_bt h) (ih (btT T) (btT_IA h).1)
/-- in hand, counted -/
def hcA (A : AS) : Nat := cnF (fun x => decide (A 2 x = 100)) (A 0 6) 0
theorem hc_pcr {A : AS} (hn : A 0 6 ≤ 24) : pcr 24 (msk A 100) = hcA A := by
  have e := pcr_cn (msk A 100) 24 0
  rw [Nat.pow_zero, Nat.div_one] at e
  rw [e, show 24 = A 0 6 + (24 - A 0 6) by omega, cn_add, cn_no (24 - A 0 6) _ (fun x h1 h2 => ?_), Nat.add_zero]
  · refine cn_eq _ 0 (fun x _ hx => ?_)
    rw [msk_bit, decide_eq_true (show x < A 0 6 by omega), Bool.true_and]
  · rw [msk_bit, decide_eq_false (show ¬ x < A 0 6 by omega), Bool.false_and]
