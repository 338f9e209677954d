/-! PURE 14: cells, settings, images -/
theorem cell_in {a b : Int32} (h : ¬ X3_isCell a b = 0) : ∃ c r : Nat, c < 7 ∧ r < 6 ∧ a = nI c ∧ b = nI r := by
  unfold X3_isCell at h
  by_cases e : X3_isColumn a = 0
  · rw [if_pos e] at h
    exact absurd rfl h
  · rw [if_neg e] at h
    by_cases e2 : X3_within b 0 5 = 0
    · rw [if_pos e2] at h
      exact absurd rfl h
    · obtain ⟨c, hc, rfl⟩ := wi_in (m := 6) (by decide) e
      obtain ⟨r, hr, rfl⟩ := wi_in (m := 5) (by decide) e2
      exact ⟨c, r, by omega, by omega, rfl, rfl⟩
theorem X3_cellOf_n (c r : Nat) : X3_cellOf (nI c) (nI r) = nI (c * 6 + r) := by
  unfold X3_cellOf
  rw [show (6 : Int32) = nI 6 from rfl, pk_mul, nI_add]
theorem op_height (a b : Int32) : OPR (X3_height a b) (X4_height a b) := by
  intro x mm h
  unfold X3_height X4_height
  by_cases e : X3_isCell a b = 0
  · rw [if_pos e, if_pos (show X4_isCell a b = 0 from e)]
    exact fl0 h
  · rw [if_neg e, if_neg (show ¬ X4_isCell a b = 0 from e)]
    obtain ⟨c, r, hc, hr6, rfl, rfl⟩ := cell_in e
    obtain ⟨A, o, v, m0, hA, hb, hx, rfl, hr⟩ := RLL_st h
    rw [X3_cellOf_n, X4_cellOf_n, show rd x 4 42 (nI (c * 6 + r)) = some (nI (A 3 (c * 6 + r))) from xrd hx 3 (by omega) (by decide), bd_some, X4_highOf_n (by omega), bd_some]
    exact ⟨_, _, _, rfl, rfl, h⟩
theorem op_seen (a b d : Int32) : OPR (X3_seen a b d) (X4_seen a b d) := by
  intro x mm h
  unfold X3_seen X4_seen
  by_cases e : X3_isCell a b = 0
  · rw [if_pos e, if_pos (show X4_isCell a b = 0 from e)]
    exact fl0 h
  · rw [if_neg e, if_neg (show ¬ X4_isCell a b = 0 from e)]
    obtain ⟨c, r, hc, hr6, rfl, rfl⟩ := cell_in e
    by_cases e2 : X3_within d 0 3 = 0
    · rw [if_pos e2, if_pos (show X4_within d 0 3 = 0 from e2)]
      exact fl0 h
    · rw [if_neg e2, if_neg (show ¬ X4_within d 0 3 = 0 from e2)]
      obtain ⟨k, hk, rfl⟩ := wi_in (m := 3) (by decide) e2
      obtain ⟨A, o, v, m0, hA, hb, hx, rfl, hr⟩ := RLL_st h
      have h4 := ia_h hA (show c * 6 + r < 42 by omega)
      rw [X3_cellOf_n, X4_cellOf_n, show rd x 4 42 (nI (c * 6 + r)) = some (nI (A 3 (c * 6 + r))) from xrd hx 3 (by omega) (by decide), bd_some, X4_highOf_n (by omega), bd_some]
      by_cases e3 : A 3 (c * 6 + r) ≤ k
      · rw [if_pos (leY e3 (by omega)), if_pos (show nI ((A, o, v).1 3 (c * 6 + r)) ≤ nI k from leY e3 (by omega))]
        exact fl3 h
      · rw [if_neg (leN e3 (by omega)), if_neg (show ¬ nI ((A, o, v).1 3 (c * 6 + r)) ≤ nI k from leN e3 (by show A 3 (c * 6 + r) < 2147483648; omega)), show (4 : Int32) = nI 4 from rfl, pk_mul, nI_add, show rd x 5 168 (nI ((c * 6 + r) * 4 + k)) = some (nI (A 4 ((c * 6 + r) * 4 + k))) from xrd hx 4 (by omega) (by decide), bd_some, X4_coinAt_n (by omega) (by omega), bd_some]
        exact ⟨_, _, _, rfl, rfl, h⟩
theorem op_lift (a b : Int32) : OPR (X3_lift a b) (X4_lift a b) := by
  intro x mm h
  unfold X3_lift X4_lift
  by_cases e : X3_isCell a b = 0
  · rw [if_pos e, if_pos (show X4_isCell a b = 0 from e)]
    exact fl0 h
  · rw [if_neg e, if_neg (show ¬ X4_isCell a b = 0 from e)]
    obtain ⟨c, r, hc, hr6, rfl, rfl⟩ := cell_in e
    obtain ⟨A, o, v, m0, hA, hb, hx, rfl, hr⟩ := RLL_st h
    have hq : c * 6 + r < 42 := by omega
    have h4 := ia_h hA hq
    rw [X3_cellOf_n, X4_cellOf_n, show rd x 4 42 (nI (c * 6 + r)) = some (nI (A 3 (c * 6 + r))) from xrd hx 3 (by omega) (by decide), bd_some, X4_highOf_n (by omega), bd_some]
    by_cases e3 : A 3 (c * 6 + r) = 0
    · rw [if_pos (show nI (A 3 (c * 6 + r)) ≤ 0 from leY (b := 0) (by omega) (by decide)), if_pos (show nI ((A, o, v).1 3 (c * 6 + r)) = 0 from congrArg nI e3)]
      exact fl3 h
    · have hn := ia_n hA
      have ht := ia_top hA hq (by omega)
      rw [if_neg (show ¬ nI (A 3 (c * 6 + r)) ≤ 0 from leN (b := 0) (by omega) (by omega)), if_neg (show ¬ nI ((A, o, v).1 3 (c * 6 + r)) = 0 from eqN (b := 0) e3 (by show A 3 (c * 6 + r) < 2147483648; omega) (by decide)), hx, X1_pull_n hA hq (by omega), bd_some, X4_taken_n hq (show 0 < (A, o, v).1 3 (c * 6 + r) by show 0 < A 3 (c * 6 + r); omega) h4, bd_some]
      have w := mw (mm := m0) (T := (u2 A 3 (c * 6 + r) (A 3 (c * 6 + r) - 1), (o, v))) (i := 41 + topA A (c * 6 + r)) (v := 100) (B := u2 (u2 A 3 (c * 6 + r) (A 3 (c * 6 + r) - 1)) 2 (topA A (c * 6 + r)) 100) (by omega) (fun j => encu_w (by omega) j)
      refine ⟨_, _, _, rfl, ?_, RLL_new (o' := o) (v' := v) (IA_pull hA hq (by omega)).1 hb hr⟩
      · rw [show (41 : Int32) = nI 41 from rfl, show (100 : Int32) = nI 100 from rfl]
        show (wr (mst m0 (u2 A 3 (c * 6 + r) (A 3 (c * 6 + r) - 1), (o, v))) 1 275 (nI 41 + nI (topA A (c * 6 + r))) (nI 100)).bind _ = _
        rw [nI_add, w, bd_some]
        rfl
theorem prd {x : St} {B : AS} {k n i : Nat} (hk : k < 7) (hi : i < n) (hn : n < 2147483648) : rd (put x 1 7 (rp B)) (1 + k) n (nI i) = some (nI (B k i)) := by
  rw [rd_i hi hn, put_in hk]
  rfl
theorem op_lay (a b d : Int32) : OPR (X3_lay a b d) (X4_lay a b d) := by
  intro x mm h
  unfold X3_lay X4_lay
  obtain ⟨A, o, v, m0, hA, hb, hx, rfl, hr⟩ := RLL_st h
  have hn := ia_n hA
  rw [ic_x hx, ic_m, bd_some]
  by_cases e : X3_within a 0 (nI (A 0 6) - 1) = 0
  · rw [if_pos e, if_pos (show X3_within a 0 (nI ((A, o, v).1 0 6) - 1) = 0 from e)]
    exact fl0 h
  · rw [if_neg e, if_neg (show ¬ X3_within a 0 (nI ((A, o, v).1 0 6) - 1) = 0 from e)]
    obtain ⟨k, hk, rfl⟩ := ic_in hn e
    by_cases e1 : X3_isCell b d = 0
    · rw [if_pos e1, if_pos (show X4_isCell b d = 0 from e1)]
      exact fl0 h
    · rw [if_neg e1, if_neg (show ¬ X4_isCell b d = 0 from e1)]
      obtain ⟨c, r, hc, hr6, rfl, rfl⟩ := cell_in e1
      have hq : c * 6 + r < 42 := by omega
      have h4 := ia_h hA hq
      have hp := ia_p2 hA hk
      rw [X3_cellOf_n, X4_cellOf_n, show rd x 3 24 (nI k) = some (nI (A 2 k)) from xrd hx 2 (by omega) (by decide), bd_some, show (41 : Int32) = nI 41 from rfl, nI_add, md (by omega), bd_some, enc_w (by omega)]
      by_cases e2 : A 2 k = 100
      · rw [if_pos (show nI (A 2 k) = 100 from congrArg nI e2), if_pos (show nI (tp ((A, o, v).1 2 k)) = 100 from congrArg nI (show tp (A 2 k) = 100 by rw [e2]; rfl)), hx, X1_hasRoom_n hA hq, bd_some, X4_highOf_n hq, bd_some]
        by_cases e3 : A 3 (c * 6 + r) < 4
        · rw [if_pos e3, if_neg (show ¬ nI 1 = 0 from by decide), if_neg (show ¬ nI ((A, o, v).1 3 (c * 6 + r)) = 4 from eqN (b := 4) (show ¬ A 3 (c * 6 + r) = 4 by omega) (show A 3 (c * 6 + r) < 2147483648 by omega) (by decide)), X1_put_n hq e3 (by omega), bd_some, bd_some, show rd (put x 1 7 (rp (putA A k (c * 6 + r)))) 4 42 (nI (c * 6 + r)) = some (nI (putA A k (c * 6 + r) 3 (c * 6 + r))) from prd (k := 3) (by decide) (by omega) (by decide), bd_some, X4_comesOn_n (T := (A, o, v)) (by omega) hq e3, bd_some, X4_highOf_n hq, bd_some]
          exact ⟨_, _, _, rfl, rfl, RLL_new (IA_put hA hk e2 hq e3) hb hr⟩
        · rw [if_neg e3, if_pos (show nI 0 = 0 from rfl), if_pos (show nI ((A, o, v).1 3 (c * 6 + r)) = 4 from congrArg nI (show A 3 (c * 6 + r) = 4 by omega))]
          exact fl1 h
      · have z : ¬ tp (A 2 k) = 100 := by
          rw [tp_eq (by have := ia_p hA hk; omega) (Nat.le_refl 100)]
          exact e2
        rw [if_neg (show ¬ nI (A 2 k) = 100 from eqN (b := 100) e2 (by omega) (by decide)), if_neg (show ¬ nI (tp ((A, o, v).1 2 k)) = 100 from eqN (b := 100) z (by have := tp_lt hp; show tp (A 2 k) < 2147483648; omega) (by decide))]
        exact fl4 h
