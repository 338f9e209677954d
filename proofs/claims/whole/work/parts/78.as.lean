/-! PURE 28: a spot's coin as a kind -/
theorem und_both {k j : Nat} (hk : k < 7) (hj : j < 7) : ∃ r, X3_isUnder (nI k) (nI j) = some r ∧ X4_isUnder (nI k) (nI j) = some r := by
  have key : ∀ k, k < 7 → ∀ j, j < 7 → X3_isUnder (nI k) (nI j) = X4_isUnder (nI k) (nI j) ∧ (X4_isUnder (nI k) (nI j)).isSome = true := by decide +kernel
  obtain ⟨h1, h2⟩ := key k hk j hj
  obtain ⟨r, hr⟩ := Option.isSome_iff_exists.mp h2
  exact ⟨r, h1.trans hr, hr⟩
theorem op_as (a b : Int32) : OPR (X3_as a b) (X4_as a b) := by
  intro x mm h
  unfold X3_as X4_as
  obtain ⟨A, o, v, m0, hA, hb, hx, rfl, hr⟩ := RLL_st h
  have hn := ia_n hA
  by_cases e : X3_within a 0 9 = 0
  · rw [if_pos e, if_pos (show X4_isSpot a = 0 from e)]
    exact fl0 h
  · rw [if_neg e, if_neg (show ¬ X4_isSpot a = 0 from e)]
    obtain ⟨i, hi, rfl⟩ := wi_in (m := 9) (by decide) e
    by_cases e2 : X3_isKind b = 0
    · rw [if_pos e2, if_pos (show X4_isKind b = 0 from e2)]
      exact fl0 h
    · rw [if_neg e2, if_neg (show ¬ X4_isKind b = 0 from e2)]
      obtain ⟨j, hj, rfl⟩ := wi_in (m := 6) (by decide) e2
      rw [show rd x 7 10 (nI i) = some (nI (A 6 i)) from xrd hx 6 (by omega) (by decide), bd_some, ic_x hx, show (7 : Int32) = nI 7 from rfl, nI_add, md (by omega), bd_some, enc_p (by omega)]
      rcases hA.2.2.2 i (by omega) with q | q
      · rw [if_neg (show ¬ (0 : Int32) ≤ nI ((A, o, v).1 6 i) by show ¬ (0 : Int32) ≤ nI (A 6 i); rw [q]; decide), if_pos (show X3_within (nI (A 6 i)) 0 (nI (A 0 6) - 1) = 0 by rw [q]; unfold X3_within; rw [if_pos (by decide)])]
        exact fl5 h
      · have w : ¬ X3_within (nI (A 6 i)) 0 (nI (A 0 6) - 1) = 0 := by
          rw [show nI (A 0 6) - 1 = nI (A 0 6 - 1) from sub_n (b := 1) (by omega)]
          exact wi_ok (by omega) (by omega)
        obtain ⟨r, u1, u2⟩ := und_both (ia_k hA q) (show j < 7 by omega)
        rw [if_neg w, show rd x 2 24 (nI (A 6 i)) = some (nI (A 1 (A 6 i))) from xrd hx 1 (by omega) (by decide), bd_some, u1, bd_some, if_pos (show (0 : Int32) ≤ nI ((A, o, v).1 6 i) from nI_pos' (by show A 6 i < 2147483648; omega)), X4_kindOf_n (T := (A, o, v)) (show A 6 i < 24 by omega), bd_some, show X4_isUnder (nI ((A, o, v).1 1 (A 6 i))) (nI j) = some r from u2, bd_some]
        by_cases e3 : r = 0
        · rw [if_pos e3, if_pos e3]
          exact fl2 h
        · rw [if_neg e3, if_neg e3]
          exact ⟨_, _, _, rfl, rfl, h⟩
