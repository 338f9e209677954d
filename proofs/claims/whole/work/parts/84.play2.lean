/-! PURE 34: play -/
theorem op_play (a : Int32) : OPR (X3_play a) (X4_play a) := by
  intro x mm h
  unfold X3_play X4_play
  by_cases e : X3_within a 1 12 = 0
  · rw [if_pos e, if_pos (show X4_within a 1 12 = 0 from e)]
    exact fl0 h
  · rw [if_neg e, if_neg (show ¬ X4_within a 1 12 = 0 from e)]
    obtain ⟨N, hN1, hN, rfl⟩ := wi_in1 (l := 1) (m := 12) (by decide) (by decide) e
    obtain ⟨A, o, v, m0, hA, hb, hx, rfl, hr⟩ := RLL_st h
    have hn := ia_n hA
    have hl : hcA A ≤ 24 := Nat.le_trans (cn_le _ _ _) hn
    have hi := is_x hx
    rw [is_can hA hb hx (by omega), bd_some, show (100 : Int32) = nI 100 from rfl, X4_setOf_n (T := (A, o, v)) hA (by decide) (by decide), bd_some, X4_bits_n (msk_lt hn 100), bd_some, hc_pcr hn]
    by_cases e1 : N ≤ hcA A
    · rw [if_neg (show ¬ nI (hcA A) < nI N from ltN (by omega) (by omega)), show (0 : Int32) = nI 0 from rfl, md (T := (A, o, v)) (by decide), bd_some, enc_0]
      by_cases e2 : A 0 7 ≤ 9900
      · obtain ⟨r, y', B, o', v', w1, w2, w3, w4, w5, w6⟩ := lm_play (m := m0) (A := A) (N := N) (g0 := gI A) (by omega) N 0 FU FU x o v A (Nat.zero_add _) (Nat.lt_of_le_of_lt hN (by decide)) (Nat.lt_of_le_of_lt hN (by decide)) hA e1 (by omega) hi
        rw [if_pos (show N ≤ hcA A ∧ A 0 7 ≤ 9900 from ⟨e1, e2⟩), if_neg (show ¬ (1 : Int32) = nI 0 by decide), if_pos (show nI ((A, o, v).1 0 7) ≤ 9900 from leY (b := 9900) e2 (by decide)), is_gain hi hA, bd_some, X4_gain_n (T := (A, o, v)) hA, bd_some]
        exact ⟨r, y', _, w1, w2, RLL_stay (T := (B, o', v')) (T0 := (A, o, v)) w3 w4 (fun k j hk => w5 k j hk) hr rfl rfl (fun _ _ => rfl) w6⟩
      · rw [if_neg (show ¬ (N ≤ hcA A ∧ A 0 7 ≤ 9900) from fun z => e2 z.2), if_pos rfl, if_neg (show ¬ nI ((A, o, v).1 0 7) ≤ 9900 from leN (b := 9900) e2 (show A 0 7 < 2147483648 by omega))]
        exact fl4 h
    · rw [if_neg (show ¬ (N ≤ hcA A ∧ A 0 7 ≤ 9900) from fun z => e1 z.1), if_pos rfl, if_pos (show nI (hcA A) < nI N from ltY (by omega) (by omega))]
      exact fl4 h
