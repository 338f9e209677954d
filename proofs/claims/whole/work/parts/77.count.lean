/-! PURE 27: counts -/
theorem st_both {m0 : St} {A : AS} {o v : Nat} : ∀ (d q n n2 : Nat) (w : Int32), q + d = 42 → d < n → d < n2 → ∃ r, X1_manyStacks_L4 n w (nI q) (rp A) = some r ∧ X4_count_L81 n2 w (nI q) (mst m0 (A, o, v)) = some (r, mst m0 (A, o, v)) := by
  intro d
  induction d with
  | zero =>
    intro q n n2 w h1 h2 h3
    obtain ⟨n, rfl⟩ : ∃ m, n = m + 1 := ⟨n - 1, by omega⟩
    obtain ⟨n2, rfl⟩ : ∃ m, n2 = m + 1 := ⟨n2 - 1, by omega⟩
    unfold X1_manyStacks_L4 X4_count_L81
    rw [if_pos (show (42 : Int32) ≤ nI q from leY (a := 42) (by omega) (by omega)), if_pos (show (42 : Int32) ≤ nI q from leY (a := 42) (by omega) (by omega))]
    exact ⟨w, rfl, rfl⟩
  | succ d ih =>
    intro q n n2 w h1 h2 h3
    obtain ⟨n, rfl⟩ : ∃ m, n = m + 1 := ⟨n - 1, by omega⟩
    obtain ⟨n2, rfl⟩ : ∃ m, n2 = m + 1 := ⟨n2 - 1, by omega⟩
    unfold X1_manyStacks_L4 X4_count_L81
    rw [if_neg (show ¬ (42 : Int32) ≤ nI q from leN (a := 42) (by omega) (by decide)), if_neg (show ¬ (42 : Int32) ≤ nI q from leN (a := 42) (by omega) (by decide)), rd_n (by omega) (by decide), bd_some, X4_highOf_n (by omega), bd_some, Int32.add_zero, show nI q + 1 = nI (q + 1) from (nI_succ q).symm]
    by_cases e : nI (A 3 q) ≤ 0
    · rw [if_pos e, if_pos e]
      exact ih (q + 1) n n2 w (by omega) (by omega) (by omega)
    · rw [if_neg e, if_neg e]
      exact ih (q + 1) n n2 _ (by omega) (by omega) (by omega)
theorem sp_both {m0 : St} {A : AS} {o v : Nat} : ∀ (d q n n2 : Nat) (w : Int32), q + d = 10 → d < n → d < n2 → ∃ r, X1_manySpotsHeld_L4 n w (nI q) (rp A) = some r ∧ X4_count_L126 n2 w (nI q) (mst m0 (A, o, v)) = some (r, mst m0 (A, o, v)) := by
  intro d
  induction d with
  | zero =>
    intro q n n2 w h1 h2 h3
    obtain ⟨n, rfl⟩ : ∃ m, n = m + 1 := ⟨n - 1, by omega⟩
    obtain ⟨n2, rfl⟩ : ∃ m, n2 = m + 1 := ⟨n2 - 1, by omega⟩
    unfold X1_manySpotsHeld_L4 X4_count_L126
    rw [if_pos (show (10 : Int32) ≤ nI q from leY (a := 10) (by omega) (by omega)), if_pos (show (10 : Int32) ≤ nI q from leY (a := 10) (by omega) (by omega))]
    exact ⟨w, rfl, rfl⟩
  | succ d ih =>
    intro q n n2 w h1 h2 h3
    obtain ⟨n, rfl⟩ : ∃ m, n = m + 1 := ⟨n - 1, by omega⟩
    obtain ⟨n2, rfl⟩ : ∃ m, n2 = m + 1 := ⟨n2 - 1, by omega⟩
    unfold X1_manySpotsHeld_L4 X4_count_L126
    rw [if_neg (show ¬ (10 : Int32) ≤ nI q from leN (a := 10) (by omega) (by decide)), if_neg (show ¬ (10 : Int32) ≤ nI q from leN (a := 10) (by omega) (by decide)), rd_n (by omega) (by decide), bd_some, show (7 : Int32) = nI 7 from rfl, nI_add, md (by omega), bd_some, enc_p (by omega), Int32.add_zero, show nI q + 1 = nI (q + 1) from (nI_succ q).symm]
    by_cases e : nI (A 6 q) < 0
    · rw [if_pos e, if_neg (show ¬ (0 : Int32) ≤ nI ((A, o, v).1 6 q) from Int32.not_le.mpr e)]
      exact ih (q + 1) n n2 w (by omega) (by omega) (by omega)
    · rw [if_neg e, if_pos (show (0 : Int32) ≤ nI ((A, o, v).1 6 q) from Int32.not_lt.mp e)]
      exact ih (q + 1) n n2 _ (by omega) (by omega) (by omega)
theorem op_count (a : Int32) : OPR (X3_count a) (X4_count a) := by
  intro x mm h
  unfold X3_count X4_count
  obtain ⟨A, o, v, m0, hA, hb, hx, rfl, hr⟩ := RLL_st h
  obtain ⟨r1, r2, ⟨L, t1, t2, t3, t4⟩, r4⟩ := RR_in hr
  have hn := ia_n hA
  have hs := shm_lt hn
  by_cases e0 : a = 0
  · rw [if_pos e0, if_pos e0, show (0 : Int32) = nI 0 from rfl, md (by decide), bd_some, enc_0]
    exact ⟨_, _, _, congrArg some (Prod.ext (xat hx 0 7) rfl), rfl, h⟩
  · rw [if_neg e0, if_neg e0]
    by_cases e1 : a = 1
    · rw [if_pos e1, if_pos e1, show (4 : Int32) = nI 4 from rfl, md (by decide), bd_some, enc_4]
      exact ⟨_, _, _, congrArg some (Prod.ext (xat hx 0 6) rfl), rfl, h⟩
    · rw [if_neg e1, if_neg e1]
      by_cases e2 : a = 2
      · rw [if_pos e2, if_pos e2, hx, X1_bitsOnShelf_n hA, bd_some, bc_n hs, X4_shelf_n (T := (A, o, v)) hA, bd_some, X4_bits_n hs, bd_some]
        exact ⟨_, _, _, rfl, rfl, h⟩
      · rw [if_neg e2, if_neg e2]
        by_cases e3 : a = 3
        · rw [if_pos e3, if_pos e3, hx, X1_bitsOnShelf_n hA, bd_some, X1_worthOf_n hA (by omega), bd_some, X4_shelf_n (T := (A, o, v)) hA, bd_some, X4_worthOf_n (T := (A, o, v)) hA (show shm A < 2147483648 by omega), bd_some]
          exact ⟨_, _, _, rfl, rfl, h⟩
        · rw [if_neg e3, if_neg e3]
          by_cases e4 : a = 4
          · obtain ⟨w, w1, w2⟩ := st_both (m0 := m0) (A := A) (o := o) (v := v) 42 0 FU FU 0 rfl (by decide) (by decide)
            rw [if_pos e4, if_pos e4, hx, show X1_manyStacks (rp A) = some w from w1, bd_some]
            exact ⟨_, _, _, rfl, w2, h⟩
          · rw [if_neg e4, if_neg e4]
            by_cases e5 : a = 5
            · rw [if_pos e5, if_pos e5]
              exact ⟨_, _, _, congrArg some (Prod.ext t2 rfl), congrArg some (Prod.ext t3 rfl), h⟩
            · rw [if_neg e5, if_neg e5]
              by_cases e6 : a = 6
              · rw [if_pos e6, if_pos e6, show (6 : Int32) = nI 6 from rfl, md (by decide), bd_some, enc_6]
                exact ⟨_, _, _, congrArg some (Prod.ext (xat hx 0 9) rfl), rfl, h⟩
              · rw [if_neg e6, if_neg e6]
                by_cases e7 : a = 7
                · obtain ⟨w, w1, w2⟩ := sp_both (m0 := m0) (A := A) (o := o) (v := v) 10 0 FU FU 0 rfl (by decide) (by decide)
                  rw [if_pos e7, if_pos e7, hx, show X1_manySpotsHeld (rp A) = some w from w1, bd_some]
                  exact ⟨_, _, _, rfl, w2, h⟩
                · rw [if_neg e7, if_neg e7]
                  exact fl0 h
