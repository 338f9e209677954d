/-! PURE 43: of -/
theorem tp_on {p : Nat} (h : p < 42) : tp p = 10 * (p / 6) + p % 6 := by
  unfold tp
  rw [if_pos h]
theorem tp_off {p : Nat} (h : ¬ p < 42) : tp p = p := by
  unfold tp
  rw [if_neg h]
theorem X1_toldPlace_n {A : AS} (h : IA A) {c : Nat} (hc : c < A 0 6) : X1_toldPlace (nI c) (rp A) = some (nI (tp (A 2 c))) := by
  have h1 := ia_p2 h hc
  have h0 := ia_n h
  unfold X1_toldPlace
  rw [rd_n (show c < 24 by omega) (by decide), bd_some, X1_isOnShelf_n h hc, bd_some]
  by_cases e : A 2 c < 42
  · rw [if_pos e, if_neg (show ¬ nI 1 = 0 by decide), show (6 : Int32) = nI 6 from rfl, div_n (by omega) (by decide) (by decide), irm_n (by omega) (by decide) (by decide), show (10 : Int32) = nI 10 from rfl, pk_mul, nI_add, tp_on e]
  · rw [if_neg e, if_pos (show nI 0 = 0 from rfl), tp_off e]
theorem lm_depth {m : St} {A : AS} {o v c p i hgt : Nat} (hp : p < 42) (hi : i < hgt) (h4 : hgt ≤ 4) (hh : A 3 p = hgt) (hn : ∀ k, k < hgt → A 4 (p * 4 + k) < 1000000) (hc : c < 24) (he : A 4 (p * 4 + i) = c) (hu : ∀ k, k < hgt → k ≠ i → A 4 (p * 4 + k) ≠ c) : ∀ (d k n : Nat), k + d = hgt → d < n → X4_of_L83 n (nI c) (nI (tp p)) (nI (if i < k then i else 0)) (nI k) (mst m (A, o, v)) = some (nI i, mst m (A, o, v)) := by
  have t := tp_on hp
  have tl : tp p < 103 := tp_lt (by omega)
  have t1 : tp p < 100 := by omega
  have cc : X4_cellOf (nI (tp p) / 10) (irm (nI (tp p)) 10) = nI p := by
    rw [show (10 : Int32) = nI 10 from rfl, div_n (by omega) (by decide) (by decide), irm_n (by omega) (by decide) (by decide), X4_cellOf_n, show tp p / 10 * 6 + tp p % 10 = p by omega]
  intro d
  induction d with
  | zero =>
    intro k n h1 h2
    obtain ⟨n, rfl⟩ : ∃ m, n = m + 1 := ⟨n - 1, by omega⟩
    unfold X4_of_L83
    rw [if_neg (show ¬ (100 : Int32) ≤ nI (tp p) from leN (a := 100) (by omega) (by decide)), cc, X4_highOf_n hp, bd_some, if_pos (show nI ((A, o, v).1 3 p) ≤ nI k from leY (show A 3 p ≤ k by omega) (by omega)), if_pos (by omega)]
  | succ d ih =>
    intro k n h1 h2
    obtain ⟨n, rfl⟩ : ∃ m, n = m + 1 := ⟨n - 1, by omega⟩
    have l := hn k (by omega)
    unfold X4_of_L83
    rw [if_neg (show ¬ (100 : Int32) ≤ nI (tp p) from leN (a := 100) (by omega) (by decide)), cc, X4_highOf_n hp, bd_some, if_neg (show ¬ nI ((A, o, v).1 3 p) ≤ nI k from leN (show ¬ A 3 p ≤ k by omega) (show A 3 p < 2147483648 by omega)), X4_coinAt_n hp (by omega), bd_some, show nI k + 1 = nI (k + 1) from (nI_succ k).symm]
    have z := ih (k + 1) n (by omega) (by omega)
    by_cases e : k = i
    · subst e
      rw [if_pos (show nI ((A, o, v).1 4 (p * 4 + k)) = nI c from congrArg nI he)]
      rw [if_pos (show k < k + 1 by omega)] at z
      exact z
    · rw [if_neg (show ¬ nI ((A, o, v).1 4 (p * 4 + k)) = nI c from eqN (hu k (by omega) e) (show A 4 (p * 4 + k) < 2147483648 by omega) (by omega))]
      by_cases f : i < k
      · rw [if_pos f]
        rw [if_pos (show i < k + 1 by omega)] at z
        exact z
      · rw [if_neg f]
        rw [if_neg (show ¬ i < k + 1 by omega)] at z
        exact z
theorem op_of (a b : Int32) : OPR (X3_of a b) (X4_of a b) := by
  intro x mm h
  unfold X3_of X4_of
  obtain ⟨A, o, v, m0, hA, hb, hx, rfl, hr⟩ := RLL_st h
  have hn := ia_n hA
  rw [ic_x hx, ic_m, bd_some]
  by_cases e : X3_within a 0 (nI (A 0 6) - 1) = 0
  · rw [if_pos e, if_pos (show X3_within a 0 (nI ((A, o, v).1 0 6) - 1) = 0 from e)]
    exact fl0 h
  · rw [if_neg e, if_neg (show ¬ X3_within a 0 (nI ((A, o, v).1 0 6) - 1) = 0 from e)]
    obtain ⟨c, hc, rfl⟩ := ic_in hn e
    have hk := ia_k hA hc
    have hp2 := ia_p2 hA hc
    by_cases e1 : X3_within b 0 5 = 0
    · rw [if_pos e1, if_pos (show X4_within b 0 5 = 0 from e1)]
      exact fl0 h
    · rw [if_neg e1, if_neg (show ¬ X4_within b 0 5 = 0 from e1), show rd x 2 24 (nI c) = some (nI (A 1 c)) from xrd hx 1 (by omega) (by decide), bd_some, m_at (T := (A, o, v)) (by omega), bd_some]
      by_cases b0 : b = 0
      · rw [if_pos b0, if_pos b0, X4_kindOf_n (T := (A, o, v)) (by omega), bd_some]
        exact ⟨_, _, _, rfl, rfl, h⟩
      · rw [if_neg b0, if_neg b0]
        by_cases b1 : b = 1
        · rw [if_pos b1, if_pos b1, hx, X1_toldPlace_n hA hc, bd_some]
          exact ⟨_, _, _, rfl, rfl, h⟩
        · rw [if_neg b1, if_neg b1]
          by_cases b2 : b = 2
          · rw [if_pos b2, if_pos b2, hx]
            unfold X1_depthOf
            rw [X1_isOnShelf_n hA hc, bd_some]
            by_cases f : A 2 c < 42
            · obtain ⟨i, i1, i2⟩ := ia_o hA hc f
              have h4 := ia_h hA f
              have hs : ∀ k, k < A 3 (A 2 c) → A 4 (A 2 c * 4 + k) < 1000000 := fun k hk => by
                have := (ia_s hA f hk).1
                omega
              have hu : ∀ k, k < A 3 (A 2 c) → k ≠ i → A 4 (A 2 c * 4 + k) ≠ c := fun k k1 k2 z => by
                rcases Nat.lt_or_gt_of_ne k2 with q | q
                · exact ia_d hA f q i1 (z.trans i2.symm)
                · exact ia_d hA f q k1 (i2.trans z.symm)
              have z1 : X1_depthOf_L21 FU (nI c) (nI (A 2 c * 4)) (nI 0) (rp A) = some (nI i) := by
                clear h
                have key : ∀ (d k n : Nat), k + d = i → d < n → X1_depthOf_L21 n (nI c) (nI (A 2 c * 4)) (nI k) (rp A) = some (nI i) := by
                  intro d
                  induction d with
                  | zero =>
                    intro k n h1 h2
                    obtain ⟨n, rfl⟩ : ∃ m, n = m + 1 := ⟨n - 1, by omega⟩
                    have ki : k = i := by omega
                    subst ki
                    unfold X1_depthOf_L21
                    by_cases e : 3 ≤ k
                    · rw [if_pos (show (3 : Int32) ≤ nI k from leY (a := 3) e (by omega))]
                    · rw [if_neg (show ¬ (3 : Int32) ≤ nI k from leN (a := 3) e (by decide)), nI_add, rd_n (by omega) (by decide), bd_some, i2, if_pos rfl]
                  | succ d ih =>
                    intro k n h1 h2
                    obtain ⟨n, rfl⟩ : ∃ m, n = m + 1 := ⟨n - 1, by omega⟩
                    have l := hs k (by omega)
                    unfold X1_depthOf_L21
                    rw [if_neg (show ¬ (3 : Int32) ≤ nI k from leN (a := 3) (by omega) (by decide)), nI_add, rd_n (by omega) (by decide), bd_some, if_neg (eqN (hu k (by omega) (by omega)) (by omega) (by omega)), show nI k + 1 = nI (k + 1) from (nI_succ k).symm]
                    exact ih (k + 1) n (by omega) (by omega)
                exact key i 0 FU (Nat.zero_add _) (Nat.lt_of_lt_of_le (show i < 4 by omega) (by decide))
              have z2 : X4_of_L83 FU (nI c) (nI (tp (A 2 c))) (nI (if i < 0 then i else 0)) (nI 0) (mst m0 (A, o, v)) = some (nI i, mst m0 (A, o, v)) := lm_depth f i1 h4 rfl hs (by omega) i2 hu (A 3 (A 2 c)) 0 FU (Nat.zero_add _) (Nat.lt_of_le_of_lt h4 (by decide))
              rw [if_pos f, if_neg (show ¬ nI 1 = 0 by decide), rd_n (show c < 24 by omega) (by decide), bd_some, show (4 : Int32) = nI 4 from rfl, pk_mul, show (0 : Int32) = nI 0 from rfl, z1, bd_some]
              exact ⟨_, _, _, rfl, z2, h⟩
            · have t : 100 ≤ tp (A 2 c) := by
                have := ia_p hA hc
                rw [tp_off f]
                omega
              have tl := tp_lt hp2
              have z2 : X4_of_L83 FU (nI c) (nI (tp (A 2 c))) 0 0 (mst m0 (A, o, v)) = some (0, mst m0 (A, o, v)) := if_pos (show (100 : Int32) ≤ nI (tp (A 2 c)) from leY (a := 100) t (by omega))
              rw [if_neg f, if_pos (show nI 0 = 0 from rfl), bd_some]
              exact ⟨_, _, _, rfl, z2, h⟩
          · rw [if_neg b2, if_neg b2]
            by_cases b3 : b = 3
            · rw [if_pos b3, if_pos b3, rdc_n hk (by decide), bd_some, stC1 hk, X4_worth_n (T := (A, o, v)) (by omega) hk, bd_some]
              exact ⟨_, _, _, rfl, rfl, h⟩
            · rw [if_neg b3, if_neg b3]
              by_cases b4 : b = 4
              · rw [if_pos b4, if_pos b4, rdc_n hk (by decide), bd_some, stC2 hk, X4_weighs_n (T := (A, o, v)) (by omega) hk, bd_some]
                exact ⟨_, _, _, rfl, rfl, h⟩
              · have s2 := sli2 hk
                rw [if_neg b4, if_neg b4, rdc_n hk (by decide), bd_some, stC3 hk, X4_slides_n (T := (A, o, v)) (by omega) hk, bd_some]
                by_cases f : SLI (A 1 c) = 1
                · rw [if_neg (show ¬ nI (SLI ((A, o, v).1 1 c)) = 0 from eqN (b := 0) (show ¬ SLI (A 1 c) = 0 by omega) (show SLI (A 1 c) < 2147483648 by omega) (by decide)), f]
                  exact ⟨_, _, _, rfl, rfl, h⟩
                · rw [if_pos (show nI (SLI ((A, o, v).1 1 c)) = 0 from congrArg nI (show SLI (A 1 c) = 0 by omega)), show SLI (A 1 c) = 0 by omega]
                  exact ⟨_, _, _, rfl, rfl, h⟩
