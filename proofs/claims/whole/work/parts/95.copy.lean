/-! PURE 45: copies -/
theorem hf_n (S : St) {z : Nat} (hz : z ≤ 40) (h2 : S 0 2 = nI z) {n : Nat} (hn : n < 2147483648) (f : Int32) : X0_hasFrom f (nI n) S = if f < 0 then 0 else if z < f.toNatClampNeg + n then 0 else 1 := by
  unfold X0_hasFrom
  by_cases e : f < 0
  · rw [if_pos e, if_pos e]
  · obtain ⟨k, hk, rfl⟩ := nI_of e
    rw [if_neg e, if_neg e, nI_clamp hk, h2]
    have w : (nI z - nI n).toInt = (z : Int) - n := by
      rw [fb_subI, nI_toInt (by omega), nI_toInt hn]
      · rw [nI_toInt (by omega), nI_toInt hn]
        omega
      · rw [nI_toInt (by omega), nI_toInt hn]
        omega
    by_cases q : z < k + n
    · rw [if_pos q, if_pos ?_]
      rw [fa_lt, w, nI_toInt hk]
      omega
    · rw [if_neg q, if_neg ?_]
      rw [fa_lt, w, nI_toInt hk]
      omega
theorem cmp_n {f n z : Nat} (hf : f < 2147483648) (hn : n < 2147483648) (hz : z ≤ 40) : (0 < lg_cmp ((nI f).toInt64 + (nI n).toInt64) (nI z).toInt64) = (z < f + n) := by
  rw [nI_l hf, nI_l hn, nI_l (show z < 2 ^ 31 by omega), lN_add]
  refine propext ((lg_cmp_gt _ _).trans ?_)
  rw [fa_lt64, pf_lI (by omega), pf_lI (by omega)]
  omega
theorem cmp_n2 {f n z : Nat} (hf : f < 2147483648) (hn : n < 2147483648) (hz : z ≤ 40) : (lg_cmp ((nI f).toInt64 + (nI n).toInt64) (nI z).toInt64 ≤ 0) = (f + n ≤ z) := by
  rw [nI_l hf, nI_l hn, nI_l (show z < 2 ^ 31 by omega), lN_add]
  refine propext ((lg_cmp_le _ _).trans ?_)
  rw [fa_le64, pf_lI (by omega), pf_lI (by omega)]
  omega
theorem lm_cp2 {t g n : Nat} (ht : t < 4) (hg : g + n ≤ 40) (M : Nat → Int32) : ∀ (d i fu : Nat) (m : St) (T : TS), i + d = n → d < fu → (∀ j, m 13 j = M j) →
    ∃ m', X4_copy_L166 fu (nI t) (nI g) (nI n) (nI i) (mst m T) = some (nI n, mst m' T) ∧ (∀ k, k ≠ 12 → m' k = m k) ∧ ∀ j, m' 12 j = if 40 * t + g + i ≤ j ∧ j < 40 * t + g + n then M (j - (40 * t + g)) else m 12 j := by
  intro d
  induction d with
  | zero =>
    intro i fu m T h1 h2 h
    obtain ⟨fu, rfl⟩ : ∃ k, fu = k + 1 := ⟨fu - 1, by omega⟩
    unfold X4_copy_L166
    rw [if_pos (leY (by omega) (by omega))]
    exact ⟨m, rfl, fun _ _ => rfl, fun j => by rw [if_neg (by omega)]⟩
  | succ d ih =>
    intro i fu m T h1 h2 h
    obtain ⟨fu, rfl⟩ : ∃ k, fu = k + 1 := ⟨fu - 1, by omega⟩
    unfold X4_copy_L166
    rw [if_neg (leN (by omega) (by omega)), rd_i (show i < 40 by omega) (by decide), bd_some, mst_k _ _ (by decide), h i, show (40 : Int32) = nI 40 from rfl, pk_mul, nI_add, nI_add, wr_i (show 40 * t + g + i < 160 by omega) (by decide), bd_some, mst_uk _ _ _ (by decide), show nI i + 1 = nI (i + 1) from (nI_succ i).symm]
    obtain ⟨m', s1, s2, s3⟩ := ih (i + 1) fu (ups m 12 (40 * t + g + i) (M i)) T (by omega) (by omega) (fun j => by rw [ups_o (by decide)]; exact h j)
    refine ⟨m', s1, fun k hk => by rw [s2 k hk, ups_o hk], fun j => ?_⟩
    rw [s3 j, ups_s]
    by_cases e : j = 40 * t + g + i
    · rw [if_neg (by omega), if_pos e, if_pos (by omega), show j - (40 * t + g) = i by omega]
    · by_cases e2 : 40 * t + g + (i + 1) ≤ j ∧ j < 40 * t + g + n
      · rw [if_pos e2, if_pos (by omega)]
      · rw [if_neg e2, if_neg e, if_neg (by omega)]
theorem lm_cp1 {s f t g n : Nat} (hs : s < 4) (ht : t < 4) (hf : f + n ≤ 40) (hg : g + n ≤ 40) (W : Nat → Int32) : ∀ (d i fu : Nat) (m : St) (T : TS), i + d = n → d < fu → (∀ j, m 12 j = W j) → (∀ j, j < i → m 13 j = W (40 * s + f + j)) →
    ∃ m', X4_copy_L129 fu (nI s) (nI f) (nI t) (nI g) (nI n) (nI i) (mst m T) = some (nI n, mst m' T) ∧ (∀ k, k ≠ 12 → k ≠ 13 → m' k = m k) ∧ ∀ j, m' 12 j = if 40 * t + g ≤ j ∧ j < 40 * t + g + n then W (40 * s + f + (j - (40 * t + g))) else W j := by
  intro d
  induction d with
  | zero =>
    intro i fu m T h1 h2 hW h
    obtain ⟨fu, rfl⟩ : ∃ k, fu = k + 1 := ⟨fu - 1, by omega⟩
    have hn : n < FU := Nat.lt_of_le_of_lt (show n ≤ 40 by omega) (by decide)
    obtain ⟨m', s1, s2, s3⟩ := lm_cp2 ht hg (m 13) n 0 FU m T (Nat.zero_add n) hn (fun _ => rfl)
    unfold X4_copy_L129
    rw [if_pos (leY (by omega) (by omega)), show (0 : Int32) = nI 0 from rfl, s1]
    refine ⟨m', rfl, fun k k1 _ => s2 k k1, fun j => ?_⟩
    rw [s3 j, Nat.add_zero]
    by_cases e : 40 * t + g ≤ j ∧ j < 40 * t + g + n
    · rw [if_pos e, if_pos e, h _ (by omega)]
    · rw [if_neg e, if_neg e, hW]
  | succ d ih =>
    intro i fu m T h1 h2 hW h
    obtain ⟨fu, rfl⟩ : ∃ k, fu = k + 1 := ⟨fu - 1, by omega⟩
    unfold X4_copy_L129
    rw [if_neg (leN (by omega) (by omega)), show (40 : Int32) = nI 40 from rfl, pk_mul, nI_add, nI_add, rd_i (show 40 * s + f + i < 160 by omega) (by decide), bd_some, mst_k _ _ (by decide), hW, wr_i (show i < 40 by omega) (by decide), bd_some, mst_uk _ _ _ (by decide), show nI i + 1 = nI (i + 1) from (nI_succ i).symm]
    obtain ⟨m', s1, s2, s3⟩ := ih (i + 1) fu (ups m 13 i (W (40 * s + f + i))) T (by omega) (by omega) (fun j => by rw [ups_o (by decide)]; exact hW j) (fun j hj => by
      rw [ups_s]
      by_cases e : j = i
      · rw [if_pos e, e]
      · rw [if_neg e]
        exact h j (by omega))
    exact ⟨m', s1, fun k k1 k2 => by rw [s2 k k1 k2, ups_o k2], s3⟩
theorem op_copy (a f b g n : Int32) : OPR (X3_copy a f b g n) (X4_copy a f b g n) := by
  intro x mm h
  unfold X3_copy X4_copy
  obtain ⟨A, o, v, m0, hA, hb, hx, rfl, hr⟩ := RLL_st h
  by_cases e : X3_within a 0 3 = 0
  · rw [if_pos (show X3_isSheet a = 0 from e), if_pos (show X4_isSheet a = 0 from e)]
    exact fl0 h
  · rw [if_neg (show ¬ X3_isSheet a = 0 from e), if_neg (show ¬ X4_isSheet a = 0 from e)]
    obtain ⟨s, hs3, rfl⟩ := wi_in (m := 3) (by decide) e
    have hs : s < 4 := by omega
    by_cases e' : X3_within b 0 3 = 0
    · rw [if_pos (show X3_isSheet b = 0 from e'), if_pos (show X4_isSheet b = 0 from e')]
      exact fl0 h
    · rw [if_neg (show ¬ X3_isSheet b = 0 from e'), if_neg (show ¬ X4_isSheet b = 0 from e')]
      obtain ⟨t, ht3, rfl⟩ := wi_in (m := 3) (by decide) e'
      have ht : t < 4 := by omega
      obtain ⟨r1, r2, r3, r4⟩ := RR_in hr
      obtain ⟨z, z1, z2, z3, z4, z5, z6⟩ := r4 s hs
      obtain ⟨w, w1, w2, w3, w4, w5, w6⟩ := r4 t ht
      rw [sht_n hs, bd_some, sht_n ht, bd_some, show rd (mst m0 (A, o, v)) 10 4 (nI s) = some (x (48 + 2 * s) 1) from (rd_i hs (by decide)).trans (congrArg some z4.symm), show rd (mst m0 (A, o, v)) 10 4 (nI t) = some (x (48 + 2 * t) 1) from (rd_i ht (by decide)).trans (congrArg some w4.symm), show rd (mst m0 (A, o, v)) 11 4 (nI s) = some (nI z) from (rd_i hs (by decide)).trans (congrArg some z3), show rd (mst m0 (A, o, v)) 11 4 (nI t) = some (nI w) from (rd_i ht (by decide)).trans (congrArg some w3)]
      rw [bd_some]
      by_cases e1 : x (48 + 2 * s) 1 = 0
      · rw [if_pos e1, if_pos e1]
        exact fl5 h
      · rw [if_neg e1, if_neg e1, bd_some]
        by_cases e2 : x (48 + 2 * t) 1 = 0
        · rw [if_pos e2, if_pos e2]
          exact fl5 h
        · rw [if_neg e2, if_neg e2, bd_some, bd_some]
          by_cases e3 : x (48 + 2 * s) 1 = x (48 + 2 * t) 1
          · rw [if_pos e3, if_pos e3]
            by_cases n0 : n < 0
            · rw [if_pos n0]
              by_cases f0 : f < 0
              · rw [if_pos f0]
                exact fl0 h
              · rw [if_neg f0]
                by_cases g0 : g < 0
                · rw [if_pos g0]
                  exact fl0 h
                · rw [if_neg g0, if_pos n0]
                  exact fl0 h
            · obtain ⟨N, hN, rfl⟩ := nI_of n0
              rw [if_neg n0, hf_n (blk x (48 + 2 * s)) z1 z2 hN, hf_n (blk x (48 + 2 * t)) w1 w2 hN]
              by_cases f0 : f < 0
              · rw [if_pos f0, if_pos f0, if_pos (show (0 : Int32) = 0 from rfl)]
                exact fl0 h
              · obtain ⟨F, hF, rfl⟩ := nI_of f0
                rw [if_neg f0, if_neg f0, nI_clamp hF]
                by_cases g0 : g < 0
                · rw [if_pos g0, if_pos g0, if_pos (show (0 : Int32) = 0 from rfl)]
                  by_cases q : z < F + N
                  · rw [if_pos q, if_pos (show (0 : Int32) = 0 from rfl)]
                    exact fl0 h
                  · rw [if_neg q, if_neg (show ¬ (1 : Int32) = 0 by decide)]
                    exact fl0 h
                · obtain ⟨G, hG, rfl⟩ := nI_of g0
                  rw [if_neg g0, if_neg g0, nI_clamp hG, if_neg n0, bd_some, bd_some]
                  by_cases q : z < F + N
                  · rw [if_pos q, if_pos (show (0 : Int32) = 0 from rfl), if_pos (show 0 < lg_cmp ((nI F).toInt64 + (nI N).toInt64) (nI z).toInt64 by rw [cmp_n hF hN z1]; exact q)]
                    exact fl0 h
                  · rw [if_neg q, if_neg (show ¬ (1 : Int32) = 0 by decide), if_neg (show ¬ 0 < lg_cmp ((nI F).toInt64 + (nI N).toInt64) (nI z).toInt64 by rw [cmp_n hF hN z1]; exact q)]
                    by_cases q2 : w < G + N
                    · rw [if_pos q2, if_pos (show (0 : Int32) = 0 from rfl), if_neg (show ¬ lg_cmp ((nI G).toInt64 + (nI N).toInt64) (nI w).toInt64 ≤ 0 by rw [cmp_n2 hG hN w1]; omega)]
                      exact fl0 h
                    · have hNF : N < FU := Nat.lt_of_le_of_lt (show N ≤ 40 by omega) (by decide)
                      obtain ⟨m', c1, c2, c3⟩ := lm_cp1 hs ht (f := F) (g := G) (n := N) (by omega) (by omega) (m0 12) N 0 FU m0 (A, o, v) (Nat.zero_add N) hNF (fun _ => rfl) (fun j hj => absurd hj (by omega))
                      rw [if_neg q2, if_neg (show ¬ (1 : Int32) = 0 by decide), if_pos (show lg_cmp ((nI G).toInt64 + (nI N).toInt64) (nI w).toInt64 ≤ 0 by rw [cmp_n2 hG hN w1]; omega), show (0 : Int32) = nI 0 from rfl, c1]
                      have ac : acp x (48 + 2 * s + 1) (48 + 2 * t + 1) 40 40 (nI F) (nI G) (nI N) = some (setr x (48 + 2 * t + 1) (va_cpy (x (48 + 2 * s + 1)) (x (48 + 2 * t + 1)) F G N)) := by
                        unfold acp
                        rw [nI_clamp hF, nI_clamp hG, nI_clamp hN, if_neg]
                        intro z
                        rcases z with z | z | z | z | z
                        · exact nI_pos hF z
                        · exact nI_pos hG z
                        · exact nI_pos hN z
                        · omega
                        · omega
                      rw [ac, bd_some]
                      refine ⟨_, _, _, rfl, rfl, ?_⟩
                      refine RLL_sh hA hb hx hr (fun k hk => setr_other _ _ (by omega)) (fun k hk => c2 k (by omega) (by omega)) ?_
                      have y0 : setr x (48 + 2 * t + 1) (va_cpy (x (48 + 2 * s + 1)) (x (48 + 2 * t + 1)) F G N) (48 + 2 * t) = x (48 + 2 * t) := setr_other _ _ (by omega)
                      have y1 : setr x (48 + 2 * t + 1) (va_cpy (x (48 + 2 * s + 1)) (x (48 + 2 * t + 1)) F G N) (49 + 2 * t) = va_cpy (x (48 + 2 * s + 1)) (x (48 + 2 * t + 1)) F G N := by
                        rw [show 49 + 2 * t = 48 + 2 * t + 1 by omega]
                        exact setr_same _ _ _
                      have m10 : m' 10 = m0 10 := c2 10 (by decide) (by decide)
                      have m11 : m' 11 = m0 11 := c2 11 (by decide) (by decide)
                      refine SHR_up r4 ht ⟨w, w1, ?_, ?_, ?_, ?_, fun j hj => ?_⟩ (fun k h1 h2 h3 h4 => setr_other _ _ (by omega)) (fun i hi => ?_) (fun i hi => ?_) (fun i hi => ?_)
                      · rw [y0, w2]
                      · rw [mst_k _ _ (by decide), m11]
                        exact w3
                      · rw [y0, mst_k _ _ (by decide), m10]
                        exact w4
                      · rw [y0]
                        exact w5
                      · rw [y1, mst_k _ _ (by decide), c3]
                        unfold va_cpy
                        by_cases q3 : G ≤ j ∧ j < G + N
                        · rw [if_pos q3, if_pos (by omega)]
                          have u := z6 (F + (j - G)) (by omega)
                          rw [show 49 + 2 * s = 48 + 2 * s + 1 by omega] at u
                          rw [u, show 40 * s + (F + (j - G)) = 40 * s + F + (40 * t + j - (40 * t + G)) by omega]
                          rfl
                        · rw [if_neg q3, if_neg (by omega)]
                          have u := w6 j hj
                          rw [show 49 + 2 * t = 48 + 2 * t + 1 by omega] at u
                          rw [u]
                          rfl
                      · rw [mst_k _ _ (by decide), mst_k _ _ (by decide), m10]
                      · rw [mst_k _ _ (by decide), mst_k _ _ (by decide), m11]
                      · rw [mst_k _ _ (by decide), mst_k _ _ (by decide), c3, if_neg (by omega)]
          · rw [if_neg e3, if_neg e3]
            exact fl2 h
