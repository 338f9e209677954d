/-! PURE 46: load, judge -/
theorem is_lih2 {y : St} {b : Nat} {A : AS} (h : Is y b A) (hA : IA A) : X1_leastInHand (blk y b) = some (if lih A < A 0 6 then nI (lih A) else -1) := by
  obtain ⟨B, h1, h2⟩ := is_blk h
  rw [h2, X1_leastInHand_n (IA_eq h1 hA), ← e7_lih h1, ← h1 0 (by decide)]
theorem pe_i {y : St} {A : AS} (h : Is y 1 A) (hb : A 0 7 ≤ 9999) {n : Nat} (hn : n < 2000000000) : X3_passesEnd (nI n) y = if A 0 7 + n ≤ 9999 then 0 else 1 := by
  unfold X3_passesEnd
  rw [show y 1 7 = nI (A 0 7) from h 0 7 (by decide), nI_add]
  by_cases e : A 0 7 + n ≤ 9999
  · rw [if_pos e, if_pos (show nI (A 0 7 + n) ≤ 9999 from leY (b := 9999) e (by decide))]
  · rw [if_neg e, if_neg (show ¬ nI (A 0 7 + n) ≤ 9999 from leN (b := 9999) e (by omega))]
theorem lb_load {m : St} {s z : Nat} (hs : s < 4) (hz : z ≤ 40) (hm : m 11 s = nI z) : ∀ (d c n n2 : Nat) (y : St) (o v : Nat) (A : AS), c + d = z → d < n → d < n2 → IA A → A 0 7 ≤ 9999 → Is y 1 A → y (48 + 2 * s) 2 = nI z → (∀ j, j < 40 → y (49 + 2 * s) j = m 12 (40 * s + j)) →
    ∃ (r : Int32) (y' : St) (B : AS) (o' v' : Nat), X3_load_L35 n (48 + 2 * s) (nI c) y = some (r, y') ∧ X4_load_L33 n2 (nI s) (nI c) (mst m (A, o, v)) = some (r, mst m (B, o', v')) ∧ IA B ∧ B 0 7 ≤ 9999 ∧ Is y' 1 B ∧ ∀ k, offX k → y' k = y k := by
  intro d
  induction d with
  | zero =>
    intro c n n2 y o v A h1 h2 h3 hA hb hi hy hw
    obtain ⟨n, rfl⟩ : ∃ m, n = m + 1 := ⟨n - 1, by omega⟩
    obtain ⟨n2, rfl⟩ : ∃ m, n2 = m + 1 := ⟨n2 - 1, by omega⟩
    unfold X3_load_L35 X4_load_L33
    rw [hy, if_pos (leY (by omega) (by omega)), rd_i hs (by decide), bd_some, mst_k _ _ (by decide), hm, if_pos (leY (by omega) (by omega))]
    exact ⟨_, y, A, o, v, rfl, rfl, hA, hb, hi, fun _ _ => rfl⟩
  | succ d ih =>
    intro c n n2 y o v A h1 h2 h3 hA hb hi hy hw
    obtain ⟨n, rfl⟩ : ∃ m, n = m + 1 := ⟨n - 1, by omega⟩
    obtain ⟨n2, rfl⟩ : ∃ m, n2 = m + 1 := ⟨n2 - 1, by omega⟩
    have hn := ia_n hA
    have lle := (lih_hand A).1
    have w := hw c (by omega)
    unfold X3_load_L35 X4_load_L33
    rw [hy, if_neg (leN (by omega) (by omega)), show rd y (48 + 2 * s + 1) 40 (nI c) = some (m 12 (40 * s + c)) from by rw [rd_i (show c < 40 by omega) (by decide), show 48 + 2 * s + 1 = 49 + 2 * s by omega, w], bd_some, is_lih2 hi hA, bd_some, rd_i hs (by decide), bd_some, mst_k _ _ (by decide), hm, if_neg (leN (by omega) (by omega)), show (40 : Int32) = nI 40 from rfl, pk_mul, nI_add, show rd (mst m (A, o, v)) 12 160 (nI (40 * s + c)) = some (m 12 (40 * s + c)) from rd_i (show 40 * s + c < 160 by omega) (by decide), bd_some]
    by_cases e : X3_within (m 12 (40 * s + c)) 0 6 = 0
    · rw [if_pos (show X3_isColumn (m 12 (40 * s + c)) = 0 from e), if_pos (show X4_isColumn (m 12 (40 * s + c)) = 0 from e)]
      exact ⟨_, y, A, o, v, rfl, rfl, hA, hb, hi, fun _ _ => rfl⟩
    · obtain ⟨col, hc, ec⟩ := wi_in (m := 6) (by decide) e
      rw [if_neg (show ¬ X3_isColumn (m 12 (40 * s + c)) = 0 from e), if_neg (show ¬ X4_isColumn (m 12 (40 * s + c)) = 0 from e), X4_leastInHand_n (T := (A, o, v)) hA, bd_some, show (4 : Int32) = nI 4 from rfl, md (T := (A, o, v)) (by decide), bd_some, enc_4, show (1 : Int32) = nI 1 from rfl, pe_i hi hb (by decide)]
      by_cases e2 : lih A < A 0 6
      · have l2 := (lih_hand A).2 e2
        rw [if_pos e2, if_neg (nI_pos (by omega)), if_neg (show ¬ nI ((A, o, v).1 0 6) ≤ nI (lih (A, o, v).1) from leN (show ¬ A 0 6 ≤ lih A by omega) (show A 0 6 < 2147483648 by omega)), show (0 : Int32) = nI 0 from rfl, md (T := (A, o, v)) (by decide), bd_some, enc_0]
        by_cases e3 : A 0 7 + 1 ≤ 9999
        · obtain ⟨S, s1, s2⟩ := is_rel hi hA e2 l2 (show col < 7 by omega) (by omega)
          obtain ⟨d1, d2⟩ := drA_IA hA e2 l2 (show col < 7 by omega)
          obtain ⟨o1, v1, hd⟩ := dpT_q (A, o, v) (lih A) col
          rw [if_pos e3, if_pos (show nI 0 = nI 0 from rfl), if_neg (show ¬ (9999 : Int32) ≤ nI ((A, o, v).1 0 7) from leN (a := 9999) (show ¬ 9999 ≤ A 0 7 by omega) (by decide)), ec, s1, bd_some, bd_some, bd_some, bd_some, X4_dropped_n (T := (A, o, v)) hA e2 l2 (show col < 7 by omega) (show A 0 7 < 100000 by omega), bd_some, hd, nI_add]
          obtain ⟨r, y', B, o', v', w1, w2, w3, w4, w5, w6⟩ := ih (c + 1) n n2 (put y 1 7 S) o1 v1 (drA A (lih A) col) (by omega) (by omega) (by omega) d1 (by omega) (s2 _) (by rw [put_o (by omega)]; exact hy) (fun j hj => by rw [put_o (by omega)]; exact hw j hj)
          refine ⟨r, y', B, o', v', w1, w2, w3, w4, w5, fun k hk => ?_⟩
          rw [w6 k hk]
          unfold offX at hk
          rw [put_o (by omega)]
        · rw [if_neg e3, if_neg (show ¬ (1 : Int32) = nI 0 by decide), if_pos (show (9999 : Int32) ≤ nI ((A, o, v).1 0 7) from leY (a := 9999) (show 9999 ≤ A 0 7 by omega) (show A 0 7 < 2147483648 by omega))]
          exact ⟨_, y, A, o, v, rfl, rfl, hA, hb, hi, fun _ _ => rfl⟩
      · rw [if_neg e2, if_pos (show (-nI 1 : Int32) < 0 by decide), if_pos (show nI ((A, o, v).1 0 6) ≤ nI (lih (A, o, v).1) from leY (show A 0 6 ≤ lih A by omega) (show lih A < 2147483648 by omega))]
        exact ⟨_, y, A, o, v, rfl, rfl, hA, hb, hi, fun _ _ => rfl⟩
theorem op_load (a : Int32) : OPR (X3_load a) (X4_load a) := by
  intro x mm h
  unfold X3_load X4_load
  obtain ⟨A, o, v, m0, hA, hb, hx, rfl, hr⟩ := RLL_st h
  by_cases e : X3_within a 0 3 = 0
  · rw [if_pos (show X3_isSheet a = 0 from e), if_pos (show X4_isSheet a = 0 from e)]
    exact fl0 h
  · rw [if_neg (show ¬ X3_isSheet a = 0 from e), if_neg (show ¬ X4_isSheet a = 0 from e)]
    obtain ⟨s, hs3, rfl⟩ := wi_in (m := 3) (by decide) e
    have hs : s < 4 := by omega
    obtain ⟨r1, r2, r3, r4⟩ := RR_in hr
    obtain ⟨z, z1, z2, z3, z4, z5, z6⟩ := r4 s hs
    rw [sht_n hs, bd_some, show rd (mst m0 (A, o, v)) 10 4 (nI s) = some (x (48 + 2 * s) 1) from (rd_i hs (by decide)).trans (congrArg some z4.symm), bd_some]
    by_cases e1 : x (48 + 2 * s) 1 = 0
    · rw [if_pos e1, if_pos e1]
      exact fl5 h
    · rw [if_neg e1, if_neg e1]
      have hF : z < FU := Nat.lt_of_le_of_lt z1 (by decide)
      obtain ⟨r, y', B, o', v', w1, w2, w3, w4, w5, w6⟩ := lb_load (m := m0) hs z1 z3 z 0 FU FU x o v A (Nat.zero_add z) hF hF hA hb (is_x hx) z2 z6
      exact ⟨r, y', _, w1, w2, RLL_stay (T := (B, o', v')) (T0 := (A, o, v)) w3 w4 (fun k j hk => w5 k j hk) hr rfl rfl (fun _ _ => rfl) w6⟩
theorem lb_judge {m : St} {A : AS} (as : AsE m A) {s z : Nat} (hs : s < 4) (hz : z ≤ 40) (hm : m 11 s = nI z) : ∀ (d c n n2 : Nat) (y : St) (o v : Nat) (B : AS), c + d = z → d < n → d < n2 → IA B → B 0 7 + d < 20000 → Is y 15 B → y (48 + 2 * s) 2 = nI z → (∀ j, j < 40 → y (49 + 2 * s) j = m 12 (40 * s + j)) →
    ∃ (r : Int32) (y' : St) (o' v' : Nat), X3_judge_L63 n (48 + 2 * s) (nI c) y = some (r, y') ∧ X4_judge_L64 n2 (nI s) (nI c) (mst m (B, o, v)) = some (r, mst m (A, o', v')) ∧ Kp y y' := by
  intro d
  have l99 : ∀ (c o v : Nat) (B : AS), c ≤ z → X4_judge_L99 (nI s) (nI c) (mst m (B, o, v)) = some (if c = z then 0 else nI (1 + c), mst m (A, o, v)) := by
    intro c o v B hc
    unfold X4_judge_L99
    rw [rd_i hs (by decide), bd_some, mst_k _ _ (by decide), hm]
    by_cases e : c = z
    · rw [if_pos (congrArg nI e), if_pos e, X4_putBack_n as, bd_some]
    · rw [if_neg (eqN e (by omega) (by omega)), if_neg e, X4_putBack_n as, bd_some, show (1 : Int32) = nI 1 from rfl, nI_add]
  induction d with
  | zero =>
    intro c n n2 y o v B h1 h2 h3 hB hb hi hy hw
    obtain ⟨n, rfl⟩ : ∃ m, n = m + 1 := ⟨n - 1, by omega⟩
    obtain ⟨n2, rfl⟩ : ∃ m, n2 = m + 1 := ⟨n2 - 1, by omega⟩
    unfold X3_judge_L63 X4_judge_L64
    rw [hy, if_pos (leY (by omega) (by omega)), rd_i hs (by decide), bd_some, mst_k _ _ (by decide), hm, if_pos (leY (by omega) (by omega)), l99 c o v B (by omega), if_pos (show c = z by omega)]
    exact ⟨_, y, o, v, rfl, rfl, kp_id y⟩
  | succ d ih =>
    intro c n n2 y o v B h1 h2 h3 hB hb hi hy hw
    obtain ⟨n, rfl⟩ : ∃ m, n = m + 1 := ⟨n - 1, by omega⟩
    obtain ⟨n2, rfl⟩ : ∃ m, n2 = m + 1 := ⟨n2 - 1, by omega⟩
    obtain ⟨c1, c2, c3, c4⟩ := bn_cnt hB 1
    obtain ⟨g1, g2⟩ := bnA_IA 1 hB
    have ga := gv_le hB
    have gb := gv_le g1
    obtain ⟨S, s1, s2⟩ := is_adv hi hB (N := 1) (by decide) (by omega)
    have t := s2 y
    obtain ⟨v1, hv⟩ := bnT_q 1 (B, o, v)
    have kk : Kp y (put y 15 7 S) := kp_put _ _ (Or.inl rfl)
    have w := hw c (by omega)
    unfold X3_judge_L63 X4_judge_L64
    rw [hy, if_neg (leN (by omega) (by omega)), is_over hi hB, bd_some, show (1 : Int32) = nI 1 from rfl, s1, bd_some, bd_some, is_over t g1, bd_some, show rd (put y 15 7 S) (48 + 2 * s + 1) 40 (nI c) = some (m 12 (40 * s + c)) from by rw [rd_i (show c < 40 by omega) (by decide), put_o (by omega), show 48 + 2 * s + 1 = 49 + 2 * s by omega, w], bd_some, sub_n (by omega), rd_i hs (by decide), bd_some, mst_k _ _ (by decide), hm, if_neg (leN (by omega) (by omega)), X4_beatsGo_n (T := (B, o, v)) (by decide) hB (show B 0 7 + 1 < 1000000 by omega), bd_some, hv]
    dsimp only
    rw [show (40 : Int32) = nI 40 from rfl, pk_mul, nI_add (40 * s) c, show rd (mst m (bnA 1 B, o + ovA 1 B, v1)) 12 160 (nI (40 * s + c)) = some (m 12 (40 * s + c)) from rd_i (show 40 * s + c < 160 by omega) (by decide), bd_some, show gvA (bnA 1 B) - gvA B = ovA 1 B by omega, nI_add c 1, nI_add 1 c]
    by_cases e : nI (ovA 1 B) = m 12 (40 * s + c)
    · rw [if_pos e, if_pos e]
      obtain ⟨r, y', o', v', w1, w2, w3⟩ := ih (c + 1) n n2 (put y 15 7 S) (o + ovA 1 B) v1 (bnA 1 B) (by omega) (by omega) (by omega) g1 (by omega) t (by rw [put_o (by omega)]; exact hy) (fun j hj => by rw [put_o (by omega)]; exact hw j hj)
      exact ⟨r, y', o', v', w1, w2, kp_tr kk w3⟩
    · rw [if_neg e, if_neg e, l99 c _ _ _ (by omega), if_neg (show ¬ c = z by omega)]
      exact ⟨_, _, _, _, rfl, rfl, kk⟩
theorem op_judge (a : Int32) : OPR (X3_judge a) (X4_judge a) := by
  intro x mm h
  unfold X3_judge X4_judge
  obtain ⟨A, o, v, m0, hA, hb, hx, rfl, hr⟩ := RLL_st h
  by_cases e : X3_within a 0 3 = 0
  · rw [if_pos (show X3_isSheet a = 0 from e), if_pos (show X4_isSheet a = 0 from e)]
    exact fl0 h
  · rw [if_neg (show ¬ X3_isSheet a = 0 from e), if_neg (show ¬ X4_isSheet a = 0 from e)]
    obtain ⟨s, hs3, rfl⟩ := wi_in (m := 3) (by decide) e
    have hs : s < 4 := by omega
    obtain ⟨r1, r2, r3, r4⟩ := RR_in hr
    obtain ⟨z, z1, z2, z3, z4, z5, z6⟩ := r4 s hs
    rw [sht_n hs, bd_some, show rd (mst m0 (A, o, v)) 10 4 (nI s) = some (x (48 + 2 * s) 1) from (rd_i hs (by decide)).trans (congrArg some z4.symm), bd_some, bd_some]
    by_cases e1 : x (48 + 2 * s) 1 = 0
    · rw [if_pos e1, if_pos e1]
      exact fl5 h
    · rw [if_neg e1, if_neg e1, z2, show rd (mst m0 (A, o, v)) 11 4 (nI s) = some (nI z) from (rd_i hs (by decide)).trans (congrArg some z3), bd_some, pe_n hx hb (by omega), tl_n (T := (A, o, v)) hb (by omega), bd_some]
      by_cases e2 : A 0 7 + z ≤ 9999
      · have hF : z < FU := Nat.lt_of_le_of_lt z1 (by decide)
        obtain ⟨r, y', o', v', w1, w2, w3⟩ := lb_judge (m := cpm m0 A) (cpm_as m0 A) hs z1 z3 z 0 FU FU (put x 15 7 (blk x 1)) o v A (Nat.zero_add z) hF hF hA (by omega) (is_cpy (is_x hx)) (by rw [put_o (by omega)]; exact z2) (fun j hj => by rw [put_o (by omega)]; exact z6 j hj)
        rw [if_pos e2, if_pos rfl, if_pos (show (0 : Int32) = 0 from rfl), show X4_copyRow 1 3 (mst m0 (A, o, v)) = some (mst (cpm m0 A) (A, o, v)) from X4_aside_n m0 (A, o, v), bd_some]
        exact ⟨r, y', _, w1, w2, RLL_try hA hb hx hr (kp_tr (kp_put x _ (Or.inl rfl)) w3) (km_cpm m0 A)⟩
      · rw [if_neg e2, if_neg (by decide), if_neg (show ¬ (1 : Int32) = 0 by decide)]
        exact fl4 h
