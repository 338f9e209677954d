/-! PURE 23: what a drop brings -/
theorem X3_gainBy_n {y : St} {k1 : Nat} {A : AS} (h : Is y k1 A) (hd : k1 + 7 ≤ 15 ∨ 22 ≤ k1) (hA : IA A) {c col N : Nat} (hc : c < A 0 6) (hp : A 2 c = 100) (hl : col < 7) (hN : N < 900) (hb : A 0 7 < 20000) :
    ∃ y', X3_gainBy k1 (nI c) (nI col) (nI N) y = some (gI (bnA N (drA A c col)), y') ∧ Kp y y' ∧ ∀ b B, (b + 7 ≤ 15 ∨ 22 ≤ b) → Is y b B → Is y' b B := by
  obtain ⟨d1, d2⟩ := drA_IA hA hc hp hl
  have h15 := is_cpy (b2 := 15) h
  obtain ⟨S, s1, s2⟩ := is_rel h15 hA hc hp hl (by omega)
  have t := s2 (put y 15 7 (blk y k1))
  obtain ⟨S2, r1, r2⟩ := is_adv t d1 hN (by omega)
  have t2 := r2 (put (put y 15 7 (blk y k1)) 15 7 S)
  have g := is_gain t2 (bnA_IA N d1).1
  refine ⟨put (put (put y 15 7 (blk y k1)) 15 7 S) 15 7 S2, ?_, ?_, ?_⟩
  · unfold X3_gainBy gne
    rw [if_neg (by omega), bd_some, bd_some, s1, bd_some, bd_some, r1, bd_some, bd_some, g, bd_some]
  · exact kp_tr (kp_tr (kp_put y _ (Or.inl rfl)) (kp_put _ _ (Or.inl rfl))) (kp_put _ _ (Or.inl rfl))
  · intro b B hb hB
    exact is_oth (is_oth (is_oth hB (by omega)) (by omega)) (by omega)
theorem X4_gainBy_n {m : St} {A0 A : AS} {o v : Nat} (as : AsE m A0) (hA : IA A) {c col W N : Nat} (hc : c < A 0 6) (hp : A 2 c = 100) (hl : col < 7) (hW : W < 900) (hN : N < 900) (hb : A 0 7 < 20000) :
    ∃ o' v', X4_gainBy (nI W) (nI c) (nI col) (nI N) (mst m (A, o, v)) = some (gI (bnA N (drA (bnA W A) c col)), mst m (A0, o', v')) := by
  obtain ⟨c1, c2, c3, c4⟩ := bn_cnt hA W
  obtain ⟨g1, g2⟩ := bnA_IA W hA
  have hp2 : bnA W A 2 c = 100 := by rw [c3 c hc (by omega), hp]
  have hc2 : c < bnA W A 0 6 := by omega
  obtain ⟨d1, d2⟩ := drA_IA g1 hc2 hp2 hl
  obtain ⟨v1, hv⟩ := bnT_q W (A, o, v)
  obtain ⟨o2, v2, hd⟩ := dpT_q (bnA W A, o + ovA W A, v1) c col
  obtain ⟨v3, hw⟩ := bnT_q N (drA (bnA W A) c col, o2, v2)
  have l1 := ovA_le hA W
  have l2 := ovA_le d1 N
  refine ⟨o2 + ovA N (drA (bnA W A) c col), v3, ?_⟩
  unfold X4_gainBy
  rw [X4_beatsGo_n (T := (A, o, v)) hW hA (show A 0 7 + W < 1000000 by omega), bd_some, hv]
  dsimp only
  rw [X4_dropped_n (T := (bnA W A, o + ovA W A, v1)) g1 hc2 hp2 hl (show bnA W A 0 7 < 100000 by omega), bd_some, hd]
  rw [X4_beatsGo_n (T := (drA (bnA W A) c col, o2, v2)) hN d1 (show drA (bnA W A) c col 0 7 + N < 1000000 by omega), bd_some, hw]
  dsimp only
  rw [nI_add, if_pos (nI_pos' (by omega)), X4_gain_n (T := (bnA N (drA (bnA W A) c col), o2 + ovA N (drA (bnA W A) c col), v3)) (bnA_IA N d1).1, bd_some, X4_putBack_n as, bd_some]
theorem is_srch {x : St} {A : AS} (hA : IA A) (hb : A 0 7 ≤ 9999) (hx : blk x 1 = rp A) {k : Nat} (hk : k < A 0 6) : X3_isSearched (nI k) x = some (if A 2 k = 100 ∧ A 0 7 ≤ 9900 then 1 else 0) := by
  have hn := ia_n hA
  have hp := ia_p2 hA hk
  unfold X3_isSearched
  rw [show rd x 3 24 (nI k) = some (nI (A 2 k)) from xrd hx 2 (by omega) (by decide), bd_some, show x 1 7 = nI (A 0 7) from xat hx 0 7]
  by_cases e : A 2 k = 100
  · rw [if_pos (show nI (A 2 k) = 100 from congrArg nI e)]
    by_cases e2 : A 0 7 ≤ 9900
    · rw [if_neg (show ¬ (9900 : Int32) < nI (A 0 7) from ltN (a := 9900) (by omega) (by decide)), if_pos ⟨e, e2⟩]
    · rw [if_pos (show (9900 : Int32) < nI (A 0 7) from ltY (a := 9900) (by omega) (by omega)), if_neg (fun z => e2 z.2)]
  · rw [if_neg (show ¬ nI (A 2 k) = 100 from eqN (b := 100) e (by omega) (by decide)), if_neg (fun z => e z.1)]
theorem beat_le {m0 : St} {T : TS} (hb : T.1 0 7 ≤ 9999) {β : Type} (f g : β) : ((rd (mst m0 T) 1 275 0).bind fun v6 => if v6 ≤ 9900 then some f else some g) = some (if T.1 0 7 ≤ 9900 then f else g) := by
  rw [show (0 : Int32) = nI 0 from rfl, md (by decide), bd_some, enc_0]
  by_cases e : T.1 0 7 ≤ 9900
  · rw [if_pos (show nI (T.1 0 7) ≤ 9900 from leY (b := 9900) e (by decide)), if_pos e]
  · rw [if_neg (show ¬ nI (T.1 0 7) ≤ 9900 from leN (b := 9900) e (by omega)), if_neg e]
/-- what both sides say to a search with a coin -/
theorem rf_n {m0 : St} {T : TS} (hA : IA T.1) (hb : T.1 0 7 ≤ 9999) {k : Nat} (hk : k < T.1 0 6) (b : Int32) : X4_refuses (nI k) b (mst m0 T) = some (if X3_within b 0 20 = 0 then (-1000001) else if T.1 2 k = 100 ∧ T.1 0 7 ≤ 9900 then 0 else (-1000005)) := by
  have hn := ia_n hA
  have w : ¬ X3_within (nI k) 0 (nI (T.1 0 6) - 1) = 0 := by
    rw [show nI (T.1 0 6) - 1 = nI (T.1 0 6 - 1) from sub_n (b := 1) (by omega)]
    exact wi_ok (by omega) (by omega)
  unfold X4_refuses
  rw [ic_m, bd_some, if_neg w]
  by_cases e : X3_within b 0 20 = 0
  · rw [if_pos (show X4_within b 0 20 = 0 from e), if_pos e]
  · rw [if_neg (show ¬ X4_within b 0 20 = 0 from e), if_neg e, X4_isInHand_n hA hk, bd_some]
    by_cases e2 : T.1 2 k = 100
    · rw [if_pos e2, if_neg (by decide), beat_le hb]
      by_cases e3 : T.1 0 7 ≤ 9900
      · rw [if_pos e3, if_pos ⟨e2, e3⟩]
      · rw [if_neg e3, if_neg (fun z => e3 z.2)]
    · rw [if_neg e2, if_pos rfl, if_neg (fun z => e2 z.1)]
theorem rf_no {m0 : St} {T : TS} (a b : Int32) (h : X3_within a 0 (nI (T.1 0 6) - 1) = 0) : X4_refuses a b (mst m0 T) = some (-1000001) := by
  unfold X4_refuses
  rw [ic_m, bd_some, if_pos h]
theorem op_brings (a b d : Int32) : OPR (X3_brings a b d) (X4_brings a b d) := by
  intro x mm h
  unfold X3_brings X4_brings
  obtain ⟨A, o, v, m0, hA, hb, hx, rfl, hr⟩ := RLL_st h
  have hn := ia_n hA
  rw [ic_x hx]
  by_cases e : X3_within a 0 (nI (A 0 6) - 1) = 0
  · rw [if_pos e, rf_no (T := (A, o, v)) a d e, bd_some, if_pos rfl]
    exact fl0 h
  · rw [if_neg e]
    obtain ⟨k, hk, rfl⟩ := ic_in hn e
    rw [rf_n (T := (A, o, v)) hA hb hk, bd_some]
    by_cases e1 : X3_isColumn b = 0
    · rw [if_pos e1]
      by_cases e2 : X3_within d 0 20 = 0
      · rw [if_pos e2, if_pos rfl]
        exact fl0 h
      · rw [if_neg e2, if_neg (show ¬ (if (A, o, v).1 2 k = 100 ∧ (A, o, v).1 0 7 ≤ 9900 then (0 : Int32) else -1000005) = -1000001 by split <;> decide), if_pos (show X4_isColumn b = 0 from e1)]
        exact fl0 h
    · rw [if_neg e1]
      obtain ⟨c, hc, rfl⟩ := wi_in (m := 6) (by decide) e1
      by_cases e2 : X3_within d 0 20 = 0
      · rw [if_pos e2, if_pos e2, if_pos rfl]
        exact fl0 h
      · obtain ⟨N, hN, rfl⟩ := wi_in (m := 20) (by decide) e2
        rw [if_neg e2, if_neg e2, if_neg (show ¬ (if (A, o, v).1 2 k = 100 ∧ (A, o, v).1 0 7 ≤ 9900 then (0 : Int32) else -1000005) = -1000001 by split <;> decide), if_neg (show ¬ X4_isColumn (nI c) = 0 from e1), is_srch hA hb hx hk, bd_some]
        by_cases e3 : A 2 k = 100 ∧ A 0 7 ≤ 9900
        · obtain ⟨y, y1, y2, y3⟩ := X3_gainBy_n (is_x hx) (Or.inl (by decide)) hA (c := k) (col := c) (N := N) hk e3.1 (by omega) (by omega) (by omega)
          obtain ⟨o', v', z⟩ := X4_gainBy_n (o := o) (v := v) (cpm_as m0 A) hA (c := k) (col := c) (W := 0) (N := N) hk e3.1 (by omega) (by decide) (by omega) (by omega)
          rw [if_pos e3, if_neg (by decide), if_pos (show (if (A, o, v).1 2 k = 100 ∧ (A, o, v).1 0 7 ≤ 9900 then (0 : Int32) else -1000005) = 0 from if_pos e3), y1, bd_some]
          dsimp only
          rw [is_gain (y3 1 A (Or.inl (by decide)) (is_x hx)) hA, bd_some, show X4_copyRow 1 3 (mst m0 (A, o, v)) = some (mst (cpm m0 A) (A, o, v)) from X4_aside_n m0 (A, o, v), bd_some, show (0 : Int32) = nI 0 from rfl, z, bd_some]
          dsimp only
          rw [X4_gain_n (T := (A, o', v')) hA, bd_some]
          exact ⟨_, _, _, rfl, rfl, RLL_try hA hb hx hr y2 (km_cpm m0 A)⟩
        · rw [if_neg e3, if_pos rfl, if_neg (show ¬ (if (A, o, v).1 2 k = 100 ∧ (A, o, v).1 0 7 ≤ 9900 then (0 : Int32) else -1000005) = 0 by rw [if_neg (show ¬ ((A, o, v).1 2 k = 100 ∧ (A, o, v).1 0 7 ≤ 9900) from e3)]; decide), if_neg (show ¬ ((A, o, v).1 2 k = 100 ∧ (A, o, v).1 0 7 ≤ 9900) from e3)]
          exact fl4 h
