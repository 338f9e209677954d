/-! PURE 47: feed -/
theorem by_n (a : Int32) {i : Nat} (hi : i < 4) : ∃ b : Nat, b < 256 ∧ ush32 a (8 * nI i) &&& 255 = nI b ∧ shr32 a (8 * nI i) &&& 255 = nI b := by
  have e8 : (8 : Int32) * nI i = nI (8 * i) := pk_mul 8 i
  have eq : ush32 a (8 * nI i) &&& 255 = shr32 a (8 * nI i) &&& 255 := by
    rw [e8]
    unfold ush32 shr32
    refine b_ext (fun j hj => ?_)
    rw [b_and, b_and, b_255, b_ushr (8 * i) (by omega), b_sshr (8 * i) (by omega) a hj]
    by_cases q : j < 8
    · rw [if_pos (by omega)]
    · rw [decide_eq_false q, Bool.and_false, Bool.and_false]
  obtain ⟨n, hn, e⟩ := wb_of32 (ush32 a (8 * nI i))
  refine ⟨n &&& 255, Nat.lt_of_le_of_lt Nat.and_le_right (by decide), ?_, ?_⟩
  · rw [e]
    exact fa_and n 255
  · rw [← eq, e]
    exact fa_and n 255
/-- the tapes, so many bytes -/
def TP (y m : St) (L : Nat) : Prop := y 23 1 = nI L ∧ m 0 11 = nI L ∧ ∀ i, i < L → ∃ b : Nat, b < 256 ∧ y 24 i = nI b ∧ m 5 i = nI b
theorem RLL_tp {x y m0 m1 : St} {A : AS} {o v : Nat} (hA : IA A) (hb : A 0 7 ≤ 9999) (hx : blk x 1 = rp A) (hr : RR x (mst m0 (A, o, v))) (hk : ∀ k, k ≠ 23 → k ≠ 24 → y k = x k) (hm : ∀ k, k ≠ 0 → k ≠ 5 → m1 k = m0 k) (h3 : m1 0 3 = m0 0 3) {L : Nat} (hL : L ≤ 120) (ht : TP y m1 L) : RLL y (mst m1 (A, o, v)) := by
  obtain ⟨r1, r2, r3, r4⟩ := RR_in hr
  obtain ⟨t1, t2, t3⟩ := ht
  refine ⟨A, o, v, ⟨hA, hb⟩, fun k j h7 => ?_, ⟨m1, rfl⟩, ⟨⟨?_, ?_⟩, ⟨L, hL, t1, t2, t3⟩, ?_⟩⟩
  · rw [hk (1 + k) (by omega) (by omega)]
    exact xat hx k j
  · refine KPR_c r1 ?_ h3 (fun k h1 h2 => hk k (by omega) (by omega)) ?_
    · rw [hk 0 (by decide) (by decide)]
    · show m1 2 = m0 2
      exact hm 2 (by decide) (by decide)
  · exact FIR_c r2 (hk 26 (by decide) (by decide)) (show m1 4 = m0 4 from hm 4 (by decide) (by decide))
  · exact SHR_c r4 (fun k h1 h2 => hk k (by omega) (by omega)) (show m1 10 = m0 10 from hm 10 (by decide) (by decide)) (show m1 11 = m0 11 from hm 11 (by decide) (by decide)) (show m1 12 = m0 12 from hm 12 (by decide) (by decide))
theorem X2_append_n {S : St} {L : Nat} (hL : L < 120) (h : S 0 1 = nI L) (b : Int32) : X2_append b S = some (ups (ups S 1 L b) 0 1 (nI (L + 1))) := by
  unfold X2_append
  rw [h, if_neg (show ¬ (120 : Int32) ≤ nI L from leN (a := 120) (by omega) (by decide)), wr_i hL (by decide), bd_some, bd_some, ups_o (by decide), h, show nI L + 1 = nI (L + 1) from (nI_succ L).symm]
theorem lb_feed (a : Int32) : ∀ (d n n2 L : Nat) (y m : St) (T : TS), d ≤ 4 → d < n → d < n2 → L + d ≤ 120 → TP y m L →
    ∃ y' m', X3_feed_L39 n a (nI d + (-1)) y = some (nI (L + d), y') ∧ X4_feed_L38 n2 a (nI d + (-1)) (mst m T) = some (nI (L + d), mst m' T) ∧ TP y' m' (L + d) ∧ (∀ k, k ≠ 23 → k ≠ 24 → y' k = y k) ∧ (∀ k, k ≠ 0 → k ≠ 5 → m' k = m k) ∧ m' 0 3 = m 0 3 := by
  intro d
  induction d with
  | zero =>
    intro n n2 L y m T h0 h1 h2 h3 ht
    obtain ⟨n, rfl⟩ : ∃ k, n = k + 1 := ⟨n - 1, by omega⟩
    obtain ⟨n2, rfl⟩ : ∃ k, n2 = k + 1 := ⟨n2 - 1, by omega⟩
    unfold X3_feed_L39 X4_feed_L38
    rw [if_pos (by decide), if_pos (by decide), ht.1, show mst m T 0 11 = nI L from ht.2.1]
    exact ⟨y, m, rfl, rfl, ht, fun _ _ _ => rfl, fun _ _ _ => rfl, rfl⟩
  | succ d ih =>
    intro n n2 L y m T h0 h1 h2 h3 ht
    obtain ⟨n, rfl⟩ : ∃ k, n = k + 1 := ⟨n - 1, by omega⟩
    obtain ⟨n2, rfl⟩ : ∃ k, n2 = k + 1 := ⟨n2 - 1, by omega⟩
    obtain ⟨t1, t2, t3⟩ := ht
    obtain ⟨b, b1, b2, b3⟩ := by_n a (show d < 4 by omega)
    have u5 : ∀ i, ups (ups m 5 L (nI b)) 0 11 (nI (L + 1)) 5 i = if i = L then nI b else m 5 i := fun i => by rw [ups_o (by decide), ups_s]
    have y23 : put y 23 2 (ups (ups (blk y 23) 1 L (nI b)) 0 1 (nI (L + 1))) 23 1 = nI (L + 1) := by
      rw [show put y 23 2 (ups (ups (blk y 23) 1 L (nI b)) 0 1 (nI (L + 1))) 23 = ups (ups (blk y 23) 1 L (nI b)) 0 1 (nI (L + 1)) 0 from put_in (j := 0) (by decide), ups_s, if_pos rfl]
    have y24 : ∀ i, put y 23 2 (ups (ups (blk y 23) 1 L (nI b)) 0 1 (nI (L + 1))) 24 i = if i = L then nI b else y 24 i := fun i => by
      rw [show put y 23 2 (ups (ups (blk y 23) 1 L (nI b)) 0 1 (nI (L + 1))) 24 = ups (ups (blk y 23) 1 L (nI b)) 0 1 (nI (L + 1)) 1 from put_in (j := 1) (by decide), ups_o (by decide), ups_s]
      rfl
    obtain ⟨y', m', w1, w2, w3, w4, w5, w6⟩ := ih n n2 (L + 1) (put y 23 2 (ups (ups (blk y 23) 1 L (nI b)) 0 1 (nI (L + 1)))) (ups (ups m 5 L (nI b)) 0 11 (nI (L + 1))) T (by omega) (by omega) (by omega) (by omega) ⟨y23, by rw [ups_s, if_pos rfl], fun i hi => by
      rw [y24, u5]
      by_cases e : i = L
      · rw [if_pos e, if_pos e]
        exact ⟨b, b1, rfl, rfl⟩
      · rw [if_neg e, if_neg e]
        exact t3 i (by omega)⟩
    unfold X3_feed_L39 X4_feed_L38
    rw [mn_n, if_neg (nI_pos (by omega)), if_neg (nI_pos (by omega)), b2, b3, X2_append_n (S := blk y 23) (show L < 120 by omega) t1, bd_some, bd_some, show mst m T 0 11 = nI L from t2, wr_i (show L < 120 by omega) (by decide), bd_some, mst_uk _ _ _ (by decide), show mst (ups m 5 L (nI b)) T 0 11 = nI L from t2, show nI L + 1 = nI (L + 1) from (nI_succ L).symm, mst_u _ _ _ (by decide) (by decide), bd_some, show L + (d + 1) = L + 1 + d by omega]
    refine ⟨y', m', w1, w2, w3, fun k k1 k2 => ?_, fun k k1 k2 => ?_, ?_⟩
    · rw [w4 k k1 k2, put_o (by omega)]
    · rw [w5 k k1 k2, ups_o k1, ups_o k2]
    · rw [w6, ups_s, if_neg (by decide), ups_o (by decide)]
theorem op_feed (a b : Int32) : OPR (X3_feed a b) (X4_feed a b) := by
  intro x mm h
  unfold X3_feed X4_feed
  by_cases e : X3_within b 1 4 = 0
  · rw [if_pos e, if_pos (show X4_within b 1 4 = 0 from e)]
    exact fl0 h
  · rw [if_neg e, if_neg (show ¬ X4_within b 1 4 = 0 from e)]
    obtain ⟨N, hN1, hN, rfl⟩ := wi_in1 (l := 1) (m := 4) (by decide) (by decide) e
    obtain ⟨A, o, v, m0, hA, hb, hx, rfl, hr⟩ := RLL_st h
    obtain ⟨r1, r2, ⟨L, t1, t2, t3, t4⟩, r4⟩ := RR_in hr
    rw [t2, t3, nI_add]
    by_cases e1 : L + N ≤ 120
    · have hF : N < FU := Nat.lt_of_le_of_lt hN (by decide)
      obtain ⟨y', m', w1, w2, w3, w4, w5, w6⟩ := lb_feed a N FU FU L x m0 (A, o, v) hN hF hF e1 ⟨t2, t3, t4⟩
      rw [m1_n (show 0 < N by omega)] at w1 w2
      rw [if_pos (show nI (L + N) ≤ 120 from leY (b := 120) e1 (by decide)), if_pos (show nI (L + N) ≤ 120 from leY (b := 120) e1 (by decide)), show nI N - 1 = nI (N - 1) from sub_n (b := 1) (by omega)]
      exact ⟨_, y', _, w1, w2, RLL_tp hA hb hx hr w4 w5 w6 e1 w3⟩
    · rw [if_neg (show ¬ nI (L + N) ≤ 120 from leN (b := 120) e1 (by omega)), if_neg (show ¬ nI (L + N) ≤ 120 from leN (b := 120) e1 (by omega))]
      exact fl1 h
