/-! PURE 38: the watch soonest -/
theorem hc_e {A B : AS} (h : E7 A B) : hcA A = hcA B := by
  unfold hcA
  rw [h 0 (by decide), h 2 (by decide)]
theorem is_can2 {y : St} {A : AS} (hi : Is y 1 A) (hA : IA A) (hb : A 0 7 ≤ 9999) {N : Nat} (hN : N < 1000) : X3_canDrop (nI N) y = some (if N ≤ hcA A ∧ A 0 7 ≤ 9900 then 1 else 0) := by
  obtain ⟨B, h1, h2⟩ := is_blk hi
  have z := is_can (x := y) (A := B) (IA_eq h1 hA) (by rw [← h1 0 (by decide)]; exact hb) h2 hN
  rw [z, hc_e h1, h1 0 (by decide)]
theorem mn3_n (h : Nat) (hh : h < 100) : mnI 3 (nI h) = nI (if h < 3 then h else 3) := by
  unfold mnI
  by_cases e : h < 3
  · rw [if_pos e, if_pos (show nI h < 3 from ltY (b := 3) e (by decide))]
  · rw [if_neg e, if_neg (show ¬ nI h < 3 from ltN (b := 3) e (by omega))]
    rfl
theorem lb_so1 {A : AS} (hA : IA A) {k j : Nat} (hj : j < A 0 6) (hk : k < 4) (hh : k ≤ hcA A) (hb : A 0 7 < 20000) (b2 : Int32) (k2 : Int32 → Int32 → St → Option (Int32 × St)) (k27 : Int32 → Int32 → Int32 → St → Option (Int32 × St)) : ∀ (d w n n2 : Nat) (y m : St) (o v : Nat), w + d = 7 ^ k → d < n → d < n2 → Is y 1 A → (w = 0 ∨ LV y A k (w - 1)) → AsE m A →
    ∃ (y' m' : St) (o' v' : Nat), Kp y y' ∧ Km m m' ∧ AsE m' A ∧ ((∃ u, u < 7 ^ k ∧ X3_soonestWay_L19 k2 n (nI j) (nI k) (nI w) y = some (nI (k * 343 + u), y') ∧ X4_findSoonest_L35 k27 n2 (nI j) b2 (nI k) (nI w) (mst m (A, o, v)) = some (nI k, mst m' (A, o', v')) ∧ m' 0 9 = nI u) ∨ (X3_soonestWay_L19 k2 n (nI j) (nI k) (nI w) y = k2 (nI j) (nI (k + 1)) y' ∧ X4_findSoonest_L35 k27 n2 (nI j) b2 (nI k) (nI w) (mst m (A, o, v)) = k27 (nI j) b2 (nI (k + 1)) (mst m' (A, o', v')))) := by
  intro d
  have p1 := p7_le hk
  have hn := ia_n hA
  induction d with
  | zero =>
    intro w n n2 y m o v h1 h2 h3 hi hp as
    obtain ⟨n, rfl⟩ : ∃ m, n = m + 1 := ⟨n - 1, by omega⟩
    obtain ⟨n2, rfl⟩ : ∃ m, n2 = m + 1 := ⟨n2 - 1, by omega⟩
    unfold X3_soonestWay_L19 X4_findSoonest_L35
    rw [rdc_n hk (by decide), bd_some, wy6 hk, wy4 hk, if_pos (leY (by omega) (by omega)), if_pos (leY (by omega) (by omega)), show nI k + 1 = nI (k + 1) from (nI_succ k).symm]
    exact ⟨y, m, o, v, kp_id y, km_id m, as, Or.inr ⟨rfl, rfl⟩⟩
  | succ d ih =>
    intro w n n2 y m o v h1 h2 h3 hi hp as
    obtain ⟨n, rfl⟩ : ∃ m, n = m + 1 := ⟨n - 1, by omega⟩
    obtain ⟨n2, rfl⟩ : ∃ m, n2 = m + 1 := ⟨n2 - 1, by omega⟩
    obtain ⟨z, z1, z2, z3, z4⟩ := X3_walk_n hA hk (w := w) (by omega) hh hb hi hp
    obtain ⟨o1, v1, y1⟩ := X4_dropsBy_n (m := m) hA hk (w := w) (by omega) hh hb o v
    obtain ⟨g1, g2, g3, g4, g5⟩ := pf_ok hA k w hh
    unfold X3_soonestWay_L19 X4_findSoonest_L35
    rw [rdc_n hk (by decide), bd_some, wy6 hk, wy4 hk, if_neg (leN (by omega) (by omega)), if_neg (leN (by omega) (by omega)), z1, bd_some, y1, bd_some]
    dsimp only
    rw [gsh_l hk, bd_some, is_at z4 (by omega), bd_some, m_at (T := (pfx k w A, o1, v1)) (by omega), bd_some, X4_putBack_n as, bd_some]
    dsimp only
    have e1 := won_x g1 (c := j) (by omega)
    have e2 := won_m g1 (c := j) (by omega)
    by_cases e : pfx k w A 2 j = 101
    · rw [if_pos (e1.mpr e), if_pos (e2.mpr e), w343, bd_some, pk_mul, nI_add, bd_some, mst_u m _ _ (by decide) (by decide)]
      exact ⟨z, ups m 0 9 (nI w), o1, v1, z2, km_u m _ (by decide) (by decide), as_u as _ _, Or.inl ⟨w, by omega, rfl, rfl, rfl⟩⟩
    · obtain ⟨y', m', o', v', w1, w2, w3, w4⟩ := ih (w + 1) n n2 z m o1 v1 (by omega) (by omega) (by omega) (kp_is z2 hi) (Or.inr z3) as
      rw [if_neg (fun q => e (e1.mp q)), if_neg (fun q => e (e2.mp q)), show nI w + 1 = nI (w + 1) from (nI_succ w).symm]
      exact ⟨y', m', o', v', kp_tr z2 w1, w2, w3, w4⟩
theorem lb_so2 {A : AS} (hA : IA A) {j : Nat} (hj : j < A 0 6) (hb : A 0 7 ≤ 9900) : ∀ (d k n n2 : Nat) (y m : St) (o v : Nat), k + d = 4 → d < n → d < n2 → Is y 1 A → AsE m A →
    ∃ (y' m' : St) (o' v' : Nat), Kp y y' ∧ Km m m' ∧ ((∃ k' u, k' < 4 ∧ u < 7 ^ k' ∧ X3_soonestWay_L2 n (nI j) (nI k) y = some (nI (k' * 343 + u), y') ∧ X4_findSoonest_L27 n2 (nI j) (nI (if hcA A < 3 then hcA A else 3)) (nI k) (mst m (A, o, v)) = some (nI k', mst m' (A, o', v')) ∧ m' 0 9 = nI u) ∨ (X3_soonestWay_L2 n (nI j) (nI k) y = some (-1, y') ∧ X4_findSoonest_L27 n2 (nI j) (nI (if hcA A < 3 then hcA A else 3)) (nI k) (mst m (A, o, v)) = some (-1, mst m' (A, o', v')))) := by
  intro d
  have hm3 : (if hcA A < 3 then hcA A else 3) ≤ 3 := by split <;> omega
  induction d with
  | zero =>
    intro k n n2 y m o v h1 h2 h3 hi as
    obtain ⟨n, rfl⟩ : ∃ m, n = m + 1 := ⟨n - 1, by omega⟩
    obtain ⟨n2, rfl⟩ : ∃ m, n2 = m + 1 := ⟨n2 - 1, by omega⟩
    unfold X3_soonestWay_L2 X4_findSoonest_L27
    rw [if_pos (show (3 : Int32) < nI k from ltY (a := 3) (by omega) (by omega)), if_pos (ltY (by omega) (by omega))]
    exact ⟨y, m, o, v, kp_id y, km_id m, Or.inr ⟨rfl, rfl⟩⟩
  | succ d ih =>
    intro k n n2 y m o v h1 h2 h3 hi as
    obtain ⟨n, rfl⟩ : ∃ m, n = m + 1 := ⟨n - 1, by omega⟩
    obtain ⟨n2, rfl⟩ : ∃ m, n2 = m + 1 := ⟨n2 - 1, by omega⟩
    unfold X3_soonestWay_L2 X4_findSoonest_L27
    rw [if_neg (show ¬ (3 : Int32) < nI k from ltN (a := 3) (by omega) (by decide)), is_can2 hi hA (by omega) (by omega), bd_some]
    by_cases e : k ≤ hcA A
    · have hk : k < 4 := by omega
      have pF : 7 ^ k < FU := Nat.lt_of_le_of_lt (p7_le hk) (by decide)
      obtain ⟨z, m1, o1, v1, q1, q2, q3, q4⟩ := lb_so1 hA hj hk e (by omega) (nI (if hcA A < 3 then hcA A else 3)) (X3_soonestWay_L2 n) (X4_findSoonest_L27 n2) (7 ^ k) 0 FU FU y m o v (Nat.zero_add _) pF pF hi (Or.inl rfl) as
      rw [if_pos (show k ≤ hcA A ∧ A 0 7 ≤ 9900 from ⟨e, hb⟩), if_neg (show ¬ (1 : Int32) = 0 by decide), if_neg (show ¬ nI (if hcA A < 3 then hcA A else 3) < nI k from ltN (by split <;> omega) (by omega))]
      rcases q4 with ⟨u, u1, u2, u3, u4⟩ | ⟨u2, u3⟩
      · exact ⟨z, m1, o1, v1, q1, q2, Or.inl ⟨k, u, hk, u1, u2, u3, u4⟩⟩
      · obtain ⟨y', m', o', v', w1, w2, w3⟩ := ih (k + 1) n n2 z m1 o1 v1 (by omega) (by omega) (by omega) (kp_is q1 hi) q3
        have s2 : X3_soonestWay_L19 (X3_soonestWay_L2 n) FU (nI j) (nI k) 0 y = X3_soonestWay_L2 n (nI j) (nI (k + 1)) z := u2
        have s3 : X4_findSoonest_L35 (X4_findSoonest_L27 n2) FU (nI j) (nI (if hcA A < 3 then hcA A else 3)) (nI k) 0 (mst m (A, o, v)) = X4_findSoonest_L27 n2 (nI j) (nI (if hcA A < 3 then hcA A else 3)) (nI (k + 1)) (mst m1 (A, o1, v1)) := u3
        rw [s2, s3]
        exact ⟨y', m', o', v', kp_tr q1 w1, km_tr q2 w2, w3⟩
    · rw [if_neg (show ¬ (k ≤ hcA A ∧ A 0 7 ≤ 9900) from fun z => e z.1), if_pos (show (0 : Int32) = 0 from rfl), if_pos (show nI (if hcA A < 3 then hcA A else 3) < nI k from ltY (by rw [if_pos (show hcA A < 3 by omega)]; omega) (by omega))]
      exact ⟨y, m, o, v, kp_id y, km_id m, Or.inr ⟨rfl, rfl⟩⟩
theorem so_both {x m0 : St} {A : AS} {o v : Nat} (hA : IA A) (hi : Is x 1 A) {j : Nat} (hj : j < A 0 6) (hb : A 0 7 ≤ 9900) :
    ∃ (y' m' : St) (o' v' : Nat), Kp x y' ∧ Km m0 m' ∧ ((∃ k' u, k' < 4 ∧ u < 7 ^ k' ∧ X3_soonestWay (nI j) x = some (nI (k' * 343 + u), y') ∧ X4_findSoonest (nI j) (mst m0 (A, o, v)) = some (nI k', mst m' (A, o', v')) ∧ m' 0 9 = nI u) ∨ (X3_soonestWay (nI j) x = some (-1, y') ∧ X4_findSoonest (nI j) (mst m0 (A, o, v)) = some (-1, mst m' (A, o', v')))) := by
  have hn := ia_n hA
  have hl : hcA A ≤ 24 := Nat.le_trans (cn_le _ _ _) hn
  obtain ⟨y', m', o', v', w1, w2, w3⟩ := lb_so2 hA hj hb 4 0 FU FU x (cpm m0 A) o v rfl (by decide) (by decide) hi (cpm_as m0 A)
  unfold X4_findSoonest
  rw [show X4_copyRow 1 3 (mst m0 (A, o, v)) = some (mst (cpm m0 A) (A, o, v)) from X4_aside_n m0 (A, o, v), bd_some, show (100 : Int32) = nI 100 from rfl, X4_setOf_n (T := (A, o, v)) hA (by decide) (by decide), bd_some, X4_bits_n (msk_lt hn 100), bd_some, hc_pcr hn, mn3_n _ (by omega)]
  exact ⟨y', m', o', v', w1, km_tr (km_cpm m0 A) w2, w3⟩
theorem rs_n {m0 : St} {T : TS} (hA : IA T.1) (hb : T.1 0 7 ≤ 9999) {k : Nat} (hk : k < T.1 0 6) : X4_refusesSoon (nI k) (mst m0 T) = some (if T.1 0 7 ≤ 9900 then 0 else (-1000005)) := by
  have hn := ia_n hA
  have w : ¬ X3_within (nI k) 0 (nI (T.1 0 6) - 1) = 0 := by
    rw [show nI (T.1 0 6) - 1 = nI (T.1 0 6 - 1) from sub_n (b := 1) (by omega)]
    exact wi_ok (by omega) (by omega)
  unfold X4_refusesSoon
  rw [ic_m, bd_some, if_neg w, beat_le hb]
theorem rs_no {m0 : St} {T : TS} (a : Int32) (h : X3_within a 0 (nI (T.1 0 6) - 1) = 0) : X4_refusesSoon a (mst m0 T) = some (-1000001) := by
  unfold X4_refusesSoon
  rw [ic_m, bd_some, if_pos h]
theorem op_soonest (a : Int32) : OPR (X3_soonest a) (X4_soonest a) := by
  intro x mm h
  unfold X3_soonest X4_soonest
  obtain ⟨A, o, v, m0, hA, hb, hx, rfl, hr⟩ := RLL_st h
  have hn := ia_n hA
  rw [ic_x hx]
  by_cases e : X3_within a 0 (nI (A 0 6) - 1) = 0
  · rw [if_pos e, rs_no (T := (A, o, v)) a e, bd_some, if_neg (by decide)]
    exact fl0 h
  · rw [if_neg e]
    obtain ⟨j, hj, rfl⟩ := ic_in hn e
    rw [rs_n (T := (A, o, v)) hA hb hj, bd_some, show x 1 7 = nI (A 0 7) from xat hx 0 7]
    by_cases e2 : A 0 7 ≤ 9900
    · rw [if_pos (show nI (A 0 7) ≤ 9900 from leY (b := 9900) e2 (by decide)), if_pos (show (if (A, o, v).1 0 7 ≤ 9900 then (0 : Int32) else -1000005) = 0 from if_pos e2)]
      obtain ⟨y', m', o', v', w1, w2, w3⟩ := so_both (m0 := m0) (o := o) (v := v) hA (is_x hx) hj e2
      have fin : RLL y' (mst m' (A, o', v')) := RLL_try hA hb hx hr w1 w2
      rcases w3 with ⟨k, u, k4, u1, u2, u3, u4⟩ | ⟨u2, u3⟩
      · have p1 := p7_le k4
        rw [u2, bd_some, u3, bd_some]
        dsimp only
        rw [if_pos (nI_pos' (by omega)), w343, bd_some, dvn_n (by omega) (by decide) (by decide), bd_some, if_pos (nI_pos' (by omega)), show (k * 343 + u) / 343 = k by omega]
        exact ⟨_, _, _, rfl, rfl, fin⟩
      · rw [u2, bd_some, u3, bd_some]
        dsimp only
        rw [if_neg (by decide), if_neg (by decide)]
        exact fl3 fin
    · rw [if_neg (show ¬ nI (A 0 7) ≤ 9900 from leN (b := 9900) e2 (by omega)), if_neg (show ¬ (if (A, o, v).1 0 7 ≤ 9900 then (0 : Int32) else -1000005) = 0 by rw [if_neg (show ¬ (A, o, v).1 0 7 ≤ 9900 from e2)]; decide), if_neg (show ¬ (A, o, v).1 0 7 ≤ 9900 from e2)]
      exact fl4 h
theorem op_firstFor (a : Int32) : OPR (X3_firstFor a) (X4_firstFor a) := by
  intro x mm h
  unfold X3_firstFor X4_firstFor
  obtain ⟨A, o, v, m0, hA, hb, hx, rfl, hr⟩ := RLL_st h
  have hn := ia_n hA
  rw [ic_x hx]
  by_cases e : X3_within a 0 (nI (A 0 6) - 1) = 0
  · rw [if_pos e, rs_no (T := (A, o, v)) a e, bd_some, if_neg (by decide)]
    exact fl0 h
  · rw [if_neg e]
    obtain ⟨j, hj, rfl⟩ := ic_in hn e
    rw [rs_n (T := (A, o, v)) hA hb hj, bd_some, show x 1 7 = nI (A 0 7) from xat hx 0 7]
    by_cases e2 : A 0 7 ≤ 9900
    · rw [if_pos (show nI (A 0 7) ≤ 9900 from leY (b := 9900) e2 (by decide)), if_pos (show (if (A, o, v).1 0 7 ≤ 9900 then (0 : Int32) else -1000005) = 0 from if_pos e2)]
      obtain ⟨y', m', o', v', w1, w2, w3⟩ := so_both (m0 := m0) (o := o) (v := v) hA (is_x hx) hj e2
      have fin : RLL y' (mst m' (A, o', v')) := RLL_try hA hb hx hr w1 w2
      rcases w3 with ⟨k, u, k4, u1, u2, u3, u4⟩ | ⟨u2, u3⟩
      · have p1 := p7_le k4
        rw [u2, bd_some, u3, bd_some]
        dsimp only
        rw [w343, bd_some, bd_some]
        by_cases k0 : k = 0
        · subst k0
          rw [Nat.pow_zero] at u1
          rw [if_neg (leN (by omega) (by omega)), if_neg (by decide)]
          exact fl3 fin
        · rw [if_pos (leY (by omega) (by omega)), if_pos (show (1 : Int32) ≤ nI k from leY (a := 1) (by omega) (by omega)), dvn_n (by omega) (by decide) (by decide), bd_some, bd_some, rmn_n (by omega) (by decide) (by decide), bd_some, show (k * 343 + u) / 343 = k by omega, show (k * 343 + u) % 343 = u by omega, show mst m' (A, o', v') 0 9 = nI u from u4, show X3_columnOf (nI u) (nI k) 1 = some (nI (u / 7 ^ (k - 1) % 7)) from X3_columnOf_n (d := 1) (by omega) k4 (by omega), bd_some, show X4_columnOf (nI u) (nI k) 0 = some (nI (u / 7 ^ (k - 1) % 7)) from X4_columnOf_n (i := 0) (by omega) k4 (by omega), bd_some]
          exact ⟨_, _, _, rfl, rfl, fin⟩
      · rw [u2, bd_some, u3, bd_some]
        dsimp only
        rw [w343, bd_some, if_neg (by decide), if_neg (by decide)]
        exact fl3 fin
    · rw [if_neg (show ¬ nI (A 0 7) ≤ 9900 from leN (b := 9900) e2 (by omega)), if_neg (show ¬ (if (A, o, v).1 0 7 ≤ 9900 then (0 : Int32) else -1000005) = 0 by rw [if_neg (show ¬ (A, o, v).1 0 7 ≤ 9900 from e2)]; decide), if_neg (show ¬ (A, o, v).1 0 7 ≤ 9900 from e2)]
      exact fl4 h
