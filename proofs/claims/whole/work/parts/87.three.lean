/-! PURE 37: three drops -/
theorem mst_u (m : St) (T : TS) {j : Nat} (v : Int32) (h5 : j ≠ 5) (h6 : j ≠ 6) : ups (mst m T) 0 j v = mst (ups m 0 j v) T := by
  funext a b
  unfold ups mst
  by_cases e1 : a = 1
  · subst e1
    simp (decide := true) only [if_true, if_false]
  · by_cases e0 : a = 0
    · subst e0
      by_cases q : b = j
      · subst q
        simp [h5, h6]
      · simp [q]
    · simp only [e1, e0, if_false]
theorem as_u {m : St} {A : AS} (h : AsE m A) (j : Nat) (v : Int32) : AsE (ups m 0 j v) A := by
  intro i hi
  rw [ups_o (by decide)]
  exact h i hi
theorem km_u (m : St) {j : Nat} (v : Int32) (h3 : j ≠ 3) (h11 : j ≠ 11) : Km m (ups m 0 j v) := by
  refine ⟨?_, ?_, fun k hk => ?_⟩
  · rw [ups_s, if_neg (fun z => h3 z.symm)]
  · rw [ups_s, if_neg (fun z => h11 z.symm)]
  · unfold offM at hk
    rw [ups_o (by omega)]
def thF (A : AS) (N w : Nat) : Int32 := gI (bnA N (pfx 3 w A))
def btF (G : Nat → Int32) : Nat → Nat → Nat × Int32 → Nat × Int32
  | 0, _, p => p
  | d + 1, w, p => btF G d (w + 1) (if G w ≤ p.2 then p else (w, G w))
theorem btF_lt (G : Nat → Int32) : ∀ d w p, w + d ≤ 343 → p.1 < 343 → (btF G d w p).1 < 343 := by
  intro d
  induction d with
  | zero => intro w p _ h; exact h
  | succ d ih =>
    intro w p h1 h2
    refine ih (w + 1) _ (by omega) ?_
    split
    · exact h2
    · show w < 343
      omega
theorem X3_g3_n {A : AS} (hA : IA A) {w N : Nat} (hw : w < 343) (hN : N < 900) (hh : 3 ≤ hcA A) (hb : A 0 7 < 20000) {y : St} (hi : Is y 1 A) (hp : w = 0 ∨ LV y A 3 (w - 1)) :
    ∃ y', X3_gainOfThree (nI w) (nI N) y = some (thF A N w, y') ∧ Kp y y' ∧ LV y' A 3 w := by
  obtain ⟨z, z1, z2, z3, z4⟩ := X3_walk_n hA (k := 3) (w := w) (by decide) hw hh hb hi hp
  obtain ⟨g1, g2, g3, g4, g5⟩ := pf_ok hA 3 w hh
  have t1 := is_cpy (b2 := 15) z4
  obtain ⟨S, s1, s2⟩ := is_adv t1 g1 hN (by omega)
  have t2 := s2 (put z 15 7 (blk z (lvl 3)))
  have t3 := is_gain t2 (bnA_IA N g1).1
  refine ⟨put (put z 15 7 (blk z (lvl 3))) 15 7 S, ?_, kp_tr z2 (kp_tr (kp_put _ _ (Or.inl rfl)) (kp_put _ _ (Or.inl rfl))), fun j j1 j2 => ?_⟩
  · unfold X3_gainOfThree
    rw [show (3 : Int32) = nI 3 from rfl, z1, bd_some]
    dsimp only
    rw [gsh_l (by decide), bd_some, show gne 15 (lvl 3) = some 15 from by decide, bd_some, bd_some, s1, bd_some, bd_some, t3, bd_some]
    rfl
  · have l27 : 22 ≤ lvl j := by
      rcases (show j = 1 ∨ j = 2 ∨ j = 3 by omega) with rfl | rfl | rfl <;> decide
    exact is_oth (is_oth (z3 j j1 j2) (Or.inr (by omega))) (Or.inr (by omega))
def tcF (b : Nat) : Int32 := 100 * nI (b / 49 % 7) + 10 * nI (b / 7 % 7) + nI (b / 1 % 7)
theorem tc_x {b : Nat} (hb : b < 343) (S : St) : ((X3_columnOf (nI b) 3 1).bind fun r9 => (X3_columnOf (nI b) 3 2).bind fun r10 => (X3_columnOf (nI b) 3 3).bind fun r11 => some ((((100 * r9) + (10 * r10)) + r11), S)) = some (tcF b, S) := by
  rw [show X3_columnOf (nI b) 3 1 = some (nI (b / 49 % 7)) from X3_columnOf_n (w := b) (k := 3) (d := 1) (by omega) (by decide) (by decide), bd_some, show X3_columnOf (nI b) 3 2 = some (nI (b / 7 % 7)) from X3_columnOf_n (w := b) (k := 3) (d := 2) (by omega) (by decide) (by decide), bd_some, show X3_columnOf (nI b) 3 3 = some (nI (b / 1 % 7)) from X3_columnOf_n (w := b) (k := 3) (d := 3) (by omega) (by decide) (by decide), bd_some]
  rfl
theorem tc_m {b : Nat} (hb : b < 343) (S : St) : ((X4_columnOf (nI b) 3 0).bind fun r5 => (X4_columnOf (nI b) 3 1).bind fun r6 => (X4_columnOf (nI b) 3 2).bind fun r7 => some ((((100 * r5) + (10 * r6)) + r7), S)) = some (tcF b, S) := by
  rw [show X4_columnOf (nI b) 3 0 = some (nI (b / 49 % 7)) from X4_columnOf_n (w := b) (k := 3) (i := 0) (by omega) (by decide) (by decide), bd_some, show X4_columnOf (nI b) 3 1 = some (nI (b / 7 % 7)) from X4_columnOf_n (w := b) (k := 3) (i := 1) (by omega) (by decide) (by decide), bd_some, show X4_columnOf (nI b) 3 2 = some (nI (b / 1 % 7)) from X4_columnOf_n (w := b) (k := 3) (i := 2) (by omega) (by decide) (by decide), bd_some]
  rfl
theorem w343 : rdc 4 (stC 6) 3 = some (nI 343) := by decide +kernel
theorem v343 : X4_ways 3 = nI 343 := by decide +kernel
theorem lx_three {A : AS} (hA : IA A) {N : Nat} (hN : N < 900) (hh : 3 ≤ hcA A) (hb : A 0 7 < 20000) : ∀ (d w n : Nat) (p : Nat × Int32) (y : St), w + d = 343 → d < n → p.1 < 343 → Is y 1 A → (w = 0 ∨ LV y A 3 (w - 1)) →
    ∃ y', X3_three_L42 n (nI N) (nI p.1) p.2 (nI w) y = some (tcF (btF (thF A N) d w p).1, y') ∧ Kp y y' := by
  intro d
  induction d with
  | zero =>
    intro w n p y h1 h2 h3 hi hp
    obtain ⟨n, rfl⟩ : ∃ m, n = m + 1 := ⟨n - 1, by omega⟩
    unfold X3_three_L42
    rw [w343, bd_some, if_pos (leY (by omega) (by omega)), tc_x h3]
    exact ⟨y, rfl, kp_id y⟩
  | succ d ih =>
    intro w n p y h1 h2 h3 hi hp
    obtain ⟨n, rfl⟩ : ∃ m, n = m + 1 := ⟨n - 1, by omega⟩
    obtain ⟨z, z1, z2, z3⟩ := X3_g3_n hA (w := w) (by omega) hN hh hb hi hp
    unfold X3_three_L42
    rw [w343, bd_some, if_neg (leN (by omega) (by omega)), z1, bd_some]
    dsimp only
    rw [show nI w + 1 = nI (w + 1) from (nI_succ w).symm]
    show ∃ y', _ = some (tcF (btF (thF A N) d (w + 1) (if thF A N w ≤ p.2 then p else (w, thF A N w))).1, y') ∧ _
    by_cases q : thF A N w ≤ p.2
    · rw [if_pos q, if_pos q]
      obtain ⟨u, u1, u2⟩ := ih (w + 1) n p z (by omega) (by omega) h3 (kp_is z2 hi) (Or.inr z3)
      exact ⟨u, u1, kp_tr z2 u2⟩
    · rw [if_neg q, if_neg q]
      obtain ⟨u, u1, u2⟩ := ih (w + 1) n (w, thF A N w) z (by omega) (by omega) (show w < 343 by omega) (kp_is z2 hi) (Or.inr z3)
      exact ⟨u, u1, kp_tr z2 u2⟩
theorem lx_tb {A : AS} (hA : IA A) {N : Nat} (hN : N < 900) (hh : 3 ≤ hcA A) (hb : A 0 7 < 20000) : ∀ (d w n : Nat) (p : Nat × Int32) (y : St), w + d = 343 → d < n → Is y 1 A → (w = 0 ∨ LV y A 3 (w - 1)) →
    ∃ y', X3_threeBring_L39 n (nI N) p.2 (nI w) y = some ((btF (thF A N) d w p).2 - gI A, y') ∧ Kp y y' := by
  intro d
  induction d with
  | zero =>
    intro w n p y h1 h2 hi hp
    obtain ⟨n, rfl⟩ : ∃ m, n = m + 1 := ⟨n - 1, by omega⟩
    unfold X3_threeBring_L39
    rw [w343, bd_some, if_pos (leY (by omega) (by omega)), is_gain hi hA, bd_some]
    exact ⟨y, rfl, kp_id y⟩
  | succ d ih =>
    intro w n p y h1 h2 hi hp
    obtain ⟨n, rfl⟩ : ∃ m, n = m + 1 := ⟨n - 1, by omega⟩
    obtain ⟨z, z1, z2, z3⟩ := X3_g3_n hA (w := w) (by omega) hN hh hb hi hp
    unfold X3_threeBring_L39
    rw [w343, bd_some, if_neg (leN (by omega) (by omega)), z1, bd_some]
    dsimp only
    rw [show nI w + 1 = nI (w + 1) from (nI_succ w).symm]
    show ∃ y', _ = some ((btF (thF A N) d (w + 1) (if thF A N w ≤ p.2 then p else (w, thF A N w))).2 - gI A, y') ∧ _
    unfold mxI
    by_cases q : thF A N w ≤ p.2
    · rw [if_pos q, if_neg (Int32.not_lt.mpr q)]
      obtain ⟨u, u1, u2⟩ := ih (w + 1) n p z (by omega) (by omega) (kp_is z2 hi) (Or.inr z3)
      exact ⟨u, u1, kp_tr z2 u2⟩
    · rw [if_neg q, if_pos (Int32.not_le.mp q)]
      obtain ⟨u, u1, u2⟩ := ih (w + 1) n (w, thF A N w) z (by omega) (by omega) (kp_is z2 hi) (Or.inr z3)
      exact ⟨u, u1, kp_tr z2 u2⟩
/-- a way's turn on the reference's side -/
theorem lm_th1 {m : St} {A : AS} (as : AsE m A) (hA : IA A) {N w : Nat} (hw : w < 343) (hN : N < 900) (hh : 3 ≤ hcA A) (hb : A 0 7 < 20000) (n o v : Nat) :
    ∃ o' v', X4_refusesThree_L59 (n + 1) (nI N) (nI w) (mst m (A, o, v)) = if m 0 7 < 0 then X4_refusesThree_L59 n (nI N) (nI (w + 1)) (mst (ups (ups m 0 7 (nI w)) 0 8 (thF A N w)) (A, o', v')) else if thF A N w ≤ m 0 8 then X4_refusesThree_L59 n (nI N) (nI (w + 1)) (mst m (A, o', v')) else X4_refusesThree_L59 n (nI N) (nI (w + 1)) (mst (ups (ups m 0 7 (nI w)) 0 8 (thF A N w)) (A, o', v')) := by
  obtain ⟨o1, v1, y1⟩ := X4_dropsBy_n (m := m) hA (k := 3) (w := w) (by decide) hw hh hb o v
  obtain ⟨g1, g2, g3, g4, g5⟩ := pf_ok hA 3 w hh
  obtain ⟨v2, hv⟩ := bnT_q N (pfx 3 w A, o1, v1)
  have l1 := ovA_le g1 N
  refine ⟨o1 + ovA N (pfx 3 w A), v2, ?_⟩
  show (if X4_ways 3 ≤ nI w then _ else _) = _
  rw [v343, if_neg (leN (by omega) (by omega)), show X4_dropsBy (nI w) 3 (mst m (A, o, v)) = some (mst m (pfx 3 w A, o1, v1)) from y1, bd_some, X4_beatsGo_n (T := (pfx 3 w A, o1, v1)) hN g1 (show pfx 3 w A 0 7 + N < 1000000 by omega), bd_some, hv]
  dsimp only
  rw [if_pos (nI_pos' (show ovA N (pfx 3 w A) < 2147483648 by omega)), X4_gain_n (T := (bnA N (pfx 3 w A), o1 + ovA N (pfx 3 w A), v2)) (bnA_IA N g1).1, bd_some]
  unfold X4_refusesThree_L92 X4_refusesThree_L113
  rw [X4_putBack_n as, bd_some]
  dsimp only
  rw [bd_some, bd_some, mst_u m _ _ (by decide) (by decide), mst_u _ _ _ (by decide) (by decide), show nI w + 1 = nI (w + 1) from (nI_succ w).symm]
  rfl
theorem lm_three {A : AS} (hA : IA A) {N : Nat} (hN : N < 900) (hh : 3 ≤ hcA A) (hb : A 0 7 < 20000) : ∀ (d w n : Nat) (p : Nat × Int32) (m : St) (o v : Nat), w + d = 343 → d < n → p.1 < 343 → AsE m A → m 0 7 = nI p.1 → m 0 8 = p.2 →
    ∃ m' o' v', X4_refusesThree_L59 n (nI N) (nI w) (mst m (A, o, v)) = some (0, mst m' (A, o', v')) ∧ Km m m' ∧ m' 0 7 = nI (btF (thF A N) d w p).1 ∧ m' 0 8 = (btF (thF A N) d w p).2 := by
  intro d
  induction d with
  | zero =>
    intro w n p m o v h1 h2 h3 as e7 e8
    obtain ⟨n, rfl⟩ : ∃ m, n = m + 1 := ⟨n - 1, by omega⟩
    unfold X4_refusesThree_L59
    rw [v343, if_pos (leY (by omega) (by omega))]
    exact ⟨m, o, v, rfl, km_id m, e7, e8⟩
  | succ d ih =>
    intro w n p m o v h1 h2 h3 as e7 e8
    obtain ⟨n, rfl⟩ : ∃ m, n = m + 1 := ⟨n - 1, by omega⟩
    obtain ⟨o1, v1, z⟩ := lm_th1 as hA (w := w) (by omega) hN hh hb n o v
    rw [z, e7, if_neg (nI_pos (by omega)), e8]
    show ∃ (m' : St) (o' v' : Nat), _ ∧ _ ∧ m' 0 7 = nI (btF (thF A N) d (w + 1) (if thF A N w ≤ p.2 then p else (w, thF A N w))).1 ∧ m' 0 8 = (btF (thF A N) d (w + 1) (if thF A N w ≤ p.2 then p else (w, thF A N w))).2
    by_cases q : thF A N w ≤ p.2
    · rw [if_pos q, if_pos q]
      exact ih (w + 1) n p m o1 v1 (by omega) (by omega) h3 as e7 e8
    · rw [if_neg q, if_neg q]
      obtain ⟨m', o', v', w1, w2, w3, w4⟩ := ih (w + 1) n (w, thF A N w) (ups (ups m 0 7 (nI w)) 0 8 (thF A N w)) o1 v1 (by omega) (by omega) (show w < 343 by omega) (as_u (as_u as _ _) _ _) rfl rfl
      exact ⟨m', o', v', w1, km_tr (km_tr (km_u m _ (by decide) (by decide)) (km_u _ _ (by decide) (by decide))) w2, w3, w4⟩
theorem X4_rt_n {m0 : St} {A : AS} {o v : Nat} (hA : IA A) {N : Nat} (hN : N ≤ 20) (hb : A 0 7 ≤ 9999) :
    if 3 ≤ hcA A ∧ A 0 7 ≤ 9900 then ∃ m' o' v', X4_refusesThree (nI N) (mst m0 (A, o, v)) = some (0, mst m' (A, o', v')) ∧ Km m0 m' ∧ m' 0 7 = nI (btF (thF A N) 342 1 (0, thF A N 0)).1 ∧ m' 0 8 = (btF (thF A N) 342 1 (0, thF A N 0)).2
    else X4_refusesThree (nI N) (mst m0 (A, o, v)) = some (-1000005, mst m0 (A, o, v)) := by
  have hn := ia_n hA
  have hl : hcA A ≤ 24 := Nat.le_trans (cn_le _ _ _) hn
  unfold X4_refusesThree
  rw [if_neg (show ¬ X4_within (nI N) 0 20 = 0 from wi_ok (m := 20) (by decide) hN), show (100 : Int32) = nI 100 from rfl, X4_setOf_n (T := (A, o, v)) hA (by decide) (by decide), bd_some, X4_bits_n (msk_lt hn 100), bd_some, hc_pcr hn]
  by_cases e : 3 ≤ hcA A
  · rw [if_neg (show ¬ nI (hcA A) < 3 from ltN (b := 3) (by omega) (by omega)), show (0 : Int32) = nI 0 from rfl, md (T := (A, o, v)) (by decide), bd_some, enc_0]
    by_cases e2 : A 0 7 ≤ 9900
    · rw [if_pos ⟨e, e2⟩, if_pos (show nI ((A, o, v).1 0 7) ≤ 9900 from leY (b := 9900) e2 (by decide)), show X4_copyRow 1 3 (mst m0 (A, o, v)) = some (mst (cpm m0 A) (A, o, v)) from X4_aside_n m0 (A, o, v), bd_some, bd_some, mst_u _ _ _ (by decide) (by decide)]
      have as := as_u (cpm_as m0 A) 7 (-1)
      obtain ⟨o1, v1, z⟩ := lm_th1 as hA (w := 0) (by decide) (show N < 900 by omega) e (by omega) 999 o v
      obtain ⟨m', o', v', w1, w2, w3, w4⟩ := lm_three hA (show N < 900 by omega) e (by omega) 342 1 999 (0, thF A N 0) (ups (ups (ups (cpm m0 A) 0 7 (-1)) 0 7 (nI 0)) 0 8 (thF A N 0)) o1 v1 rfl (by decide) (by show (0 : Nat) < 343; decide) (as_u (as_u as _ _) _ _) rfl rfl
      rw [if_pos (show ups (cpm m0 A) 0 7 (-1) 0 7 < 0 from (by decide : (-1 : Int32) < 0))] at z
      refine ⟨m', o', v', z.trans w1, km_tr (km_tr (km_tr (km_tr (km_cpm m0 A) (km_u _ _ (by decide) (by decide))) (km_u _ _ (by decide) (by decide))) (km_u _ _ (by decide) (by decide))) w2, w3, w4⟩
    · rw [if_neg (fun z => e2 z.2), if_neg (show ¬ nI ((A, o, v).1 0 7) ≤ 9900 from leN (b := 9900) e2 (show A 0 7 < 2147483648 by omega))]
  · rw [if_neg (fun z => e z.1), if_pos (show nI (hcA A) < 3 from ltY (b := 3) (by omega) (by decide))]
theorem op_three (a : Int32) : OPR (X3_three a) (X4_three a) := by
  intro x mm h
  unfold X3_three X4_three
  obtain ⟨A, o, v, m0, hA, hb, hx, rfl, hr⟩ := RLL_st h
  by_cases e : X3_within a 0 20 = 0
  · rw [if_pos e, show X4_refusesThree a (mst m0 (A, o, v)) = some (-1000001, mst m0 (A, o, v)) from if_pos (show X4_within a 0 20 = 0 from e), bd_some]
    dsimp only
    rw [if_neg (by decide)]
    exact fl0 h
  · obtain ⟨N, hN, rfl⟩ := wi_in (m := 20) (by decide) e
    have r := X4_rt_n (m0 := m0) (o := o) (v := v) hA hN hb
    rw [if_neg e, show X3_canDrop 3 x = some (if 3 ≤ hcA A ∧ A 0 7 ≤ 9900 then 1 else 0) from is_can hA hb hx (N := 3) (by decide), bd_some]
    by_cases e3 : 3 ≤ hcA A ∧ A 0 7 ≤ 9900
    · rw [if_pos e3] at r
      obtain ⟨m', o', v', r1, r2, r3, r4⟩ := r
      obtain ⟨z, z1, z2, z3⟩ := X3_g3_n hA (w := 0) (N := N) (by decide) (by omega) e3.1 (by omega) (is_x hx) (Or.inl rfl)
      obtain ⟨u, u1, u2⟩ := lx_three hA (show N < 900 by omega) e3.1 (by omega) 342 1 FU (0, thF A N 0) z rfl (by decide) (by show (0 : Nat) < 343; decide) (kp_is z2 (is_x hx)) (Or.inr z3)
      have hl := btF_lt (thF A N) 342 1 (0, thF A N 0) (by decide) (by show (0 : Nat) < 343; decide)
      rw [if_pos e3, if_neg (by decide), show X3_gainOfThree 0 (nI N) x = some (thF A N 0, z) from z1, bd_some, r1, bd_some]
      dsimp only
      rw [if_pos rfl, show mst m' (A, o', v') 0 7 = nI (btF (thF A N) 342 1 (0, thF A N 0)).1 from r3, tc_m hl]
      exact ⟨_, u, _, u1, rfl, RLL_try hA hb hx hr (kp_tr z2 u2) r2⟩
    · rw [if_neg e3] at r
      rw [if_neg e3, if_pos rfl, r, bd_some]
      dsimp only
      rw [if_neg (by decide)]
      exact fl4 h
theorem op_threeBring (a : Int32) : OPR (X3_threeBring a) (X4_threeBring a) := by
  intro x mm h
  unfold X3_threeBring X4_threeBring
  obtain ⟨A, o, v, m0, hA, hb, hx, rfl, hr⟩ := RLL_st h
  by_cases e : X3_within a 0 20 = 0
  · rw [if_pos e, show X4_refusesThree a (mst m0 (A, o, v)) = some (-1000001, mst m0 (A, o, v)) from if_pos (show X4_within a 0 20 = 0 from e), bd_some]
    dsimp only
    rw [if_neg (by decide)]
    exact fl0 h
  · obtain ⟨N, hN, rfl⟩ := wi_in (m := 20) (by decide) e
    have r := X4_rt_n (m0 := m0) (o := o) (v := v) hA hN hb
    rw [if_neg e, show X3_canDrop 3 x = some (if 3 ≤ hcA A ∧ A 0 7 ≤ 9900 then 1 else 0) from is_can hA hb hx (N := 3) (by decide), bd_some]
    by_cases e3 : 3 ≤ hcA A ∧ A 0 7 ≤ 9900
    · rw [if_pos e3] at r
      obtain ⟨m', o', v', r1, r2, r3, r4⟩ := r
      obtain ⟨z, z1, z2, z3⟩ := X3_g3_n hA (w := 0) (N := N) (by decide) (by omega) e3.1 (by omega) (is_x hx) (Or.inl rfl)
      obtain ⟨u, u1, u2⟩ := lx_tb hA (show N < 900 by omega) e3.1 (by omega) 342 1 FU (0, thF A N 0) z rfl (by decide) (kp_is z2 (is_x hx)) (Or.inr z3)
      rw [if_pos e3, if_neg (by decide), show X3_gainOfThree 0 (nI N) x = some (thF A N 0, z) from z1, bd_some, r1, bd_some]
      dsimp only
      rw [if_pos rfl, X4_gain_n (T := (A, o', v')) hA, bd_some, show mst m' (A, o', v') 0 8 = (btF (thF A N) 342 1 (0, thF A N 0)).2 from r4]
      exact ⟨_, u, _, u1, rfl, RLL_try hA hb hx hr (kp_tr z2 u2) r2⟩
    · rw [if_neg e3] at r
      rw [if_neg e3, if_pos rfl, r, bd_some]
      dsimp only
      rw [if_neg (by decide)]
      exact fl4 h
