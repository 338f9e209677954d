/-! PURE 25: the best wait; when a coin falls -/
theorem bnT_s : ∀ (n : Nat) (T : TS), bnT (n + 1) T = btT (bnT n T) := by
  intro n
  induction n with
  | zero => intro T; rfl
  | succ n ih =>
    intro T
    show bnT (n + 1) (btT T) = btT (bnT n (btT T))
    exact ih (btT T)
theorem bnA_s (n : Nat) (A : AS) : bnA 1 (bnA n A) = bnA (n + 1) A := by
  have h := bt_irr (T := bnT n (A, 0, 0)) (U := (bnA n A, 0, 0)) (bnT_1 n (A, 0, 0))
  have e : bnA (n + 1) A = (btT (bnT n (A, 0, 0))).1 := congrArg Prod.fst (bnT_s n (A, 0, 0))
  rw [e, h.1]
  rfl
theorem lx_wait1 {A : AS} (hA : IA A) {c N W : Nat} (hc : c < A 0 6) (hp : A 2 c = 100) (hN : N < 900) (hW : W < 12) (hb : A 0 7 < 10000) (k72 : Int32 → Int32 → Nat → Int32 → Int32 → Int32 → St → Option (Int32 × St)) : ∀ (d col n : Nat) (p : Nat × Int32) (y : St), col + d = 7 → d < n → p.1 < 200 → Is y 27 (bnA W A) →
    ∃ y', X3_wait_L82 k72 n (nI c) (nI N) 27 (nI p.1) p.2 (nI W) (nI col) y = k72 (nI c) (nI N) 27 (nI (bwC (gnW A c N W) W d col p).1) (bwC (gnW A c N W) W d col p).2 (nI (W + 1)) y' ∧ Kp y y' ∧ Is y' 27 (bnA (W + 1) A) := by
  intro d
  obtain ⟨c1, c2, c3, c4⟩ := bn_cnt hA W
  obtain ⟨g1, g2⟩ := bnA_IA W hA
  have hp2 : bnA W A 2 c = 100 := by rw [c3 c hc (by omega), hp]
  induction d with
  | zero =>
    intro col n p y h1 h2 h3 hi
    obtain ⟨n, rfl⟩ : ∃ m, n = m + 1 := ⟨n - 1, by omega⟩
    obtain ⟨S, s1, s2⟩ := is_adv hi g1 (N := 1) (by decide) (by omega)
    rw [bnA_s] at s2
    unfold X3_wait_L82
    rw [if_pos (show (7 : Int32) ≤ nI col from leY (a := 7) (by omega) (by omega)), show (1 : Int32) = nI 1 from rfl, s1, bd_some, bd_some, show nI W + nI 1 = nI (W + 1) from nI_add W 1]
    exact ⟨_, rfl, kp_put y S (Or.inr (Or.inl rfl)), s2 y⟩
  | succ d ih =>
    intro col n p y h1 h2 h3 hi
    obtain ⟨n, rfl⟩ : ∃ m, n = m + 1 := ⟨n - 1, by omega⟩
    obtain ⟨z, z1, z2, z3⟩ := X3_gainBy_n hi (Or.inr (by decide)) g1 (c := c) (col := col) (N := N) (by omega) hp2 (by omega) hN (by omega)
    unfold X3_wait_L82
    rw [if_neg (show ¬ (7 : Int32) ≤ nI col from leN (a := 7) (by omega) (by decide)), z1, bd_some]
    dsimp only
    rw [show nI col + 1 = nI (col + 1) from (nI_succ col).symm, show (10 : Int32) = nI 10 from rfl, pk_mul, nI_add]
    have e : gI (bnA N (drA (bnA W A) c col)) = gnW A c N W col := rfl
    rw [e]
    show ∃ y', _ = k72 (nI c) (nI N) 27 (nI (bwC (gnW A c N W) W d (col + 1) (if gnW A c N W col ≤ p.2 then p else (10 * W + col, gnW A c N W col))).1) (bwC (gnW A c N W) W d (col + 1) (if gnW A c N W col ≤ p.2 then p else (10 * W + col, gnW A c N W col))).2 _ _ ∧ _
    by_cases q : gnW A c N W col ≤ p.2
    · rw [if_pos q, if_pos q]
      obtain ⟨w, w1, w2, w3⟩ := ih (col + 1) n p z (by omega) (by omega) h3 (z3 27 _ (Or.inr (by decide)) hi)
      exact ⟨w, w1, kp_tr z2 w2, w3⟩
    · rw [if_neg q, if_neg q]
      obtain ⟨w, w1, w2, w3⟩ := ih (col + 1) n (10 * W + col, gnW A c N W col) z (by omega) (by omega) (show 10 * W + col < 200 by omega) (z3 27 _ (Or.inr (by decide)) hi)
      exact ⟨w, w1, kp_tr z2 w2, w3⟩
theorem lx_wait2 {A : AS} (hA : IA A) {c N : Nat} (hc : c < A 0 6) (hp : A 2 c = 100) (hN : N < 900) (hb : A 0 7 < 10000) : ∀ (d W n : Nat) (p : Nat × Int32) (y : St), W + d = 12 → d < n → p.1 < 200 → Is y 27 (bnA W A) →
    ∃ y', X3_wait_L72 n (nI c) (nI N) 27 (nI p.1) p.2 (nI W) y = some (nI (bwW (gnW A c N) d W p).1, y') ∧ Kp y y' := by
  intro d
  induction d with
  | zero =>
    intro W n p y h1 h2 h3 hi
    obtain ⟨n, rfl⟩ : ∃ m, n = m + 1 := ⟨n - 1, by omega⟩
    unfold X3_wait_L72
    rw [if_pos (show (11 : Int32) < nI W from ltY (a := 11) (by omega) (by omega))]
    exact ⟨y, rfl, kp_id y⟩
  | succ d ih =>
    intro W n p y h1 h2 h3 hi
    obtain ⟨n, rfl⟩ : ∃ m, n = m + 1 := ⟨n - 1, by omega⟩
    obtain ⟨z, z1, z2, z3⟩ := lx_wait1 hA hc hp hN (show W < 12 by omega) hb (X3_wait_L72 n) 7 0 FU p y rfl (by decide) h3 hi
    obtain ⟨w, w1, w2⟩ := ih (W + 1) n (bwC (gnW A c N W) W 7 0 p) z (by omega) (by omega) (bwC_lt (by omega) 7 0 p rfl h3) z3
    unfold X3_wait_L72
    rw [if_neg (show ¬ (11 : Int32) < nI W from ltN (a := 11) (by omega) (by decide))]
    exact ⟨w, z1.trans w1, kp_tr z2 w2⟩
theorem op_wait (a b : Int32) : OPR (X3_wait a b) (X4_wait a b) := by
  intro x mm h
  unfold X3_wait X4_wait
  obtain ⟨A, o, v, m0, hA, hb, hx, rfl, hr⟩ := RLL_st h
  have hn := ia_n hA
  rw [ic_x hx]
  by_cases e : X3_within a 0 (nI (A 0 6) - 1) = 0
  · rw [if_pos e, rf_no (T := (A, o, v)) a b e, bd_some, if_neg (by decide)]
    exact fl0 h
  · rw [if_neg e]
    obtain ⟨k, hk, rfl⟩ := ic_in hn e
    rw [rf_n (T := (A, o, v)) hA hb hk, bd_some]
    by_cases e2 : X3_within b 0 20 = 0
    · rw [if_pos e2, if_pos e2, if_neg (by decide)]
      exact fl0 h
    · obtain ⟨N, hN, rfl⟩ := wi_in (m := 20) (by decide) e2
      rw [if_neg e2, if_neg e2, is_srch hA hb hx hk, bd_some]
      by_cases e3 : A 2 k = 100 ∧ A 0 7 ≤ 9900
      · have hi := is_x hx
        have i27 := is_cpy (b2 := 27) hi
        have i1 : Is (put x 27 7 (blk x 1)) 1 A := is_oth hi (Or.inl (by decide))
        have k27 : Kp x (put x 27 7 (blk x 1)) := kp_put x _ (Or.inr (Or.inl rfl))
        obtain ⟨y, y1, y2, y3⟩ := X3_gainBy_n i1 (Or.inl (by decide)) hA (c := k) (col := 0) (N := N) hk e3.1 (by omega) (by omega) (by omega)
        obtain ⟨w, w1, w2⟩ := lx_wait2 hA hk e3.1 (show N < 900 by omega) (show A 0 7 < 10000 by omega) 12 0 FU (0, gnW A k N 0 0) y rfl (by decide) (by show (0 : Nat) < 200; decide) (y3 27 A (Or.inr (by decide)) i27)
        obtain ⟨o', v', z⟩ := X4_bestWay_n (m0 := m0) (o := o) (v := v) hA hk e3.1 (show N < 900 by omega) (M := 12) (by decide) (by decide) (show A 0 7 < 20000 by omega)
        rw [if_pos e3, if_neg (by decide), if_pos (show (if (A, o, v).1 2 k = 100 ∧ (A, o, v).1 0 7 ≤ 9900 then (0 : Int32) else -1000005) = 0 from if_pos e3), show rdn 4 lvl 1 = some 27 from by decide, bd_some, show gne 27 1 = some 27 from rfl, bd_some, bd_some, show (0 : Int32) = nI 0 from rfl, show (12 : Int32) = nI 12 from rfl, y1, bd_some, z, bd_some]
        exact ⟨nI (bwW (gnW A k N) 12 0 (0, gnW A k N 0 0)).1, w, mst (cpm m0 A) (A, o', v'), w1, rfl, RLL_try hA hb hx hr (kp_tr k27 (kp_tr y2 w2)) (km_cpm m0 A)⟩
      · rw [if_neg e3, if_pos rfl, if_neg (show ¬ (if (A, o, v).1 2 k = 100 ∧ (A, o, v).1 0 7 ≤ 9900 then (0 : Int32) else -1000005) = 0 by rw [if_neg (show ¬ ((A, o, v).1 2 k = 100 ∧ (A, o, v).1 0 7 ≤ 9900) from e3)]; decide), if_neg (show ¬ ((A, o, v).1 2 k = 100 ∧ (A, o, v).1 0 7 ≤ 9900) from e3)]
        exact fl4 h
