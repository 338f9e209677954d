/-! PURE 24: the best column, the best wait -/
def bwC (G : Nat → Int32) (W : Nat) : Nat → Nat → Nat × Int32 → Nat × Int32
  | 0, _, p => p
  | d + 1, col, p => bwC G W d (col + 1) (if G col ≤ p.2 then p else (10 * W + col, G col))
def bwW (G : Nat → Nat → Int32) : Nat → Nat → Nat × Int32 → Nat × Int32
  | 0, _, p => p
  | d + 1, W, p => bwW G d (W + 1) (bwC (G W) W 7 0 p)
theorem bwC_lt {G : Nat → Int32} {W : Nat} (hW : W < 12) : ∀ d col p, col + d = 7 → p.1 < 200 → (bwC G W d col p).1 < 200 := by
  intro d
  induction d with
  | zero => intro col p _ h; exact h
  | succ d ih =>
    intro col p h1 h2
    refine ih (col + 1) _ (by omega) ?_
    split
    · exact h2
    · show 10 * W + col < 200
      omega
theorem bw_1 (G : Nat → Nat → Int32) : (bwW G 1 0 (0, G 0 0)).1 = (bwC (G 0) 0 6 1 (0, G 0 0)).1 := by
  show (bwC (G 0) 0 6 1 (if G 0 0 ≤ G 0 0 then (0, G 0 0) else (10 * 0 + 0, G 0 0))).1 = _
  rw [if_pos (Int32.le_refl _)]
theorem bw_0 (G : Nat → Int32) : bwC G 0 7 0 (0, G 0) = bwC G 0 6 1 (0, G 0) := by
  show bwC G 0 6 1 (if G 0 ≤ G 0 then (0, G 0) else (10 * 0 + 0, G 0)) = _
  rw [if_pos (Int32.le_refl _)]
/-- a wait, a column, what is gained -/
def gnW (A : AS) (c N W col : Nat) : Int32 := gI (bnA N (drA (bnA W A) c col))
theorem kp_is {x y : St} {A : AS} (h : Kp x y) (hi : Is x 1 A) : Is y 1 A := by
  intro k j hk
  rw [h (1 + k) (Or.inr ⟨by omega, by omega⟩)]
  exact hi k j hk
theorem lx_best {A : AS} (hA : IA A) {c N : Nat} (hc : c < A 0 6) (hp : A 2 c = 100) (hN : N < 900) (hb : A 0 7 < 20000) : ∀ (d col n : Nat) (p : Nat × Int32) (y : St), col + d = 7 → d < n → Is y 1 A →
    ∃ y', X3_best_L56 n (nI c) (nI N) (nI p.1) p.2 (nI col) y = some (nI (bwC (gnW A c N 0) 0 d col p).1, y') ∧ Kp y y' := by
  intro d
  induction d with
  | zero =>
    intro col n p y h1 h2 hi
    obtain ⟨n, rfl⟩ : ∃ m, n = m + 1 := ⟨n - 1, by omega⟩
    unfold X3_best_L56
    rw [if_pos (show (7 : Int32) ≤ nI col from leY (a := 7) (by omega) (by omega))]
    exact ⟨y, rfl, kp_id y⟩
  | succ d ih =>
    intro col n p y h1 h2 hi
    obtain ⟨n, rfl⟩ : ∃ m, n = m + 1 := ⟨n - 1, by omega⟩
    unfold X3_best_L56
    obtain ⟨z, z1, z2, z3⟩ := X3_gainBy_n hi (Or.inl (by decide)) hA (c := c) (col := col) (N := N) hc hp (by omega) hN hb
    rw [if_neg (show ¬ (7 : Int32) ≤ nI col from leN (a := 7) (by omega) (by decide)), z1, bd_some]
    dsimp only
    rw [show nI col + 1 = nI (col + 1) from (nI_succ col).symm]
    show ∃ y', _ = some (nI (bwC (gnW A c N 0) 0 d (col + 1) (if gnW A c N 0 col ≤ p.2 then p else (10 * 0 + col, gnW A c N 0 col))).1, y') ∧ _
    have e : gI (bnA N (drA A c col)) = gnW A c N 0 col := rfl
    rw [e]
    by_cases q : gnW A c N 0 col ≤ p.2
    · rw [if_pos q, if_pos q]
      obtain ⟨w, w1, w2⟩ := ih (col + 1) n p z (by omega) (by omega) (z3 1 A (Or.inl (by decide)) hi)
      exact ⟨w, w1, kp_tr z2 w2⟩
    · rw [if_neg q, if_neg q]
      obtain ⟨w, w1, w2⟩ := ih (col + 1) n (10 * 0 + col, gnW A c N 0 col) z (by omega) (by omega) (z3 1 A (Or.inl (by decide)) hi)
      rw [show 10 * 0 + col = col by omega] at w1 ⊢
      exact ⟨w, w1, kp_tr z2 w2⟩
theorem lm_best1 {m : St} {A : AS} (as : AsE m A) (hA : IA A) {c N W : Nat} (hc : c < A 0 6) (hp : A 2 c = 100) (hN : N < 900) (hW : W < 12) (hb : A 0 7 < 20000) (b3 : Int32) (k20 : Int32 → Int32 → Int32 → Int32 → Int32 → Int32 → St → Option (Int32 × St)) : ∀ (d col n : Nat) (p : Nat × Int32) (o v : Nat), col + d = 7 → d < n → p.1 < 200 →
    ∃ o' v', X4_bestWay_L29 k20 n (nI c) (nI N) b3 (nI p.1) p.2 (nI W) (nI col) (mst m (A, o, v)) = k20 (nI c) (nI N) b3 (nI (bwC (gnW A c N W) W d col p).1) (bwC (gnW A c N W) W d col p).2 (nI (W + 1)) (mst m (A, o', v')) := by
  intro d
  induction d with
  | zero =>
    intro col n p o v h1 h2 h3
    obtain ⟨n, rfl⟩ : ∃ m, n = m + 1 := ⟨n - 1, by omega⟩
    unfold X4_bestWay_L29
    rw [if_pos (show (7 : Int32) ≤ nI col from leY (a := 7) (by omega) (by omega)), show nI W + 1 = nI (W + 1) from (nI_succ W).symm]
    exact ⟨o, v, rfl⟩
  | succ d ih =>
    intro col n p o v h1 h2 h3
    obtain ⟨n, rfl⟩ : ∃ m, n = m + 1 := ⟨n - 1, by omega⟩
    unfold X4_bestWay_L29 X4_bestWay_L60
    obtain ⟨o', v', z⟩ := X4_gainBy_n (o := o) (v := v) as hA (c := c) (col := col) (W := W) (N := N) hc hp (by omega) (by omega) hN hb
    rw [if_neg (show ¬ (7 : Int32) ≤ nI col from leN (a := 7) (by omega) (by decide)), z, bd_some]
    dsimp only
    rw [show nI col + 1 = nI (col + 1) from (nI_succ col).symm, if_neg (nI_pos (by omega)), show (10 : Int32) = nI 10 from rfl, pk_mul, nI_add]
    have e : gI (bnA N (drA (bnA W A) c col)) = gnW A c N W col := rfl
    rw [e]
    show ∃ o' v', _ = k20 (nI c) (nI N) b3 (nI (bwC (gnW A c N W) W d (col + 1) (if gnW A c N W col ≤ p.2 then p else (10 * W + col, gnW A c N W col))).1) (bwC (gnW A c N W) W d (col + 1) (if gnW A c N W col ≤ p.2 then p else (10 * W + col, gnW A c N W col))).2 _ _
    by_cases q : gnW A c N W col ≤ p.2
    · rw [if_pos q, if_pos q]
      exact ih (col + 1) n p o' v' (by omega) (by omega) h3
    · rw [if_neg q, if_neg q]
      exact ih (col + 1) n (10 * W + col, gnW A c N W col) o' v' (by omega) (by omega) (show 10 * W + col < 200 by omega)
/-- the first way of all is taken -/
theorem lm_best0 {m : St} {A : AS} (as : AsE m A) (hA : IA A) {c N : Nat} (hc : c < A 0 6) (hp : A 2 c = 100) (hN : N < 900) (hb : A 0 7 < 20000) (b3 : Int32) (k20 : Int32 → Int32 → Int32 → Int32 → Int32 → Int32 → St → Option (Int32 × St)) (n o v : Nat) (hn : 8 < n) :
    ∃ o' v', X4_bestWay_L29 k20 n (nI c) (nI N) b3 (-1) 0 (nI 0) (nI 0) (mst m (A, o, v)) = k20 (nI c) (nI N) b3 (nI (bwC (gnW A c N 0) 0 7 0 (0, gnW A c N 0 0)).1) (bwC (gnW A c N 0) 0 7 0 (0, gnW A c N 0 0)).2 (nI 1) (mst m (A, o', v')) := by
  obtain ⟨n, rfl⟩ : ∃ m, n = m + 1 := ⟨n - 1, by omega⟩
  unfold X4_bestWay_L29 X4_bestWay_L60
  obtain ⟨o', v', z⟩ := X4_gainBy_n (o := o) (v := v) as hA (c := c) (col := 0) (W := 0) (N := N) hc hp (by omega) (by omega) hN hb
  rw [if_neg (show ¬ (7 : Int32) ≤ nI 0 from by decide), z, bd_some]
  dsimp only
  rw [if_pos (show (-1 : Int32) < 0 by decide), show nI 0 + 1 = nI 1 from rfl, show 10 * nI 0 + nI 0 = nI 0 from by decide]
  have e : gI (bnA N (drA (bnA 0 A) c 0)) = gnW A c N 0 0 := rfl
  rw [e]
  have f := bw_0 (gnW A c N 0)
  rw [f]
  exact lm_best1 as hA hc hp hN (by decide) hb b3 k20 6 1 n (0, gnW A c N 0 0) o' v' rfl (by omega) (show (0 : Nat) < 200 by decide)
theorem lm_best2 {m : St} {A : AS} (as : AsE m A) (hA : IA A) {c N M : Nat} (hc : c < A 0 6) (hp : A 2 c = 100) (hN : N < 900) (hM : M ≤ 12) (hb : A 0 7 < 20000) : ∀ (d W n : Nat) (p : Nat × Int32) (o v : Nat), W + d = M → d < n → p.1 < 200 →
    ∃ o' v', X4_bestWay_L20 n (nI c) (nI N) (nI M) (nI p.1) p.2 (nI W) (mst m (A, o, v)) = some (nI (bwW (gnW A c N) d W p).1, mst m (A, o', v')) := by
  intro d
  induction d with
  | zero =>
    intro W n p o v h1 h2 h3
    obtain ⟨n, rfl⟩ : ∃ m, n = m + 1 := ⟨n - 1, by omega⟩
    unfold X4_bestWay_L20
    rw [if_pos (leY (by omega) (by omega))]
    exact ⟨o, v, rfl⟩
  | succ d ih =>
    intro W n p o v h1 h2 h3
    obtain ⟨n, rfl⟩ : ∃ m, n = m + 1 := ⟨n - 1, by omega⟩
    obtain ⟨o', v', z⟩ := lm_best1 as hA hc hp hN (show W < 12 by omega) hb (nI M) (X4_bestWay_L20 n) 7 0 FU p o v rfl (by decide) h3
    unfold X4_bestWay_L20
    rw [if_neg (leN (by omega) (by omega))]
    obtain ⟨o2, v2, z2⟩ := ih (W + 1) n (bwC (gnW A c N W) W 7 0 p) o' v' (by omega) (by omega) (bwC_lt (by omega) 7 0 p rfl h3)
    exact ⟨o2, v2, z.trans z2⟩
theorem X4_bestWay_n {m0 : St} {A : AS} {o v : Nat} (hA : IA A) {c N M : Nat} (hc : c < A 0 6) (hp : A 2 c = 100) (hN : N < 900) (hM : M ≤ 12) (hM1 : 1 ≤ M) (hb : A 0 7 < 20000) :
    ∃ o' v', X4_bestWay (nI c) (nI N) (nI M) (mst m0 (A, o, v)) = some (nI (bwW (gnW A c N) M 0 (0, gnW A c N 0 0)).1, mst (cpm m0 A) (A, o', v')) := by
  have as := cpm_as m0 A
  obtain ⟨o1, v1, z1⟩ := lm_best0 as hA hc hp hN hb (nI M) (X4_bestWay_L20 999) FU o v (by decide)
  obtain ⟨M, rfl⟩ : ∃ k, M = k + 1 := ⟨M - 1, by omega⟩
  obtain ⟨o2, v2, z2⟩ := lm_best2 as hA hc hp hN hM hb M 1 999 (bwC (gnW A c N 0) 0 7 0 (0, gnW A c N 0 0)) o1 v1 (by omega) (by omega) (bwC_lt (by decide) 7 0 _ rfl (by show (0 : Nat) < 200; decide))
  refine ⟨o2, v2, ?_⟩
  have st : X4_bestWay_L20 (999 + 1) (nI c) (nI N) (nI (M + 1)) (-1) 0 (nI 0) (mst (cpm m0 A) (A, o, v)) = X4_bestWay_L29 (X4_bestWay_L20 999) FU (nI c) (nI N) (nI (M + 1)) (-1) 0 (nI 0) (nI 0) (mst (cpm m0 A) (A, o, v)) := by
    show (if nI (M + 1) ≤ nI 0 then _ else _) = _
    rw [if_neg (leN (by omega) (by omega))]
    rfl
  have all := st.trans (z1.trans z2)
  unfold X4_bestWay
  rw [show X4_copyRow 1 3 (mst m0 (A, o, v)) = some (mst (cpm m0 A) (A, o, v)) from X4_aside_n m0 (A, o, v), bd_some]
  exact all
theorem op_best (a b : Int32) : OPR (X3_best a b) (X4_best a b) := by
  intro x mm h
  unfold X3_best X4_best
  obtain ⟨A, o, v, m0, hA, hb, hx, rfl, hr⟩ := RLL_st h
  have hn := ia_n hA
  rw [ic_x hx]
  by_cases e : X3_within a 0 (nI (A 0 6) - 1) = 0
  · rw [if_pos e, rf_no (T := (A, o, v)) a b e, bd_some, if_neg (by decide)]
    exact fl0 h
  · rw [if_neg e]
    obtain ⟨k, hk, rfl⟩ := ic_in hn e
    rw [rf_n (T := (A, o, v)) hA hb hk, bd_some]
    by_cases e2 : X3_within b 0 20 = 0
    · rw [if_pos e2, if_pos e2, if_neg (by decide)]
      exact fl0 h
    · obtain ⟨N, hN, rfl⟩ := wi_in (m := 20) (by decide) e2
      rw [if_neg e2, if_neg e2, is_srch hA hb hx hk, bd_some]
      by_cases e3 : A 2 k = 100 ∧ A 0 7 ≤ 9900
      · obtain ⟨y, y1, y2, y3⟩ := X3_gainBy_n (is_x hx) (Or.inl (by decide)) hA (c := k) (col := 0) (N := N) hk e3.1 (by omega) (by omega) (by omega)
        obtain ⟨w, w1, w2⟩ := lx_best hA hk e3.1 (show N < 900 by omega) (show A 0 7 < 20000 by omega) 6 1 FU (0, gnW A k N 0 0) y rfl (by decide) (y3 1 A (Or.inl (by decide)) (is_x hx))
        obtain ⟨o', v', z⟩ := X4_bestWay_n (m0 := m0) (o := o) (v := v) hA hk e3.1 (show N < 900 by omega) (M := 1) (by decide) (by decide) (show A 0 7 < 20000 by omega)
        rw [if_pos e3, if_neg (by decide), if_pos (show (if (A, o, v).1 2 k = 100 ∧ (A, o, v).1 0 7 ≤ 9900 then (0 : Int32) else -1000005) = 0 from if_pos e3), show (0 : Int32) = nI 0 from rfl, show (1 : Int32) = nI 1 from rfl, y1, bd_some, z, bd_some]
        have f := bw_1 (gnW A k N)
        rw [f]
        exact ⟨nI (bwC (gnW A k N 0) 0 6 1 (0, gnW A k N 0 0)).1, w, mst (cpm m0 A) (A, o', v'), w1, rfl, RLL_try hA hb hx hr (kp_tr y2 w2) (km_cpm m0 A)⟩
      · rw [if_neg e3, if_pos rfl, if_neg (show ¬ (if (A, o, v).1 2 k = 100 ∧ (A, o, v).1 0 7 ≤ 9900 then (0 : Int32) else -1000005) = 0 by rw [if_neg (show ¬ ((A, o, v).1 2 k = 100 ∧ (A, o, v).1 0 7 ≤ 9900) from e3)]; decide), if_neg (show ¬ ((A, o, v).1 2 k = 100 ∧ (A, o, v).1 0 7 ≤ 9900) from e3)]
        exact fl4 h
