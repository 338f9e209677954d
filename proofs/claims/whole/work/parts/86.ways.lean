/-! PURE 36: ways, total, luck -/
theorem fL {x mm : St} (h : RLL x mm) {k : Nat} (hk : k < 7) {c d : Int32} (hc : c = nI k) (hd : d = FNC k) : ∃ (r : Int64) (x' mm' : St), (X3_found c x).bind (fun (r, S) => some (r.toInt64, S)) = some (r, x') ∧ (X4_finding d mm).bind (fun (r, S) => some (r.toInt64, S)) = some (r, mm') ∧ RLL x' mm' := by
  obtain ⟨x', mm', f1, f2, f3⟩ := fnd h hk
  subst hc
  subst hd
  refine ⟨(FNC k).toInt64, x', mm', ?_, ?_, f3⟩
  · rw [f1]
    rfl
  · rw [f2]
    rfl
theorem fL0 {x mm : St} (h : RLL x mm) : ∃ (r : Int64) (x' mm' : St), (X3_found 0 x).bind (fun (r, S) => some (r.toInt64, S)) = some (r, x') ∧ (X4_finding (-1000001) mm).bind (fun (r, S) => some (r.toInt64, S)) = some (r, mm') ∧ RLL x' mm' := fL h (k := 0) (by decide) rfl (by decide +kernel)
theorem fL4 {x mm : St} (h : RLL x mm) : ∃ (r : Int64) (x' mm' : St), (X3_found 4 x).bind (fun (r, S) => some (r.toInt64, S)) = some (r, x') ∧ (X4_finding (-1000005) mm).bind (fun (r, S) => some (r.toInt64, S)) = some (r, mm') ∧ RLL x' mm' := fL h (k := 4) (by decide) rfl (by decide +kernel)
/-- what is refused of so many drops -/
theorem rw_n {m0 : St} {T : TS} (hA : IA T.1) (hb : T.1 0 7 ≤ 9999) {k : Nat} (hk : k ≤ 3) : X4_refusesWays (nI k) (mst m0 T) = some (if k ≤ hcA T.1 ∧ T.1 0 7 ≤ 9900 then 0 else (-1000005)) := by
  have hn := ia_n hA
  have hl : hcA T.1 ≤ 24 := Nat.le_trans (cn_le _ _ _) hn
  unfold X4_refusesWays
  rw [if_neg (show ¬ X4_within (nI k) 0 3 = 0 from wi_ok (m := 3) (by decide) hk), show (100 : Int32) = nI 100 from rfl, X4_setOf_n hA (by decide) (by decide), bd_some, X4_bits_n (msk_lt hn 100), bd_some, hc_pcr hn]
  by_cases e : k ≤ hcA T.1
  · rw [if_neg (show ¬ nI (hcA T.1) < nI k from ltN (by omega) (by omega)), beat_le hb]
    by_cases e2 : T.1 0 7 ≤ 9900
    · rw [if_pos e2, if_pos ⟨e, e2⟩]
    · rw [if_neg e2, if_neg (fun z => e2 z.2)]
  · rw [if_pos (show nI (hcA T.1) < nI k from ltY (by omega) (by omega)), if_neg (fun z => e z.1)]
theorem rw_no {m0 : St} {T : TS} {a : Int32} (h : X3_within a 0 3 = 0) : X4_refusesWays a (mst m0 T) = some (-1000001) := by
  unfold X4_refusesWays
  rw [if_pos (show X4_within a 0 3 = 0 from h)]
theorem gsh_l {k : Nat} (h : k < 4) : gsh (lvl k) = some (lvl k) := by
  have key : ∀ k, k < 4 → gsh (lvl k) = some (lvl k) := by decide
  exact key k h
theorem lb_ways {m : St} {A : AS} (as : AsE m A) (hA : IA A) {k : Nat} (hk : k < 4) (hh : k ≤ hcA A) (hb : A 0 7 < 20000) (g : Int32) : ∀ (d w n n2 c : Nat) (y : St) (o v : Nat), w + d = 7 ^ k → d < n → d < n2 → c ≤ w → Is y 1 A → (w = 0 ∨ LV y A k (w - 1)) →
    ∃ (r : Int64) (y' : St) (o' v' : Nat), X3_ways_L48 n (nI k) g (nI c) (nI w) y = some (r, y') ∧ X4_ways__L60 n2 (nI k) g (lN c) (nI w) (mst m (A, o, v)) = some (r, mst m (A, o', v')) ∧ Kp y y' := by
  intro d
  have p1 := p7_le hk
  induction d with
  | zero =>
    intro w n n2 c y o v h1 h2 h3 hc hi hp
    obtain ⟨n, rfl⟩ : ∃ m, n = m + 1 := ⟨n - 1, by omega⟩
    obtain ⟨n2, rfl⟩ : ∃ m, n2 = m + 1 := ⟨n2 - 1, by omega⟩
    unfold X3_ways_L48 X4_ways__L60
    rw [rdc_n hk (by decide), bd_some, wy6 hk, wy4 hk, if_pos (leY (by omega) (by omega)), if_pos (leY (by omega) (by omega)), nI_l (show c < 2 ^ 31 by omega)]
    exact ⟨_, y, o, v, rfl, rfl, kp_id y⟩
  | succ d ih =>
    intro w n n2 c y o v h1 h2 h3 hc hi hp
    obtain ⟨n, rfl⟩ : ∃ m, n = m + 1 := ⟨n - 1, by omega⟩
    obtain ⟨n2, rfl⟩ : ∃ m, n2 = m + 1 := ⟨n2 - 1, by omega⟩
    obtain ⟨z, z1, z2, z3, z4⟩ := X3_walk_n hA hk (w := w) (by omega) hh hb hi hp
    obtain ⟨o1, v1, y1⟩ := X4_dropsBy_n (m := m) hA hk (w := w) (by omega) hh hb o v
    obtain ⟨g1, g2, g3, g4, g5⟩ := pf_ok hA k w hh
    unfold X3_ways_L48 X4_ways__L60
    rw [rdc_n hk (by decide), bd_some, wy6 hk, wy4 hk, if_neg (leN (by omega) (by omega)), if_neg (leN (by omega) (by omega)), z1, bd_some, y1, bd_some]
    dsimp only
    rw [gsh_l hk, bd_some, is_gain z4 g1, bd_some, X4_gain_n (T := (pfx k w A, o1, v1)) g1, bd_some, X4_putBack_n as, bd_some]
    dsimp only
    rw [show nI w + 1 = nI (w + 1) from (nI_succ w).symm]
    by_cases e : gI (pfx k w A) < g
    · obtain ⟨r, y', o', v', w1, w2, w3⟩ := ih (w + 1) n n2 c z o1 v1 (by omega) (by omega) (by omega) (by omega) (kp_is z2 hi) (Or.inr z3)
      rw [if_pos e, if_pos e, Int64.add_zero]
      exact ⟨r, y', o', v', w1, w2, kp_tr z2 w3⟩
    · obtain ⟨r, y', o', v', w1, w2, w3⟩ := ih (w + 1) n n2 (c + 1) z o1 v1 (by omega) (by omega) (by omega) (by omega) (kp_is z2 hi) (Or.inr z3)
      rw [if_neg e, if_neg e, show nI c + 1 = nI (c + 1) from (nI_succ c).symm, lN_1]
      exact ⟨r, y', o', v', w1, w2, kp_tr z2 w3⟩
theorem lb_total {m : St} {A : AS} (as : AsE m A) (hA : IA A) {k : Nat} (hk : k < 4) (hh : k ≤ hcA A) (hb : A 0 7 < 20000) (g : Int32) : ∀ (d w n n2 : Nat) (c : Int64) (y : St) (o v : Nat), w + d = 7 ^ k → d < n → d < n2 → Is y 1 A → (w = 0 ∨ LV y A k (w - 1)) →
    ∃ (r : Int64) (y' : St) (o' v' : Nat), X3_total_L44 n (nI k) g c (nI w) y = some (r, y') ∧ X4_total_L39 n2 (nI k) g c (nI w) (mst m (A, o, v)) = some (r, mst m (A, o', v')) ∧ Kp y y' := by
  intro d
  have p1 := p7_le hk
  induction d with
  | zero =>
    intro w n n2 c y o v h1 h2 h3 hi hp
    obtain ⟨n, rfl⟩ : ∃ m, n = m + 1 := ⟨n - 1, by omega⟩
    obtain ⟨n2, rfl⟩ : ∃ m, n2 = m + 1 := ⟨n2 - 1, by omega⟩
    unfold X3_total_L44 X4_total_L39
    rw [rdc_n hk (by decide), bd_some, wy6 hk, wy4 hk, if_pos (leY (by omega) (by omega)), if_pos (leY (by omega) (by omega))]
    exact ⟨_, y, o, v, rfl, rfl, kp_id y⟩
  | succ d ih =>
    intro w n n2 c y o v h1 h2 h3 hi hp
    obtain ⟨n, rfl⟩ : ∃ m, n = m + 1 := ⟨n - 1, by omega⟩
    obtain ⟨n2, rfl⟩ : ∃ m, n2 = m + 1 := ⟨n2 - 1, by omega⟩
    obtain ⟨z, z1, z2, z3, z4⟩ := X3_walk_n hA hk (w := w) (by omega) hh hb hi hp
    obtain ⟨o1, v1, y1⟩ := X4_dropsBy_n (m := m) hA hk (w := w) (by omega) hh hb o v
    obtain ⟨g1, g2, g3, g4, g5⟩ := pf_ok hA k w hh
    unfold X3_total_L44 X4_total_L39
    rw [rdc_n hk (by decide), bd_some, wy6 hk, wy4 hk, if_neg (leN (by omega) (by omega)), if_neg (leN (by omega) (by omega)), z1, bd_some, y1, bd_some]
    dsimp only
    rw [gsh_l hk, bd_some, is_gain z4 g1, bd_some, X4_gain_n (T := (pfx k w A, o1, v1)) g1, bd_some, X4_putBack_n as, bd_some]
    dsimp only
    rw [show nI w + 1 = nI (w + 1) from (nI_succ w).symm]
    obtain ⟨r, y', o', v', w1, w2, w3⟩ := ih (w + 1) n n2 (c + (gI (pfx k w A) - g).toInt64) z o1 v1 (by omega) (by omega) (by omega) (kp_is z2 hi) (Or.inr z3)
    exact ⟨r, y', o', v', w1, w2, kp_tr z2 w3⟩
/-- where a coin lies behind a way, on both sides -/
theorem is_at {y : St} {b : Nat} {A : AS} (h : Is y b A) {c : Nat} (hc : c < 24) : rd y (b + 2) 24 (nI c) = some (nI (A 2 c)) := by
  rw [rd_i hc (by decide)]
  exact congrArg some (h 2 c (by decide))
theorem m_at {m : St} {T : TS} {c : Nat} (hc : c < 24) : rd (mst m T) 1 275 (41 + nI c) = some (nI (tp (T.1 2 c))) := by
  rw [show (41 : Int32) = nI 41 from rfl, nI_add, md (by omega), enc_w hc]
theorem won_x {A : AS} (hA : IA A) {c : Nat} (hc : c < A 0 6) : (nI (A 2 c) = 101) = (A 2 c = 101) := by
  have := ia_p2 hA hc
  exact eq_n (b := 101) (by omega) (by decide)
theorem won_m {A : AS} (hA : IA A) {c : Nat} (hc : c < A 0 6) : (nI (tp (A 2 c)) = 101) = (A 2 c = 101) := by
  have h1 := ia_p2 hA hc
  have h2 := tp_lt h1
  have h3 := ia_p hA hc
  rw [show (nI (tp (A 2 c)) = 101) = (tp (A 2 c) = 101) from eq_n (b := 101) (by omega) (by decide)]
  exact tp_eq (by omega) (by decide)
theorem lb_luck {m : St} {A : AS} (as : AsE m A) (hA : IA A) {k j : Nat} (hj : j < A 0 6) (hk : k < 4) (hh : k ≤ hcA A) (hb : A 0 7 < 20000) : ∀ (d w n n2 c : Nat) (y : St) (o v : Nat), w + d = 7 ^ k → d < n → d < n2 → c ≤ w → Is y 1 A → (w = 0 ∨ LV y A k (w - 1)) →
    ∃ (r : Int64) (y' : St) (o' v' : Nat), X3_luck_L44 n (nI j) (nI k) (nI c) (nI w) y = some (r, y') ∧ X4_luck_L56 n2 (nI j) (nI k) (lN c) (nI w) (mst m (A, o, v)) = some (r, mst m (A, o', v')) ∧ Kp y y' := by
  intro d
  have p1 := p7_le hk
  have hn := ia_n hA
  induction d with
  | zero =>
    intro w n n2 c y o v h1 h2 h3 hc hi hp
    obtain ⟨n, rfl⟩ : ∃ m, n = m + 1 := ⟨n - 1, by omega⟩
    obtain ⟨n2, rfl⟩ : ∃ m, n2 = m + 1 := ⟨n2 - 1, by omega⟩
    unfold X3_luck_L44 X4_luck_L56
    rw [rdc_n hk (by decide), bd_some, wy6 hk, wy4 hk, if_pos (leY (by omega) (by omega)), if_pos (leY (by omega) (by omega)), nI_l (show c < 2 ^ 31 by omega)]
    exact ⟨_, y, o, v, rfl, rfl, kp_id y⟩
  | succ d ih =>
    intro w n n2 c y o v h1 h2 h3 hc hi hp
    obtain ⟨n, rfl⟩ : ∃ m, n = m + 1 := ⟨n - 1, by omega⟩
    obtain ⟨n2, rfl⟩ : ∃ m, n2 = m + 1 := ⟨n2 - 1, by omega⟩
    obtain ⟨z, z1, z2, z3, z4⟩ := X3_walk_n hA hk (w := w) (by omega) hh hb hi hp
    obtain ⟨o1, v1, y1⟩ := X4_dropsBy_n (m := m) hA hk (w := w) (by omega) hh hb o v
    obtain ⟨g1, g2, g3, g4, g5⟩ := pf_ok hA k w hh
    unfold X3_luck_L44 X4_luck_L56
    rw [rdc_n hk (by decide), bd_some, wy6 hk, wy4 hk, if_neg (leN (by omega) (by omega)), if_neg (leN (by omega) (by omega)), z1, bd_some, y1, bd_some]
    dsimp only
    rw [gsh_l hk, bd_some, is_at z4 (by omega), bd_some, m_at (T := (pfx k w A, o1, v1)) (by omega), bd_some, X4_putBack_n as, bd_some]
    dsimp only
    rw [show nI w + 1 = nI (w + 1) from (nI_succ w).symm]
    have e1 := won_x g1 (c := j) (by omega)
    have e2 := won_m g1 (c := j) (by omega)
    by_cases e : pfx k w A 2 j = 101
    · obtain ⟨r, y', o', v', w1, w2, w3⟩ := ih (w + 1) n n2 (c + 1) z o1 v1 (by omega) (by omega) (by omega) (by omega) (kp_is z2 hi) (Or.inr z3)
      rw [if_pos (e1.mpr e), if_pos (e2.mpr e), show nI c + 1 = nI (c + 1) from (nI_succ c).symm, lN_1]
      exact ⟨r, y', o', v', w1, w2, kp_tr z2 w3⟩
    · obtain ⟨r, y', o', v', w1, w2, w3⟩ := ih (w + 1) n n2 c z o1 v1 (by omega) (by omega) (by omega) (by omega) (kp_is z2 hi) (Or.inr z3)
      rw [if_neg (fun q => e (e1.mp q)), if_neg (fun q => e (e2.mp q)), Int64.add_zero]
      exact ⟨r, y', o', v', w1, w2, kp_tr z2 w3⟩
theorem op_ways (a b : Int32) : OPR (X3_ways a b) (X4_ways_ a b) := by
  intro x mm h
  unfold X3_ways X4_ways_
  obtain ⟨A, o, v, m0, hA, hb, hx, rfl, hr⟩ := RLL_st h
  by_cases e : X3_within a 0 3 = 0
  · rw [if_pos e, rw_no e, bd_some, if_pos rfl]
    exact fL0 h
  · obtain ⟨k, hk, rfl⟩ := wi_in (m := 3) (by decide) e
    rw [if_neg e, rw_n (T := (A, o, v)) hA hb hk, bd_some, if_neg (show ¬ (if k ≤ hcA (A, o, v).1 ∧ (A, o, v).1 0 7 ≤ 9900 then (0 : Int32) else -1000005) = -1000001 by split <;> decide)]
    by_cases e2 : X3_within b (-99) 999 = 0
    · rw [if_pos e2, if_pos (show X4_within b (-99) 999 = 0 from e2)]
      exact fL0 h
    · rw [if_neg e2, if_neg (show ¬ X4_within b (-99) 999 = 0 from e2), is_can hA hb hx (by omega), bd_some]
      by_cases e3 : k ≤ hcA A ∧ A 0 7 ≤ 9900
      · have p1 := p7_le (show k < 4 by omega)
        have pF : 7 ^ k < FU := Nat.lt_of_le_of_lt p1 (by decide)
        obtain ⟨r, y', o', v', w1, w2, w3⟩ := lb_ways (cpm_as m0 A) hA (show k < 4 by omega) e3.1 (by omega) b (7 ^ k) 0 FU FU 0 x o v (Nat.zero_add _) pF pF (Nat.le_refl 0) (is_x hx) (Or.inl rfl)
        rw [if_pos e3, if_neg (show ¬ (1 : Int32) = 0 by decide), if_pos (show (if k ≤ hcA (A, o, v).1 ∧ (A, o, v).1 0 7 ≤ 9900 then (0 : Int32) else -1000005) = 0 from if_pos e3), show X4_copyRow 1 3 (mst m0 (A, o, v)) = some (mst (cpm m0 A) (A, o, v)) from X4_aside_n m0 (A, o, v), bd_some]
        exact ⟨r, y', _, w1, w2, RLL_try hA hb hx hr w3 (km_cpm m0 A)⟩
      · rw [if_neg e3, if_pos rfl, if_neg (show ¬ (if k ≤ hcA (A, o, v).1 ∧ (A, o, v).1 0 7 ≤ 9900 then (0 : Int32) else -1000005) = 0 by rw [if_neg (show ¬ (k ≤ hcA (A, o, v).1 ∧ (A, o, v).1 0 7 ≤ 9900) from e3)]; decide), if_neg (show ¬ (k ≤ hcA (A, o, v).1 ∧ (A, o, v).1 0 7 ≤ 9900) from e3)]
        exact fL4 h
theorem op_total (a : Int32) : OPR (X3_total a) (X4_total a) := by
  intro x mm h
  unfold X3_total X4_total
  obtain ⟨A, o, v, m0, hA, hb, hx, rfl, hr⟩ := RLL_st h
  by_cases e : X3_within a 0 3 = 0
  · rw [if_pos e, rw_no e, bd_some, if_neg (by decide)]
    exact fL0 h
  · obtain ⟨k, hk, rfl⟩ := wi_in (m := 3) (by decide) e
    rw [if_neg e, rw_n (T := (A, o, v)) hA hb hk, bd_some, is_can hA hb hx (by omega), bd_some]
    by_cases e3 : k ≤ hcA A ∧ A 0 7 ≤ 9900
    · have p1 := p7_le (show k < 4 by omega)
      have pF : 7 ^ k < FU := Nat.lt_of_le_of_lt p1 (by decide)
      obtain ⟨r, y', o', v', w1, w2, w3⟩ := lb_total (cpm_as m0 A) hA (show k < 4 by omega) e3.1 (by omega) (gI A) (7 ^ k) 0 FU FU 0 x o v (Nat.zero_add _) pF pF (is_x hx) (Or.inl rfl)
      rw [if_pos e3, if_neg (show ¬ (1 : Int32) = 0 by decide), if_pos (show (if k ≤ hcA (A, o, v).1 ∧ (A, o, v).1 0 7 ≤ 9900 then (0 : Int32) else -1000005) = 0 from if_pos e3), show X4_copyRow 1 3 (mst m0 (A, o, v)) = some (mst (cpm m0 A) (A, o, v)) from X4_aside_n m0 (A, o, v), bd_some, is_gain (is_x hx) hA, bd_some, X4_gain_n (T := (A, o, v)) hA, bd_some]
      exact ⟨r, y', _, w1, w2, RLL_try hA hb hx hr w3 (km_cpm m0 A)⟩
    · rw [if_neg e3, if_pos rfl, if_neg (show ¬ (if k ≤ hcA (A, o, v).1 ∧ (A, o, v).1 0 7 ≤ 9900 then (0 : Int32) else -1000005) = 0 by rw [if_neg (show ¬ (k ≤ hcA (A, o, v).1 ∧ (A, o, v).1 0 7 ≤ 9900) from e3)]; decide), if_neg (show ¬ (k ≤ hcA (A, o, v).1 ∧ (A, o, v).1 0 7 ≤ 9900) from e3)]
      exact fL4 h
theorem op_luck (b a : Int32) : OPR (X3_luck b a) (X4_luck b a) := by
  intro x mm h
  unfold X3_luck X4_luck
  obtain ⟨A, o, v, m0, hA, hb, hx, rfl, hr⟩ := RLL_st h
  have hn := ia_n hA
  rw [ic_x hx]
  by_cases e : X3_within a 0 3 = 0
  · rw [rw_no e, bd_some, if_pos (show (-1000001 : Int32) = -1000001 from rfl)]
    by_cases e1 : X3_within b 0 (nI (A 0 6) - 1) = 0
    · rw [if_pos e1]
      exact fL0 h
    · rw [if_neg e1, if_pos e]
      exact fL0 h
  · obtain ⟨k, hk, rfl⟩ := wi_in (m := 3) (by decide) e
    rw [if_neg e, rw_n (T := (A, o, v)) hA hb hk, bd_some, if_neg (show ¬ (if k ≤ hcA (A, o, v).1 ∧ (A, o, v).1 0 7 ≤ 9900 then (0 : Int32) else -1000005) = -1000001 by split <;> decide), ic_m, bd_some]
    by_cases e1 : X3_within b 0 (nI (A 0 6) - 1) = 0
    · rw [if_pos e1, if_pos (show X3_within b 0 (nI ((A, o, v).1 0 6) - 1) = 0 from e1)]
      exact fL0 h
    · obtain ⟨j, hj, rfl⟩ := ic_in hn e1
      rw [if_neg e1, if_neg (show ¬ X3_within (nI j) 0 (nI ((A, o, v).1 0 6) - 1) = 0 from e1), is_can hA hb hx (by omega), bd_some]
      by_cases e3 : k ≤ hcA A ∧ A 0 7 ≤ 9900
      · have p1 := p7_le (show k < 4 by omega)
        have pF : 7 ^ k < FU := Nat.lt_of_le_of_lt p1 (by decide)
        obtain ⟨r, y', o', v', w1, w2, w3⟩ := lb_luck (cpm_as m0 A) hA hj (show k < 4 by omega) e3.1 (by omega) (7 ^ k) 0 FU FU 0 x o v (Nat.zero_add _) pF pF (Nat.le_refl 0) (is_x hx) (Or.inl rfl)
        rw [if_pos e3, if_neg (show ¬ (1 : Int32) = 0 by decide), if_pos (show (if k ≤ hcA (A, o, v).1 ∧ (A, o, v).1 0 7 ≤ 9900 then (0 : Int32) else -1000005) = 0 from if_pos e3), show X4_copyRow 1 3 (mst m0 (A, o, v)) = some (mst (cpm m0 A) (A, o, v)) from X4_aside_n m0 (A, o, v), bd_some]
        exact ⟨r, y', _, w1, w2, RLL_try hA hb hx hr w3 (km_cpm m0 A)⟩
      · rw [if_neg e3, if_pos rfl, if_neg (show ¬ (if k ≤ hcA (A, o, v).1 ∧ (A, o, v).1 0 7 ≤ 9900 then (0 : Int32) else -1000005) = 0 by rw [if_neg (show ¬ (k ≤ hcA (A, o, v).1 ∧ (A, o, v).1 0 7 ≤ 9900) from e3)]; decide), if_neg (show ¬ (k ≤ hcA (A, o, v).1 ∧ (A, o, v).1 0 7 ≤ 9900) from e3)]
        exact fL4 h
