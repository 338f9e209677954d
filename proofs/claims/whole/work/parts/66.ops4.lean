/-! PURE 16: what is told; images; the seed; the tape wiped; spots; findings told -/
theorem KPR_c {x mm y nn : St} (h : KPR x mm) (h0 : y 0 2 = x 0 2) (h3 : nn 0 3 = mm 0 3) (hx : ∀ k, 8 ≤ k → k < 15 → y k = x k) (hm : nn 2 = mm 2) : KPR y nn := by
  obtain ⟨k1, k2⟩ := h
  refine ⟨by rw [h0, h3, k1], fun n0 => ?_⟩
  rw [h0] at n0
  obtain ⟨K, K1, K2, K3, K4⟩ := k2 n0
  refine ⟨K, K1, K2, fun k j hk => ?_, fun i hi => ?_⟩
  · rw [hx (8 + k) (by omega) (by omega)]
    exact K3 k j hk
  · rw [hm]
    exact K4 i hi
theorem FIR_c {x mm y nn : St} (h : FIR x mm) (h0 : y 26 = x 26) (h4 : nn 4 = mm 4) : FIR y nn := by
  unfold FIR
  rw [h0, h4]
  exact h
theorem TAR_c {x mm y nn : St} (h : TAR x mm) (h0 : y 23 = x 23) (h1 : y 24 = x 24) (h4 : nn 0 11 = mm 0 11) (h5 : nn 5 = mm 5) : TAR y nn := by
  unfold TAR
  rw [h0, h1, h4, h5]
  exact h
theorem SHR_c {x mm y nn : St} (h : SHR x mm) (hx : ∀ k, 48 ≤ k → k < 56 → y k = x k) (h10 : nn 10 = mm 10) (h11 : nn 11 = mm 11) (h12 : nn 12 = mm 12) : SHR y nn := by
  intro s hs
  rw [hx (48 + 2 * s) (by omega) (by omega), hx (49 + 2 * s) (by omega) (by omega), h10, h11, h12]
  exact h s hs
theorem b_or0 (b : Int32) : b ||| 0 = b := Int32.or_zero
theorem op_now (a : Int32) : OPR (X3_now a) (X4_now a) := by
  intro x mm h
  unfold X3_now X4_now
  obtain ⟨A, o, v, m0, hA, hb, hx, rfl, hr⟩ := RLL_st h
  have hm : msk A 102 < 16777216 := msk_lt (ia_n hA) 102
  by_cases e0 : a = 0
  · rw [if_pos e0, if_pos e0, show (0 : Int32) = nI 0 from rfl, md (by decide), bd_some, enc_0]
    exact ⟨_, _, _, congrArg some (Prod.ext (xat hx 0 7) rfl), rfl, h⟩
  · rw [if_neg e0, if_neg e0]
    by_cases e1 : a = 1
    · rw [if_pos e1, if_pos e1, hx, X1_gain_n hA, bd_some, X4_gain_n (T := (A, o, v)) hA, bd_some]
      exact ⟨_, _, _, rfl, rfl, h⟩
    · rw [if_neg e1, if_neg e1]
      by_cases e2 : a = 2
      · rw [if_pos e2, if_pos e2, hx, show (101 : Int32) = nI 101 from rfl, X1_bitsAt_n hA (by decide), bd_some, X4_setOf_n (T := (A, o, v)) hA (by decide) (by decide), bd_some]
        exact ⟨_, _, _, rfl, rfl, h⟩
      · rw [if_neg e2, if_neg e2]
        by_cases e3 : a = 3
        · rw [if_pos e3, if_pos e3, hx, show (102 : Int32) = nI 102 from rfl, X1_bitsAt_n hA (by decide), bd_some, X4_setOf_n (T := (A, o, v)) hA (by decide) (by decide), bd_some]
          exact ⟨_, _, _, rfl, rfl, h⟩
        · rw [if_neg e3, if_neg e3]
          by_cases e4 : a = 4
          · rw [if_pos e4, if_pos e4, hx, show (100 : Int32) = nI 100 from rfl, X1_bitsAt_n hA (by decide), bd_some, X4_setOf_n (T := (A, o, v)) hA (by decide) (by decide), bd_some]
            exact ⟨_, _, _, rfl, rfl, h⟩
          · rw [if_neg e4, if_neg e4]
            by_cases e5 : a = 5
            · rw [if_pos e5, if_pos e5, show (5 : Int32) = nI 5 from rfl, md (by decide), bd_some, enc_5]
              exact ⟨_, _, _, congrArg some (Prod.ext (xat hx 0 8) rfl), rfl, h⟩
            · rw [if_neg e5, if_neg e5]
              by_cases e6 : a = 6
              · rw [if_pos e6, if_pos e6, hx, show (102 : Int32) = nI 102 from rfl, X1_worthAt_n hA (by decide), bd_some, X4_setOf_n (T := (A, o, v)) hA (by decide) (by decide), bd_some, X4_worthOf_n (T := (A, o, v)) hA (show msk A 102 < 2147483648 by omega), bd_some]
                exact ⟨_, _, _, rfl, rfl, h⟩
              · rw [if_neg e6, if_neg e6]
                exact fl0 h
theorem op_run (a : Int32) : OPR (X3_run a) (X4_run a) := by
  intro x mm h
  unfold X3_run X4_run
  by_cases e : X3_isColumn a = 0
  · rw [if_pos e, if_pos (show X4_isColumn a = 0 from e)]
    exact fl0 h
  · rw [if_neg e, if_neg (show ¬ X4_isColumn a = 0 from e)]
    obtain ⟨c, hc, rfl⟩ := wi_in (m := 6) (by decide) e
    obtain ⟨A, o, v, m0, hA, hb, hx, rfl, hr⟩ := RLL_st h
    rw [hx, X1_runRows_n (fun q hq => ia_h hA hq) (by omega), bd_some, X4_runOf_n (T := (A, o, v)) (fun q hq => ia_h hA hq) (by omega), bd_some]
    exact ⟨_, _, _, rfl, rfl, h⟩
theorem op_weight (a : Int32) : OPR (X3_weight a) (X4_weight a) := by
  intro x mm h
  unfold X3_weight X4_weight
  by_cases e : X3_isColumn a = 0
  · rw [if_pos e, if_pos (show X4_isColumn a = 0 from e)]
    exact fl0 h
  · rw [if_neg e, if_neg (show ¬ X4_isColumn a = 0 from e)]
    obtain ⟨c, hc, rfl⟩ := wi_in (m := 6) (by decide) e
    obtain ⟨A, o, v, m0, hA, hb, hx, rfl, hr⟩ := RLL_st h
    rw [hx, X1_runWeight_n hA (by omega), bd_some, X4_weightOf_n (T := (A, o, v)) hA (by omega), bd_some]
    exact ⟨_, _, _, rfl, rfl, h⟩
/-- both sides answer alike and change nothing -/
def OPQ (f g : St → Option Int32) : Prop := ∀ x mm, RLL x mm → ∃ r, f x = some r ∧ g mm = some r
theorem lm_moved {x m0 : St} {A : AS} {o v : Nat} (hA : IA A) (hx : blk x 1 = rp A) : ∀ (d c n : Nat) (b : Int32), c + d = 7 → d < n → ∃ r, X3_moved_L4 n b (nI c) x = some r ∧ X4_moved_L4 n b (nI c) (mst m0 (A, o, v)) = some r := by
  intro d
  induction d with
  | zero =>
    intro c n b h1 h2
    obtain ⟨n, rfl⟩ : ∃ m, n = m + 1 := ⟨n - 1, by omega⟩
    unfold X3_moved_L4 X4_moved_L4
    rw [if_pos (show (7 : Int32) ≤ nI c from leY (a := 7) (by omega) (by omega)), if_pos (show (7 : Int32) ≤ nI c from leY (a := 7) (by omega) (by omega))]
    exact ⟨b, rfl, rfl⟩
  | succ d ih =>
    intro c n b h1 h2
    obtain ⟨n, rfl⟩ : ∃ m, n = m + 1 := ⟨n - 1, by omega⟩
    unfold X3_moved_L4 X4_moved_L4
    rw [if_neg (show ¬ (7 : Int32) ≤ nI c from leN (a := 7) (by omega) (by decide)), if_neg (show ¬ (7 : Int32) ≤ nI c from leN (a := 7) (by omega) (by decide)), hx, X1_pushMoves_n hA (by omega), bd_some, X4_isMoved_n (T := (A, o, v)) hA (by omega), bd_some, b_or0, show nI c + 1 = nI (c + 1) from (nI_succ c).symm]
    by_cases e : pmA A c = true
    · rw [if_pos e, if_neg (by decide), if_neg (by decide)]
      exact ih (c + 1) n _ (by omega) (by omega)
    · rw [if_neg e, if_pos (show nI 0 = 0 from rfl), if_pos (show nI 0 = 0 from rfl)]
      exact ih (c + 1) n _ (by omega) (by omega)
theorem op_moved : OPQ X3_moved X4_moved := by
  intro x mm h
  obtain ⟨A, o, v, m0, hA, hb, hx, rfl, hr⟩ := RLL_st h
  exact lm_moved hA hx 7 0 FU 0 rfl (by decide)
def lnA (A : AS) : Nat → Nat → Nat → Nat
  | 0, _, b => b
  | n + 1, q, b => lnA A n (q + 1) (if leanA A q then b + 1 else b)
theorem lnA_add (A : AS) (m : Nat) : ∀ a q b, lnA A (a + m) q b = lnA A m (q + a) (lnA A a q b) := by
  intro a
  induction a with
  | zero =>
    intro q b
    rw [Nat.zero_add]
    rfl
  | succ a ih =>
    intro q b
    rw [show a + 1 + m = (a + m) + 1 by omega]
    unfold lnA
    rw [ih, show q + 1 + a = q + (a + 1) by omega]
    cases m <;> rfl
theorem lx_lean {x : St} {A : AS} (hA : IA A) (hx : blk x 1 = rp A) : ∀ (d q b n : Nat), q + d = 42 → d < n → X3_leaning_L4 n (nI b) (nI q) x = some (nI (lnA A d q b)) := by
  intro d
  induction d with
  | zero =>
    intro q b n h1 h2
    obtain ⟨n, rfl⟩ : ∃ m, n = m + 1 := ⟨n - 1, by omega⟩
    unfold X3_leaning_L4
    rw [if_pos (show (42 : Int32) ≤ nI q from leY (a := 42) (by omega) (by omega))]
    rfl
  | succ d ih =>
    intro q b n h1 h2
    obtain ⟨n, rfl⟩ : ∃ m, n = m + 1 := ⟨n - 1, by omega⟩
    unfold X3_leaning_L4
    rw [if_neg (show ¬ (42 : Int32) ≤ nI q from leN (a := 42) (by omega) (by decide)), hx, X1_leans_n hA (by omega), bd_some, show nI q + 1 = nI (q + 1) from (nI_succ q).symm]
    show _ = some (nI (lnA A d (q + 1) (if leanA A q then b + 1 else b)))
    by_cases e : leanA A q = true
    · rw [if_pos e, if_neg (by decide), if_pos e, show nI b + 1 = nI (b + 1) from (nI_succ b).symm]
      exact ih (q + 1) (b + 1) n (by omega) (by omega)
    · rw [if_neg e, if_pos (show nI 0 = 0 from rfl), if_neg e]
      exact ih (q + 1) b n (by omega) (by omega)
theorem lm_lean1 {m0 : St} {A : AS} {o v : Nat} (hA : IA A) {c : Nat} (hc : c < 7) (k4 : Int32 → Int32 → St → Option Int32) : ∀ (d r b n : Nat), r + d = 6 → d < n → X4_leaning_L12 k4 n (nI b) (nI c) (nI r) (mst m0 (A, o, v)) = k4 (nI (lnA A d (c * 6 + r) b)) (nI (c + 1)) (mst m0 (A, o, v)) := by
  intro d
  induction d with
  | zero =>
    intro r b n h1 h2
    obtain ⟨n, rfl⟩ : ∃ m, n = m + 1 := ⟨n - 1, by omega⟩
    unfold X4_leaning_L12
    rw [if_pos (show (6 : Int32) ≤ nI r from leY (a := 6) (by omega) (by omega)), show nI c + 1 = nI (c + 1) from (nI_succ c).symm]
    rfl
  | succ d ih =>
    intro r b n h1 h2
    obtain ⟨n, rfl⟩ : ∃ m, n = m + 1 := ⟨n - 1, by omega⟩
    unfold X4_leaning_L12
    rw [if_neg (show ¬ (6 : Int32) ≤ nI r from leN (a := 6) (by omega) (by decide)), X4_isLeaning_n (T := (A, o, v)) hA hc (by omega), bd_some, show nI r + 1 = nI (r + 1) from (nI_succ r).symm]
    show _ = k4 (nI (lnA A d (c * 6 + r + 1) (if leanA A (c * 6 + r) then b + 1 else b))) (nI (c + 1)) _
    by_cases e : leanA A (c * 6 + r) = true
    · rw [if_pos (show leanA (A, o, v).1 (c * 6 + r) = true from e), if_neg (by decide), if_pos e, show nI b + 1 = nI (b + 1) from (nI_succ b).symm]
      exact ih (r + 1) (b + 1) n (by omega) (by omega)
    · rw [if_neg (show ¬ leanA (A, o, v).1 (c * 6 + r) = true from e), if_pos (show nI 0 = 0 from rfl), if_neg e, Int32.add_zero]
      exact ih (r + 1) b n (by omega) (by omega)
theorem lm_lean2 {m0 : St} {A : AS} {o v : Nat} (hA : IA A) : ∀ (d c b n : Nat), c + d = 7 → d < n → X4_leaning_L4 n (nI b) (nI c) (mst m0 (A, o, v)) = some (nI (lnA A (6 * d) (c * 6) b)) := by
  intro d
  induction d with
  | zero =>
    intro c b n h1 h2
    obtain ⟨n, rfl⟩ : ∃ m, n = m + 1 := ⟨n - 1, by omega⟩
    unfold X4_leaning_L4
    rw [if_pos (show (7 : Int32) ≤ nI c from leY (a := 7) (by omega) (by omega))]
    rfl
  | succ d ih =>
    intro c b n h1 h2
    obtain ⟨n, rfl⟩ : ∃ m, n = m + 1 := ⟨n - 1, by omega⟩
    unfold X4_leaning_L4
    have z := lm_lean1 (m0 := m0) (o := o) (v := v) hA (show c < 7 by omega) (X4_leaning_L4 n) 6 0 b FU rfl (by decide)
    rw [if_neg (show ¬ (7 : Int32) ≤ nI c from leN (a := 7) (by omega) (by decide))]
    refine z.trans ?_
    rw [ih (c + 1) _ n (by omega) (by omega), show 6 * (d + 1) = 6 + 6 * d by omega, lnA_add, show (c + 1) * 6 = c * 6 + 6 by omega]
    rfl
theorem op_leaning : OPQ X3_leaning X4_leaning := by
  intro x mm h
  obtain ⟨A, o, v, m0, hA, hb, hx, rfl, hr⟩ := RLL_st h
  exact ⟨_, lx_lean hA hx 42 0 0 FU rfl (by decide), lm_lean2 hA 7 0 0 FU rfl (by decide)⟩
