/-! PURE 44: sheets -/
theorem mst_uk (m : St) (T : TS) {k j : Nat} (v : Int32) (h : 2 ≤ k) : ups (mst m T) k j v = mst (ups m k j v) T := by
  funext a b
  unfold ups mst
  by_cases e1 : a = 1
  · rw [if_neg (by omega), if_pos e1, if_pos e1]
  · by_cases e0 : a = 0
    · subst e0
      have z : ¬ (0 : Nat) = k := by omega
      simp (decide := true) only [z, if_false, if_true]
    · rw [if_neg e1, if_neg e0, if_neg e1, if_neg e0]
theorem mst_k (m : St) (T : TS) {k : Nat} (h : 2 ≤ k) : mst m T k = m k := by
  unfold mst
  rw [if_neg (by omega), if_neg (by omega)]
/-- one sheet, on both sides -/
def SH1 (x mm : St) (s : Nat) : Prop := ∃ z : Nat, z ≤ 40 ∧ x (48 + 2 * s) 2 = nI z ∧ mm 11 s = nI z ∧ x (48 + 2 * s) 1 = mm 10 s ∧ (x (48 + 2 * s) 1 = 0 ∨ x (48 + 2 * s) 1 = 8 ∨ x (48 + 2 * s) 1 = 16 ∨ x (48 + 2 * s) 1 = 32) ∧ ∀ j, j < 40 → x (49 + 2 * s) j = mm 12 (40 * s + j)
theorem SHR_up {x mm y nn : St} (h : SHR x mm) {s : Nat} (hs : s < 4) (h1 : SH1 y nn s) (hx : ∀ k, 48 ≤ k → k < 56 → k ≠ 48 + 2 * s → k ≠ 49 + 2 * s → y k = x k) (h10 : ∀ i, i ≠ s → nn 10 i = mm 10 i) (h11 : ∀ i, i ≠ s → nn 11 i = mm 11 i) (h12 : ∀ i, (i < 40 * s ∨ 40 * s + 40 ≤ i) → nn 12 i = mm 12 i) : SHR y nn := by
  intro t ht
  by_cases e : t = s
  · subst e
    exact h1
  · obtain ⟨z, z1, z2, z3, z4, z5, z6⟩ := h t ht
    refine ⟨z, z1, ?_, ?_, ?_, ?_, fun j hj => ?_⟩
    · rw [hx (48 + 2 * t) (by omega) (by omega) (by omega) (by omega)]
      exact z2
    · rw [h11 t e]
      exact z3
    · rw [hx (48 + 2 * t) (by omega) (by omega) (by omega) (by omega), h10 t e]
      exact z4
    · rw [hx (48 + 2 * t) (by omega) (by omega) (by omega) (by omega)]
      exact z5
    · rw [hx (49 + 2 * t) (by omega) (by omega) (by omega) (by omega), h12 _ (by omega)]
      exact z6 j hj
theorem RLL_sh {x y m0 m1 : St} {A : AS} {o v : Nat} (hA : IA A) (hb : A 0 7 ≤ 9999) (hx : blk x 1 = rp A) (hr : RR x (mst m0 (A, o, v))) (hk : ∀ k, k < 48 → y k = x k) (hm : ∀ k, k < 10 → m1 k = m0 k) (hs : SHR y (mst m1 (A, o, v))) : RLL y (mst m1 (A, o, v)) := by
  obtain ⟨r1, r2, r3, r4⟩ := RR_in hr
  refine ⟨A, o, v, ⟨hA, hb⟩, fun k j h7 => ?_, ⟨m1, rfl⟩, ⟨⟨?_, ?_⟩, ?_, hs⟩⟩
  · rw [hk (1 + k) (by omega)]
    exact xat hx k j
  · refine KPR_c r1 ?_ ?_ (fun k h1 h2 => hk k (by omega)) ?_
    · rw [hk 0 (by decide)]
    · show m1 0 3 = m0 0 3
      rw [hm 0 (by decide)]
    · show m1 2 = m0 2
      exact hm 2 (by decide)
  · exact FIR_c r2 (hk 26 (by decide)) (show m1 4 = m0 4 from hm 4 (by decide))
  · refine TAR_c r3 (hk 23 (by decide)) (hk 24 (by decide)) ?_ (show m1 5 = m0 5 from hm 5 (by decide))
    show m1 0 11 = m0 0 11
    rw [hm 0 (by decide)]
theorem sht_n {s : Nat} (h : s < 4) : rdn 4 sht (nI s) = some (48 + 2 * s) := by
  have key : ∀ s, s < 4 → rdn 4 sht (nI s) = some (48 + 2 * s) := by decide +kernel
  exact key s h
theorem wz_in {a : Int32} {n : Nat} (hn : n < 2147483648) (h : ¬ X3_within a 0 (nI n - 1) = 0) : ∃ c : Nat, c < n ∧ a = nI c := by
  by_cases e : n = 0
  · subst e
    exfalso
    refine h ?_
    unfold X3_within
    by_cases e1 : a < 0
    · rw [if_pos e1]
    · rw [if_neg e1]
      obtain ⟨j, hj, rfl⟩ := nI_of e1
      rw [if_pos ?_]
      have z : nI 0 - 1 < (0 : Int32) := by decide
      exact Int32.lt_of_lt_of_le z (nI_pos' hj)
  · rw [show nI n - 1 = nI (n - 1) from (by rw [show (1 : Int32) = nI 1 from rfl, sub_n (by omega)])] at h
    obtain ⟨c, h1, h2⟩ := wi_in (by omega) h
    exact ⟨c, by omega, h2⟩
/-! sheet -/
theorem lx_renew : ∀ (d i n : Nat) (S : St), i + d = 40 → d < n → (∀ j, j < i → S 1 j = 0) → ∃ S', X0_renew_L12 n (nI i) S = some S' ∧ S' 0 = S 0 ∧ ∀ j, j < 40 → S' 1 j = 0 := by
  intro d
  induction d with
  | zero =>
    intro i n S h1 h2 h
    obtain ⟨n, rfl⟩ : ∃ m, n = m + 1 := ⟨n - 1, by omega⟩
    unfold X0_renew_L12
    rw [if_pos (show (40 : Int32) ≤ nI i from leY (a := 40) (by omega) (by omega))]
    exact ⟨S, rfl, rfl, fun j hj => h j (by omega)⟩
  | succ d ih =>
    intro i n S h1 h2 h
    obtain ⟨n, rfl⟩ : ∃ m, n = m + 1 := ⟨n - 1, by omega⟩
    unfold X0_renew_L12
    rw [if_neg (show ¬ (40 : Int32) ≤ nI i from leN (a := 40) (by omega) (by decide)), wr_i (show i < 40 by omega) (by decide), bd_some, show nI i + 1 = nI (i + 1) from (nI_succ i).symm]
    obtain ⟨S', s1, s2, s3⟩ := ih (i + 1) n (ups S 1 i 0) (by omega) (by omega) (fun j hj => by
      rw [ups_s]
      by_cases e : j = i
      · rw [if_pos e]
      · rw [if_neg e]
        exact h j (by omega))
    exact ⟨S', s1, by rw [s2, ups_o (by decide)], s3⟩
theorem X0_renew_n (b z : Int32) (S : St) : ∃ S', X0_renew b z S = some S' ∧ S' 0 1 = b ∧ S' 0 2 = z ∧ ∀ j, j < 40 → S' 1 j = 0 := by
  obtain ⟨S', s1, s2, s3⟩ := lx_renew 40 0 FU (ups (ups S 0 1 b) 0 2 z) rfl (by decide) (fun j hj => absurd hj (by omega))
  refine ⟨S', ?_, ?_, ?_, s3⟩
  · unfold X0_renew
    rw [bd_some, bd_some]
    exact s1
  · rw [s2]
    rfl
  · rw [s2]
    rfl
theorem lm_sheet {s : Nat} (hs : s < 4) : ∀ (d i n : Nat) (m : St) (T : TS), i + d = 40 → d < n → (∀ j, j < i → m 12 (40 * s + j) = 0) → ∃ m', X4_sheet_L86 n (nI s) (nI i) (mst m T) = some (m' 11 s, mst m' T) ∧ (∀ k, k ≠ 12 → m' k = m k) ∧ (∀ j, j < 40 → m' 12 (40 * s + j) = 0) ∧ ∀ j, (j < 40 * s ∨ 40 * s + 40 ≤ j) → m' 12 j = m 12 j := by
  intro d
  induction d with
  | zero =>
    intro i n m T h1 h2 h
    obtain ⟨n, rfl⟩ : ∃ m, n = m + 1 := ⟨n - 1, by omega⟩
    unfold X4_sheet_L86
    rw [if_pos (show (40 : Int32) ≤ nI i from leY (a := 40) (by omega) (by omega)), rd_i hs (by decide), bd_some, mst_k _ _ (by decide)]
    exact ⟨m, rfl, fun _ _ => rfl, fun j hj => h j (by omega), fun _ _ => rfl⟩
  | succ d ih =>
    intro i n m T h1 h2 h
    obtain ⟨n, rfl⟩ : ∃ m, n = m + 1 := ⟨n - 1, by omega⟩
    unfold X4_sheet_L86
    rw [if_neg (show ¬ (40 : Int32) ≤ nI i from leN (a := 40) (by omega) (by decide)), show (40 : Int32) = nI 40 from rfl, pk_mul, nI_add, wr_i (show 40 * s + i < 160 by omega) (by decide), bd_some, mst_uk _ _ _ (by decide), show nI i + 1 = nI (i + 1) from (nI_succ i).symm]
    obtain ⟨m', s1, s2, s3, s4⟩ := ih (i + 1) n (ups m 12 (40 * s + i) 0) T (by omega) (by omega) (fun j hj => by
      rw [ups_s]
      by_cases e : j = i
      · rw [if_pos (by omega)]
      · rw [if_neg (by omega)]
        exact h j (by omega))
    exact ⟨m', s1, fun k hk => by rw [s2 k hk, ups_o hk], s3, fun j hj => by rw [s4 j hj, ups_s, if_neg (by omega)]⟩
theorem sheet_in {x m0 : St} {A : AS} {o v : Nat} (hA : IA A) (hb : A 0 7 ≤ 9999) (hx : blk x 1 = rp A) (hr : RR x (mst m0 (A, o, v))) {s z : Nat} (hs : s < 4) (hz : z ≤ 40) {b : Int32} (hbits : b = 0 ∨ b = 8 ∨ b = 16 ∨ b = 32) :
    ∃ (r : Int32) (x' mm' : St), X3_sheet_L59 (nI s) (nI z) b (48 + 2 * s) x = some (r, x') ∧ ((wr (ups (mst m0 (A, o, v)) 10 s b) 11 4 (nI s) (nI z)).bind fun S10 => X4_sheet_L86 FU (nI s) 0 S10) = some (r, mm') ∧ RLL x' mm' := by
  obtain ⟨S', s1, s2, s3, s4⟩ := X0_renew_n b (nI z) (blk x (48 + 2 * s))
  obtain ⟨m', t1, t2, t3, t4⟩ := lm_sheet hs 40 0 FU (ups (ups m0 10 s b) 11 s (nI z)) (A, o, v) rfl (by decide) (fun j hj => absurd hj (by omega))
  obtain ⟨r1, r2, r3, r4⟩ := RR_in hr
  have y1 : put x (48 + 2 * s) 2 S' (48 + 2 * s) = S' 0 := put_in (j := 0) (by decide)
  have y2 : put x (48 + 2 * s) 2 S' (49 + 2 * s) = S' 1 := by
    rw [show 49 + 2 * s = 48 + 2 * s + 1 by omega]
    exact put_in (j := 1) (by decide)
  have u10 : m' 10 = ups m0 10 s b 10 := by
    rw [t2 10 (by decide), ups_o (by decide)]
  have u11 : m' 11 = ups (ups m0 10 s b) 11 s (nI z) 11 := t2 11 (by decide)
  have w11 : m' 11 s = nI z := by
    rw [u11, ups_s, if_pos rfl]
  unfold X3_sheet_L59
  rw [s1, bd_some, bd_some, sht_n hs, bd_some, wr_i hs (by decide), bd_some, mst_uk _ _ _ (by decide), mst_uk _ _ _ (by decide), show (0 : Int32) = nI 0 from rfl, t1, y1, s3, w11]
  refine ⟨_, _, _, rfl, rfl, ?_⟩
  refine RLL_sh hA hb hx hr (fun k hk => put_o (by omega)) (fun k hk => ?_) ?_
  · rw [t2 k (by omega), ups_o (by omega), ups_o (by omega)]
  · refine SHR_up r4 hs ⟨z, hz, ?_, ?_, ?_, ?_, fun j hj => ?_⟩ (fun k h1 h2 h3 h4 => put_o (by omega)) (fun i hi => ?_) (fun i hi => ?_) (fun i hi => ?_)
    · rw [y1, s3]
    · rw [mst_k _ _ (by decide), w11]
    · rw [y1, s2, mst_k _ _ (by decide), u10, ups_s, if_pos rfl]
    · rw [y1, s2]
      exact hbits
    · rw [y2, s4 j hj, mst_k _ _ (by decide), t3 j hj]
    · rw [mst_k _ _ (by decide), mst_k _ _ (by decide), u10, ups_s, if_neg hi]
    · rw [mst_k _ _ (by decide), mst_k _ _ (by decide), u11, ups_s, if_neg hi, ups_o (by decide)]
    · rw [mst_k _ _ (by decide), mst_k _ _ (by decide), t4 i hi, ups_o (by decide), ups_o (by decide)]
theorem op_sheet (a b c : Int32) : OPR (X3_sheet a b c) (X4_sheet a b c) := by
  intro x mm h
  unfold X3_sheet X4_sheet
  obtain ⟨A, o, v, m0, hA, hb, hx, rfl, hr⟩ := RLL_st h
  by_cases e : X3_within a 0 3 = 0
  · rw [if_pos (show X3_isSheet a = 0 from e), if_pos (show X4_isSheet a = 0 from e)]
    exact fl0 h
  · rw [if_neg (show ¬ X3_isSheet a = 0 from e), if_neg (show ¬ X4_isSheet a = 0 from e)]
    obtain ⟨s, hs, rfl⟩ := wi_in (m := 3) (by decide) e
    have main : (b = 0 ∨ b = 8 ∨ b = 16 ∨ b = 32) → ∃ (r : Int32) (x' mm' : St), (if 0 ≤ c then (if c ≤ 40 then ((rdn 4 sht (nI s)).bind fun kv8 => if b = 0 then (X3_sheet_L59 (nI s) 0 b kv8 x) else (X3_sheet_L59 (nI s) c b kv8 x)) else ((X3_found 0 x).bind fun (r14, S15) => some (r14, S15))) else ((X3_found 6 x).bind fun (r17, S18) => some (r17, S18))) = some (r, x') ∧ X4_sheet_L36 (nI s) b c (mst m0 (A, o, v)) = some (r, mm') ∧ RLL x' mm' := by
      intro hbits
      unfold X4_sheet_L36
      by_cases e2 : 0 ≤ c
      · rw [if_pos e2, if_pos e2]
        by_cases e3 : c ≤ 40
        · obtain ⟨z, hz, rfl⟩ := nI_of (Int32.not_lt.mpr e2)
          have z40 : z ≤ 40 := (nI_leI (b := 40) hz (by decide)).mp e3
          rw [if_pos e3, if_pos e3, sht_n (show s < 4 by omega), bd_some, wr_i (show s < 4 by omega) (by decide), bd_some]
          by_cases e4 : b = 0
          · rw [if_pos e4, if_pos e4]
            exact sheet_in hA hb hx hr (show s < 4 by omega) (z := 0) (by decide) hbits
          · rw [if_neg e4, if_neg e4]
            exact sheet_in hA hb hx hr (show s < 4 by omega) z40 hbits
        · rw [if_neg e3, if_neg e3]
          exact fl0 h
      · rw [if_neg e2, if_neg e2]
        exact fl6 h
    unfold X3_isWidth
    by_cases b0 : b = 0
    · rw [if_pos b0, if_neg (show ¬ (1 : Int32) = 0 by decide), if_pos b0]
      exact main (Or.inl b0)
    · rw [if_neg b0, if_neg b0]
      by_cases b8 : b = 8
      · rw [if_pos b8, if_neg (show ¬ (1 : Int32) = 0 by decide), if_pos b8]
        exact main (Or.inr (Or.inl b8))
      · rw [if_neg b8, if_neg b8]
        by_cases b16 : b = 16
        · rw [if_pos b16, if_neg (show ¬ (1 : Int32) = 0 by decide), if_pos b16]
          exact main (Or.inr (Or.inr (Or.inl b16)))
        · rw [if_neg b16, if_neg b16]
          by_cases b32 : b = 32
          · rw [if_pos b32, if_neg (show ¬ (1 : Int32) = 0 by decide), if_pos b32]
            exact main (Or.inr (Or.inr (Or.inr b32)))
          · rw [if_neg b32, if_pos (show (0 : Int32) = 0 from rfl), if_neg b32]
            exact fl0 h
/-! write -/
theorem X0_put_n {S : St} {i : Nat} (v : Int32) (hi : i < 40) (hb : S 0 1 = 8 ∨ S 0 1 = 16 ∨ S 0 1 = 32) : X0_put (nI i) v S = some (ups S 1 i (X4_cutTo v (S 0 1))) := by
  unfold X0_put X4_cutTo
  rcases hb with e | e | e
  · rw [if_pos e, if_pos e, wr_i hi (by decide), bd_some]
  · have n8 : ¬ S 0 1 = 8 := by rw [e]; decide
    rw [if_neg n8, if_neg n8, if_pos e, if_pos e, wr_i hi (by decide), bd_some]
  · have n8 : ¬ S 0 1 = 8 := by rw [e]; decide
    have n16 : ¬ S 0 1 = 16 := by rw [e]; decide
    rw [if_neg n8, if_neg n8, if_neg n16, if_neg n16, wr_i hi (by decide), bd_some]
theorem op_write (a b c : Int32) : OPR (X3_write a b c) (X4_write a b c) := by
  intro x mm h
  unfold X3_write X4_write
  obtain ⟨A, o, v, m0, hA, hb, hx, rfl, hr⟩ := RLL_st h
  by_cases e : X3_within a 0 3 = 0
  · rw [if_pos (show X3_isSheet a = 0 from e), if_pos (show X4_isSheet a = 0 from e)]
    exact fl0 h
  · rw [if_neg (show ¬ X3_isSheet a = 0 from e), if_neg (show ¬ X4_isSheet a = 0 from e)]
    obtain ⟨s, hs3, rfl⟩ := wi_in (m := 3) (by decide) e
    have hs : s < 4 := by omega
    obtain ⟨r1, r2, r3, r4⟩ := RR_in hr
    obtain ⟨z, z1, z2, z3, z4, z5, z6⟩ := r4 s hs
    rw [sht_n hs, rd_i hs (by decide), rd_i hs (by decide)]
    simp only [bd_some]
    rw [← z4]
    by_cases e1 : x (48 + 2 * s) 1 = 0
    · rw [if_pos e1, if_pos e1]
      exact fl5 h
    · rw [if_neg e1, if_neg e1, z2, z3]
      by_cases e2 : X3_within b 0 (nI z - 1) = 0
      · rw [if_pos e2, if_pos (show X4_within b 0 (nI z - 1) = 0 from e2)]
        exact fl0 h
      · obtain ⟨i, hi, rfl⟩ := wz_in (by omega) e2
        have y0 : blk x (48 + 2 * s) 0 1 = x (48 + 2 * s) 1 := rfl
        rw [if_neg e2, if_neg (show ¬ X4_within (nI i) 0 (nI z - 1) = 0 from e2), X0_put_n c (by omega) (by rw [y0]; exact z5.resolve_left e1), bd_some, show (40 : Int32) = nI 40 from rfl, pk_mul, nI_add, wr_i (show 40 * s + i < 160 by omega) (by decide), bd_some, mst_uk _ _ _ (by decide), y0]
        have y1 : put x (48 + 2 * s) 2 (ups (blk x (48 + 2 * s)) 1 i (X4_cutTo c (x (48 + 2 * s) 1))) (48 + 2 * s) = x (48 + 2 * s) := by
          rw [show put x (48 + 2 * s) 2 (ups (blk x (48 + 2 * s)) 1 i (X4_cutTo c (x (48 + 2 * s) 1))) (48 + 2 * s) = ups (blk x (48 + 2 * s)) 1 i (X4_cutTo c (x (48 + 2 * s) 1)) 0 from put_in (j := 0) (by decide), ups_o (by decide)]
          rfl
        have y2 : put x (48 + 2 * s) 2 (ups (blk x (48 + 2 * s)) 1 i (X4_cutTo c (x (48 + 2 * s) 1))) (49 + 2 * s) = ups (blk x (48 + 2 * s)) 1 i (X4_cutTo c (x (48 + 2 * s) 1)) 1 := by
          rw [show 49 + 2 * s = 48 + 2 * s + 1 by omega]
          exact put_in (j := 1) (by decide)
        refine ⟨_, _, _, rfl, rfl, ?_⟩
        refine RLL_sh hA hb hx hr (fun k hk => put_o (by omega)) (fun k hk => ups_o (by omega)) ?_
        refine SHR_up r4 hs ⟨z, z1, ?_, ?_, ?_, ?_, fun j hj => ?_⟩ (fun k h1 h2 h3 h4 => put_o (by omega)) (fun i hi => ?_) (fun i hi => ?_) (fun i hi => ?_)
        · rw [y1, z2]
        · rw [mst_k _ _ (by decide), ups_o (by decide)]
          exact z3
        · rw [y1, mst_k _ _ (by decide), ups_o (by decide)]
          exact z4
        · rw [y1]
          exact z5
        · rw [y2, mst_k _ _ (by decide), ups_s, ups_s]
          by_cases q : j = i
          · rw [if_pos q, if_pos (by omega)]
          · rw [if_neg q, if_neg (by omega)]
            have w := z6 j hj
            rw [show 49 + 2 * s = 48 + 2 * s + 1 by omega] at w
            exact w
        · rw [mst_k _ _ (by decide), mst_k _ _ (by decide), ups_o (by decide)]
        · rw [mst_k _ _ (by decide), mst_k _ _ (by decide), ups_o (by decide)]
        · rw [mst_k _ _ (by decide), mst_k _ _ (by decide), ups_s, if_neg (by omega)]
