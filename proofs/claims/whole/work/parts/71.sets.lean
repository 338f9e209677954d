/-! PURE 21: beats; sets told -/
theorem op_beats (a : Int32) : OPR (X3_beats a) (X4_beats a) := by
  intro x mm h
  unfold X3_beats X4_beats
  by_cases e : X3_within a 1 60 = 0
  · rw [if_pos e, if_pos (show X4_within a 1 60 = 0 from e)]
    exact fl0 h
  · rw [if_neg e, if_neg (show ¬ X4_within a 1 60 = 0 from e)]
    obtain ⟨N, hN1, hN, rfl⟩ := wi_in1 (l := 1) (m := 60) (by decide) (by decide) e
    obtain ⟨A, o, v, m0, hA, hb, hx, rfl, hr⟩ := RLL_st h
    rw [pe_n hx hb (by omega), tl_n (T := (A, o, v)) hb (by omega), bd_some]
    by_cases e1 : A 0 7 + N ≤ 9999
    · have hi : Is x 1 A := fun k j _ => xat hx k j
      obtain ⟨c1, c2, c3, c4⟩ := bn_cnt hA N
      obtain ⟨g1, g2⟩ := bnA_IA N hA
      have hi2 : Is (put x 1 7 (rp (bnA N A))) 1 (bnA N A) := is_put x 1 (fun _ _ => rfl)
      have ga := gv_le hA
      have gb := gv_le g1
      rw [if_pos e1, if_pos rfl, if_pos rfl, is_over hi hA, bd_some, hx, X1_advance_a (by omega) hA (by omega), bd_some, bd_some, is_over hi2 g1, bd_some, X4_beatsGo_n (T := (A, o, v)) (by omega) hA (show A 0 7 + N < 1000000 by omega), bd_some, sub_n (by omega)]
      obtain ⟨v', hv⟩ := bnT_q N (A, o, v)
      rw [hv]
      refine ⟨_, _, _, rfl, ?_, RLL_new (o' := o + ovA N A) (v' := v') g1 (by omega) hr⟩
      refine congrArg some (Prod.ext ?_ rfl)
      show nI (ovA N A) = nI (gvA (bnA N A) - gvA A)
      refine congrArg nI ?_
      omega
    · rw [if_neg e1, if_neg (by decide), if_neg (by decide)]
      exact fl4 h
theorem xor_n (a b : Nat) : nI a ^^^ nI b = nI (a ^^^ b) := by
  apply Int32.toBitVec_inj.1
  show BitVec.ofNat 32 a ^^^ BitVec.ofNat 32 b = BitVec.ofNat 32 (a ^^^ b)
  apply BitVec.eq_of_getLsbD_eq
  intro i hi
  simp [hi]
/-- a set without another -/
def wo_ (s t : Nat) : Nat := s &&& (t ^^^ 4294967295)
theorem wo_n (s t : Nat) : nI s &&& (nI t ^^^ (-1)) = nI (wo_ s t) := by
  rw [show (-1 : Int32) = nI 4294967295 from rfl, xor_n, and_n]
  rfl
theorem wo_bit (s t : Nat) {i : Nat} (h : i < 32) : (wo_ s t).testBit i = (s.testBit i && !t.testBit i) := by
  unfold wo_
  rw [Nat.testBit_and, Nat.testBit_xor, show 4294967295 = 2 ^ 32 - 1 from rfl, Nat.testBit_two_pow_sub_one, decide_eq_true h, Bool.xor_true]
theorem wo_lt {s t k : Nat} (h : s < k) : wo_ s t < k := Nat.lt_of_le_of_lt Nat.and_le_left h
theorem woA_b {A : AS} {s t : Nat} : ∀ d c w, (∀ i, c ≤ i → i < c + d → s.testBit i = t.testBit i) → woA A s d c w = woA A t d c w := by
  intro d
  induction d with
  | zero => intro c w _; rfl
  | succ d ih =>
    intro c w h
    unfold woA
    rw [h c (Nat.le_refl c) (by omega), ih (c + 1) _ (fun i h1 h2 => h i (by omega) (by omega))]
theorem woA_split {A : AS} {s t u : Nat} : ∀ d c w w2, (∀ i, c ≤ i → i < c + d → s.testBit i = (t.testBit i || u.testBit i) ∧ ¬ (t.testBit i = true ∧ u.testBit i = true)) → woA A s d c (w + w2) = woA A t d c w + woA A u d c w2 := by
  intro d
  induction d with
  | zero => intro c w w2 _; rfl
  | succ d ih =>
    intro c w w2 h
    obtain ⟨h1, h2⟩ := h c (Nat.le_refl c) (by omega)
    unfold woA
    rw [h1]
    by_cases e : t.testBit c = true
    · by_cases e2 : u.testBit c = true
      · exact absurd ⟨e, e2⟩ h2
      · rw [if_pos (by rw [e]; rfl), if_pos e, if_neg e2, show w + w2 + WOR (A 1 c) = (w + WOR (A 1 c)) + w2 by omega]
        exact ih (c + 1) _ _ (fun i h1 h2 => h i (by omega) (by omega))
    · by_cases e2 : u.testBit c = true
      · rw [if_pos (by rw [e2]; exact Bool.or_true _), if_neg e, if_pos e2, show w + w2 + WOR (A 1 c) = w + (w2 + WOR (A 1 c)) by omega]
        exact ih (c + 1) _ _ (fun i h1 h2 => h i (by omega) (by omega))
      · rw [if_neg (by rw [Bool.or_eq_true]; exact fun z => z.elim e e2), if_neg e, if_neg e2]
        exact ih (c + 1) _ _ (fun i h1 h2 => h i (by omega) (by omega))
/-- what is won besides -/
theorem won_more {A B : AS} (hn : A 0 6 ≤ 24) (h0 : B 0 6 = A 0 6) (h1 : B 1 = A 1) (hp : ∀ c, c < A 0 6 → ¬ A 2 c < 42 → B 2 c = A 2 c) : wot B (msk B 101) = wot A (msk A 101) + wot B (wo_ (msk B 101) (msk A 101)) := by
  unfold wot
  rw [h0, wo_eq (A := A) (B := B) h1.symm (msk A 101)]
  have z := woA_split (A := B) (s := msk B 101) (t := msk A 101) (u := wo_ (msk B 101) (msk A 101)) (A 0 6) 0 0 0 (fun i _ hi => ?_)
  · exact z
  · have b32 : i < 32 := by omega
    have hi2 : i < A 0 6 := by omega
    rw [wo_bit _ _ b32, msk_bit, msk_bit, h0, decide_eq_true hi2, Bool.true_and, Bool.true_and]
    by_cases e : A 2 i = 101
    · rw [decide_eq_true e, decide_eq_true (show B 2 i = 101 by rw [hp i hi2 (by omega), e])]
      exact ⟨rfl, by decide⟩
    · rw [decide_eq_false e]
      cases decide (B 2 i = 101) <;> exact ⟨rfl, by decide⟩
/-- the set of what lies on the shelf -/
theorem X4_shelf_n {m0 : St} {T : TS} (h : IA T.1) : X4_shelf (mst m0 T) = some (nI (shm T.1)) := by
  have hn := ia_n h
  have p1 : 1 ≤ 2 ^ T.1 0 6 := Nat.one_le_two_pow
  have e1 : shl32 1 (nI (T.1 0 6)) - 1 = nI (2 ^ T.1 0 6 - 1) := by
    rw [show (1 : Int32) = nI 1 from rfl, shl_n (by omega), sub_n p1]
  unfold X4_shelf
  rw [show (4 : Int32) = nI 4 from rfl, md (by decide), bd_some, enc_4, show (100 : Int32) = nI 100 from rfl, X4_setOf_n h (by decide) (by decide), bd_some, show (101 : Int32) = nI 101 from rfl, X4_setOf_n h (by decide) (by decide), bd_some, show (102 : Int32) = nI 102 from rfl, X4_setOf_n h (by decide) (by decide), bd_some, e1, wo_n, wo_n, wo_n]
  refine congrArg some (congrArg nI ?_)
  have lt1 : 2 ^ T.1 0 6 - 1 < 2 ^ 24 := by
    have := Nat.pow_le_pow_right (show 0 < 2 by decide) hn
    omega
  refine Nat.eq_of_testBit_eq (fun i => ?_)
  rcases Nat.lt_or_ge i 24 with hi | hi
  · rw [wo_bit _ _ (by omega), wo_bit _ _ (by omega), wo_bit _ _ (by omega), Nat.testBit_two_pow_sub_one, msk_bit, msk_bit, msk_bit, shm_bit]
    by_cases e : i < T.1 0 6
    · have hp := ia_p h e
      rw [decide_eq_true e]
      simp only [Bool.true_and]
      rcases hp with q | q | q | q
      · rw [decide_eq_false (show ¬ T.1 2 i = 100 by omega), decide_eq_false (show ¬ T.1 2 i = 101 by omega), decide_eq_false (show ¬ T.1 2 i = 102 by omega), decide_eq_true q]
        rfl
      · rw [q]; rfl
      · rw [q]; rfl
      · rw [q]; rfl
    · rw [decide_eq_false e]
      simp only [Bool.false_and]
  · have l1 : wo_ (wo_ (wo_ (2 ^ T.1 0 6 - 1) (msk T.1 100)) (msk T.1 101)) (msk T.1 102) < 2 ^ 24 := wo_lt (wo_lt (wo_lt lt1))
    have l2 : shm T.1 < 2 ^ 24 := shm_lt hn
    rw [Nat.testBit_lt_two_pow (Nat.lt_of_lt_of_le l1 (Nat.pow_le_pow_right (by decide) hi)), Nat.testBit_lt_two_pow (Nat.lt_of_lt_of_le l2 (Nat.pow_le_pow_right (by decide) hi))]
/-- the highest stack -/
theorem hi_both {y m0 : St} {b : Nat} {A : AS} {o v : Nat} (hi : Is y b A) : ∀ (d q n : Nat) (w : Int32), q + d = 42 → d < n → ∃ r, X1_highest_L4 n w (nI q) (blk y b) = some r ∧ X4_highest_L4 n w (nI q) (mst m0 (A, o, v)) = some r := by
  intro d
  induction d with
  | zero =>
    intro q n w h1 h2
    obtain ⟨n, rfl⟩ : ∃ m, n = m + 1 := ⟨n - 1, by omega⟩
    unfold X1_highest_L4 X4_highest_L4
    rw [if_pos (show (42 : Int32) ≤ nI q from leY (a := 42) (by omega) (by omega)), if_pos (show (42 : Int32) ≤ nI q from leY (a := 42) (by omega) (by omega))]
    exact ⟨w, rfl, rfl⟩
  | succ d ih =>
    intro q n w h1 h2
    obtain ⟨n, rfl⟩ : ∃ m, n = m + 1 := ⟨n - 1, by omega⟩
    unfold X1_highest_L4 X4_highest_L4
    have e1 : rd (blk y b) 3 42 (nI q) = some (nI (A 3 q)) := by
      rw [rd_i (by omega) (by decide)]
      exact congrArg some (hi 3 q (by decide))
    rw [if_neg (show ¬ (42 : Int32) ≤ nI q from leN (a := 42) (by omega) (by decide)), if_neg (show ¬ (42 : Int32) ≤ nI q from leN (a := 42) (by omega) (by decide)), e1, bd_some, X4_highOf_n (by omega), bd_some, show nI q + 1 = nI (q + 1) from (nI_succ q).symm]
    exact ih (q + 1) n _ (by omega) (by omega)
theorem highest_both {y m0 : St} {b : Nat} {A : AS} {o v : Nat} (hi : Is y b A) : ∃ r, X1_highest (blk y b) = some r ∧ X4_highest (mst m0 (A, o, v)) = some r := hi_both hi 42 0 FU 0 rfl (by decide)
