/-! PURE 15: settings, drops, what is told, images -/
theorem wi_in1 {a : Int32} {l m : Nat} (hl : l < 2147483648) (hm : m < 2147483648) (h : ¬ X3_within a (nI l) (nI m) = 0) : ∃ c : Nat, l ≤ c ∧ c ≤ m ∧ a = nI c := by
  unfold X3_within at h
  by_cases e : a < nI l
  · rw [if_pos e] at h
    exact absurd rfl h
  · rw [if_neg e] at h
    have e1 : ¬ a < 0 := fun q => e (Int32.lt_of_lt_of_le q (nI_pos' hl))
    obtain ⟨n, hn, rfl⟩ := nI_of e1
    have l1 : l ≤ n := by
      rcases Nat.lt_or_ge n l with q | q
      · exact absurd (ltY q hl) e
      · exact q
    refine ⟨n, l1, ?_, rfl⟩
    by_cases e2 : nI m < nI n
    · rw [if_pos e2] at h
      exact absurd rfl h
    · rcases Nat.lt_or_ge m n with q | q
      · exact absurd (ltY q hn) e2
      · exact q
theorem IA_set {A : AS} (h : IA A) {j k : Nat} (hj : (j = 0 ∧ k ≤ 60) ∨ (j = 1 ∧ 1 ≤ k ∧ k ≤ 6) ∨ (j = 2 ∧ k ≤ 3)) : IA (u2 A 5 j k) := by
  have r : ∀ i, u2 A 5 j k 5 i = if i = j then k else A 5 i := fun i => rfl
  have s := ia_set h
  refine ⟨h.1, h.2.1, ?_, h.2.2.2⟩
  rw [r, r, r]
  rcases hj with ⟨rfl, z⟩ | ⟨rfl, z⟩ | ⟨rfl, z⟩
  · rw [if_pos rfl, if_neg (by decide), if_neg (by decide)]
    omega
  · rw [if_neg (by decide), if_pos rfl, if_neg (by decide)]
    omega
  · rw [if_neg (by decide), if_neg (by decide), if_pos rfl]
    omega
theorem set_on {x m0 : St} {A : AS} {o v : Nat} (hA : IA A) (hb : A 0 7 ≤ 9999) (hx : blk x 1 = rp A) (hr : RR x (mst m0 (A, o, v))) {j k : Nat} (hj : (j = 0 ∧ k ≤ 60) ∨ (j = 1 ∧ 1 ≤ k ∧ k ≤ 6) ∨ (j = 2 ∧ k ≤ 3)) : ∃ (r : Int32) (x' mm' : St), ((rd x 6 3 (nI j)).bind fun v7 => (wr x 6 3 (nI j) (nI k)).bind fun S8 => some (v7, S8)) = some (r, x') ∧ ((X4_become (1 + nI j) (nI k) (mst m0 (A, o, v))).bind fun (r9, S10) => some (r9, S10)) = some (r, mm') ∧ RLL x' mm' := by
  have hj3 : j < 3 := by omega
  rw [show rd x 6 3 (nI j) = some (nI (A 5 j)) from xrd hx 5 hj3 (by decide), bd_some, show wr x 6 3 (nI j) (nI k) = some (put x 1 7 (rp (u2 A 5 j k))) from xwr hx (k := 5) (by decide) hj3 (by decide), bd_some]
  unfold X4_become
  have et : enc A (1 + j) = A 5 j := by
    unfold enc
    rw [if_neg (by omega), if_pos (by omega), show 1 + j - 1 = j by omega]
  rw [show (1 : Int32) = nI 1 from rfl, nI_add, md (by omega), bd_some, mw (B := u2 A 5 j k) (by omega) (fun i => encu_t hj3 i), bd_some]
  refine ⟨_, _, _, rfl, ?_, RLL_new (o' := o) (v' := v) (IA_set hA hj) hb hr⟩
  show some (nI (enc A (1 + j)), _) = _
  rw [et]
theorem op_set (a b : Int32) : OPR (X3_set a b) (X4_set a b) := by
  intro x mm h
  unfold X3_set
  by_cases e : X3_within a 0 2 = 0
  · rw [if_pos e]
    have n0 : ¬ a = 0 := fun q => by rw [q] at e; exact absurd e (by decide)
    have n1 : ¬ a = 1 := fun q => by rw [q] at e; exact absurd e (by decide)
    have n2 : ¬ a = 2 := fun q => by rw [q] at e; exact absurd e (by decide)
    unfold X4_set X4_set_L14 X4_set_L29 X4_set_L47 X4_set_L48
    rw [if_neg n0, if_neg n1, if_neg n2, if_pos rfl]
    exact fl0 h
  · rw [if_neg e]
    obtain ⟨A, o, v, m0, hA, hb, hx, rfl, hr⟩ := RLL_st h
    obtain ⟨j, hj, rfl⟩ := wi_in (m := 2) (by decide) e
    unfold X3_isSetting X4_set X4_set_L14 X4_set_L43 X4_set_L29 X4_set_L43 X4_set_L47 X4_set_L48
    rw [rdc_n (by omega) (by decide), bd_some, rdc_n (by omega) (by decide), bd_some, bd_some]
    rcases (show j = 0 ∨ j = 1 ∨ j = 2 by omega) with rfl | rfl | rfl
    · rw [show stC 4 0 = nI 0 from rfl, show stC 5 0 = nI 60 from rfl]
      by_cases e2 : X3_within b (nI 0) (nI 60) = 0
      · rw [if_pos e2, if_pos (show nI 0 = 0 from rfl), if_pos (show X4_within b 0 60 = 0 from e2), if_neg (by decide), if_neg (by decide), if_pos rfl]
        exact fl0 h
      · obtain ⟨k, hk1, hk, rfl⟩ := wi_in1 (by decide) (by decide) e2
        rw [if_neg e2, if_pos (show nI 0 = 0 from rfl), if_neg (show ¬ X4_within (nI k) 0 60 = 0 from e2), if_neg (by decide)]
        exact set_on hA hb hx hr (Or.inl ⟨rfl, hk⟩)
    · rw [show stC 4 1 = nI 1 from rfl, show stC 5 1 = nI 6 from rfl]
      by_cases e2 : X3_within b (nI 1) (nI 6) = 0
      · rw [if_pos e2, if_neg (show ¬ nI 1 = 0 from by decide), if_pos (show nI 1 = 1 from rfl), if_pos (show X4_within b 1 6 = 0 from e2), if_neg (by decide), if_pos rfl]
        exact fl0 h
      · obtain ⟨k, hk1, hk, rfl⟩ := wi_in1 (by decide) (by decide) e2
        rw [if_neg e2, if_neg (show ¬ nI 1 = 0 from by decide), if_pos (show nI 1 = 1 from rfl), if_neg (show ¬ X4_within (nI k) 1 6 = 0 from e2), if_neg (by decide)]
        exact set_on hA hb hx hr (Or.inr (Or.inl ⟨rfl, hk1, hk⟩))
    · rw [show stC 4 2 = nI 0 from rfl, show stC 5 2 = nI 3 from rfl]
      by_cases e2 : X3_within b (nI 0) (nI 3) = 0
      · rw [if_pos e2, if_neg (show ¬ nI 2 = 0 from by decide), if_neg (show ¬ nI 2 = 1 from by decide), if_pos (show nI 2 = 2 from rfl), if_pos (show X4_within b 0 3 = 0 from e2), if_pos rfl]
        exact fl0 h
      · obtain ⟨k, hk1, hk, rfl⟩ := wi_in1 (by decide) (by decide) e2
        rw [if_neg e2, if_neg (show ¬ nI 2 = 0 from by decide), if_neg (show ¬ nI 2 = 1 from by decide), if_pos (show nI 2 = 2 from rfl), if_neg (show ¬ X4_within (nI k) 0 3 = 0 from e2), if_neg (by decide)]
        exact set_on hA hb hx hr (Or.inr (Or.inr ⟨rfl, hk⟩))
/-- whether beats still fit -/
theorem pe_n {x : St} {A : AS} (hx : blk x 1 = rp A) (hb : A 0 7 ≤ 9999) {n : Nat} (hn : n < 2000000000) : X3_passesEnd (nI n) x = if A 0 7 + n ≤ 9999 then 0 else 1 := by
  unfold X3_passesEnd
  rw [show x 1 7 = nI (A 0 7) from xat hx 0 7, nI_add]
  by_cases e : A 0 7 + n ≤ 9999
  · rw [if_pos e, if_pos (show nI (A 0 7 + n) ≤ 9999 from leY (b := 9999) e (by decide))]
  · rw [if_neg e, if_neg (show ¬ nI (A 0 7 + n) ≤ 9999 from leN (b := 9999) e (by omega))]
theorem tl_n {m0 : St} {T : TS} (hb : T.1 0 7 ≤ 9999) {n : Nat} (hn : n < 2000000000) : X4_isTooLate (nI n) (mst m0 T) = some (if T.1 0 7 + n ≤ 9999 then 0 else 1) := by
  unfold X4_isTooLate
  rw [show (0 : Int32) = nI 0 from rfl, md (by decide), bd_some, enc_0, nI_add]
  by_cases e : T.1 0 7 + n ≤ 9999
  · rw [if_pos e, if_pos (show nI (T.1 0 7 + n) ≤ 9999 from leY (b := 9999) e (by decide))]
  · rw [if_neg e, if_neg (show ¬ nI (T.1 0 7 + n) ≤ 9999 from leN (b := 9999) e (by omega))]
theorem wo_eq {A B : AS} (h1 : A 1 = B 1) (s : Nat) : ∀ d c w, woA A s d c w = woA B s d c w := by
  intro d
  induction d with
  | zero => intro c w; rfl
  | succ d ih =>
    intro c w
    unfold woA
    rw [h1, ih]
theorem mk_eq {f g : Nat → Bool} (h : ∀ c, f c = g c) : ∀ d c b, mkP f d c b = mkP g d c b := by
  rw [show f = g from funext h]
  intro d c b
  rfl
theorem msk_eq {A B : AS} (h0 : A 0 = B 0) (h2 : A 2 = B 2) (p : Nat) : msk A p = msk B p := by
  unfold msk
  rw [h0, h2]
theorem gI_eq {A B : AS} (h : ∀ k, k < 7 → A k = B k) : gI A = gI B := by
  unfold gI wot
  rw [msk_eq (h 0 (by decide)) (h 2 (by decide)), h 0 (by decide), wo_eq (h 1 (by decide))]
theorem pr_q {U : TS} {B : AS} (h : U.1 = B) : ∃ o' v', U = (B, o', v') := by
  obtain ⟨a, b, c⟩ := U
  subst h
  exact ⟨b, c, rfl⟩
theorem pr_q2 {U : TS} {B : AS} {w : Nat} (h : U.1 = B) (h2 : U.2.1 = w) : ∃ v', U = (B, w, v') := by
  obtain ⟨a, b, c⟩ := U
  subst h
  subst h2
  exact ⟨c, rfl⟩
theorem dpT_q (T : TS) (c col : Nat) : ∃ o' v', dpT T c col = (drA T.1 c col, o', v') := pr_q (dpT_1 T c col)
theorem bnT_q (n : Nat) (T : TS) : ∃ v', bnT n T = (bnA n T.1, T.2.1 + ovA n T.1, v') := pr_q2 (bnT_1 n T) (bnT_o n T)
theorem op_drop (a b : Int32) : OPR (X3_drop a b) (X4_drop a b) := by
  intro x mm h
  unfold X3_drop X4_drop
  obtain ⟨A, o, v, m0, hA, hb, hx, rfl, hr⟩ := RLL_st h
  have hn := ia_n hA
  rw [ic_x hx, ic_m, bd_some]
  by_cases e : X3_within a 0 (nI (A 0 6) - 1) = 0
  · rw [if_pos e, if_pos (show X3_within a 0 (nI ((A, o, v).1 0 6) - 1) = 0 from e)]
    exact fl0 h
  · rw [if_neg e, if_neg (show ¬ X3_within a 0 (nI ((A, o, v).1 0 6) - 1) = 0 from e)]
    obtain ⟨k, hk, rfl⟩ := ic_in hn e
    by_cases e1 : X3_isColumn b = 0
    · rw [if_pos e1, if_pos (show X4_isColumn b = 0 from e1)]
      exact fl0 h
    · rw [if_neg e1, if_neg (show ¬ X4_isColumn b = 0 from e1)]
      obtain ⟨c, hc, rfl⟩ := wi_in (m := 6) (by decide) e1
      have hp := ia_p2 hA hk
      rw [show rd x 3 24 (nI k) = some (nI (A 2 k)) from xrd hx 2 (by omega) (by decide), bd_some, X4_isInHand_n (T := (A, o, v)) hA hk, bd_some]
      by_cases e2 : A 2 k = 100
      · rw [if_pos (show nI (A 2 k) = 100 from congrArg nI e2), if_pos (show (A, o, v).1 2 k = 100 from e2), if_neg (show ¬ (1 : Int32) = 0 by decide), show (1 : Int32) = nI 1 from rfl, pe_n hx hb (by decide), show (0 : Int32) = nI 0 from rfl, md (T := (A, o, v)) (by decide), bd_some, enc_0]
        by_cases e3 : A 0 7 + 1 ≤ 9999
        · rw [if_pos e3, if_pos (show nI 0 = nI 0 from rfl), if_neg (show ¬ nI ((A, o, v).1 0 7) = 9999 from eqN (b := 9999) (show ¬ A 0 7 = 9999 by omega) (show A 0 7 < 2147483648 by omega) (by decide)), hx, X1_gain_n hA, bd_some, X1_release_a hA hk e2 (by omega) (by omega), bd_some, bd_some, X4_gain_n (T := (A, o, v)) hA, bd_some, X4_dropped_n (T := (A, o, v)) hA hk e2 (by omega) (show A 0 7 < 100000 by omega), bd_some]
          have hB := drA_IA hA hk e2 (show c < 7 by omega)
          obtain ⟨o', v', hd⟩ := dpT_q (A, o, v) k c
          rw [hd, X4_gain_n (T := (drA A k c, o', v')) hB.1, bd_some]
          have eb : X1_gain (blk (put x 1 7 (rp (drA A k c))) 1) = some (gI (drA A k c)) := by
            have j := jn_rp (A := drA A k c) (x := put x 1 7 (rp (drA A k c))) (b := 1) (fun i j hi => by rw [put_in hi]; rfl)
            rw [j, X1_gain_n (IA_eq (jn_in _ _) hB.1)]
            refine congrArg some ?_
            exact gI_eq (fun i hi => (jn_in (drA A k c) _ i hi).symm)
          rw [eb, bd_some]
          exact ⟨_, _, _, rfl, rfl, RLL_new hB.1 (by omega) hr⟩
        · rw [if_neg e3, if_neg (by decide), if_pos (show nI ((A, o, v).1 0 7) = 9999 from congrArg nI (show A 0 7 = 9999 by omega))]
          exact fl4 h
      · rw [if_neg (show ¬ nI (A 2 k) = 100 from eqN (b := 100) e2 (by omega) (by decide)), if_neg (show ¬ (A, o, v).1 2 k = 100 from e2), if_pos rfl]
        exact fl4 h
