/-! PURE 26: when a coin falls -/
def flF (A : AS) (c : Nat) : Nat → Nat → Option Nat
  | 0, _ => none
  | d + 1, i => if bnA i A 2 c < 42 then flF A c d (i + 1) else some i
theorem bt_q (i : Nat) (A : AS) (o v : Nat) : ∃ o' v', btT (bnA i A, o, v) = (bnA (i + 1) A, o', v') :=
  pr_q ((bt_irr (T := (bnA i A, o, v)) (U := bnT i (A, 0, 0)) (bnT_1 i (A, 0, 0)).symm).1.trans (congrArg Prod.fst (bnT_s i (A, 0, 0))).symm)
theorem lx_falls {A : AS} (hA : IA A) {c : Nat} (hc : c < A 0 6) (hb : A 0 7 < 10000) : ∀ (d i n : Nat) (y : St), i + d = 60 → d < n → Is y 15 (bnA i A) →
    ∃ y', Kp y y' ∧ (∀ j, flF A c d (i + 1) = some j → X3_falls_L57 n (nI c) (nI (i + 1)) y = some (nI j, y')) ∧ (flF A c d (i + 1) = none → X3_falls_L57 n (nI c) (nI (i + 1)) y = (X3_found 3 y').bind (fun (r, S) => some (r, S))) := by
  intro d
  induction d with
  | zero =>
    intro i n y h1 h2 hi
    obtain ⟨n, rfl⟩ : ∃ m, n = m + 1 := ⟨n - 1, by omega⟩
    refine ⟨y, kp_id y, fun j hj => ?_, fun _ => ?_⟩
    · exact nomatch (show none = some j from hj)
    · unfold X3_falls_L57
      rw [if_pos (show (60 : Int32) < nI (i + 1) from ltY (a := 60) (by omega) (by omega))]
  | succ d ih =>
    intro i n y h1 h2 hi
    obtain ⟨n, rfl⟩ : ∃ m, n = m + 1 := ⟨n - 1, by omega⟩
    obtain ⟨g1, g2⟩ := bnA_IA i hA
    obtain ⟨f1, f2⟩ := bnA_IA (i + 1) hA
    obtain ⟨c1, c2, c3, c4⟩ := bn_cnt hA (i + 1)
    obtain ⟨S, s1, s2⟩ := is_adv hi g1 (N := 1) (by decide) (by omega)
    rw [bnA_s] at s2
    have t := s2 y
    unfold X3_falls_L57
    rw [if_neg (show ¬ (60 : Int32) < nI (i + 1) from ltN (a := 60) (by omega) (by decide)), show (1 : Int32) = nI 1 from rfl, s1, bd_some, bd_some, is_on t f1 (show c < bnA (i + 1) A 0 6 by omega), bd_some, nI_add]
    by_cases e : bnA (i + 1) A 2 c < 42
    · have ef : flF A c (d + 1) (i + 1) = flF A c d (i + 1 + 1) := if_pos e
      obtain ⟨w, w1, w2, w3⟩ := ih (i + 1) n (put y 15 7 S) (by omega) (by omega) t
      rw [if_pos e, if_neg (by decide), ef]
      exact ⟨w, kp_tr (kp_put y S (Or.inl rfl)) w1, w2, w3⟩
    · have ef : flF A c (d + 1) (i + 1) = some (i + 1) := if_neg e
      rw [if_neg e, if_pos (show nI 0 = 0 from rfl), ef]
      refine ⟨put y 15 7 S, kp_put y S (Or.inl rfl), fun j hj => ?_, fun z => nomatch z⟩
      rw [← Option.some.inj hj]
theorem lm_falls {m : St} {A : AS} (as : AsE m A) (hA : IA A) {c : Nat} (hc : c < A 0 6) (hb : A 0 7 < 10000) : ∀ (d i n o v : Nat), i + d = 61 → d < n →
    ∃ o' v', (∀ j, flF A c d i = some j → X4_falls_L52 n (nI c) (nI i) (mst m (bnA i A, o, v)) = some (nI j, mst m (A, o', v'))) ∧ (flF A c d i = none → X4_falls_L52 n (nI c) (nI i) (mst m (bnA i A, o, v)) = (X4_finding (-1000004) (mst m (A, o', v'))).bind (fun (r, S) => some (r, S))) := by
  intro d
  induction d with
  | zero =>
    intro i n o v h1 h2
    obtain ⟨n, rfl⟩ : ∃ m, n = m + 1 := ⟨n - 1, by omega⟩
    refine ⟨o, v, fun j hj => ?_, fun _ => ?_⟩
    · exact nomatch (show none = some j from hj)
    · unfold X4_falls_L52 X4_falls_L76
      rw [if_pos (show (60 : Int32) < nI i from ltY (a := 60) (by omega) (by omega)), X4_putBack_n as, bd_some]
      dsimp only
      rw [if_neg (show ¬ nI i ≤ 60 from leN (b := 60) (by omega) (by omega))]
  | succ d ih =>
    intro i n o v h1 h2
    obtain ⟨n, rfl⟩ : ∃ m, n = m + 1 := ⟨n - 1, by omega⟩
    obtain ⟨g1, g2⟩ := bnA_IA i hA
    obtain ⟨c1, c2, c3, c4⟩ := bn_cnt hA i
    unfold X4_falls_L52 X4_falls_L76
    rw [if_neg (show ¬ (60 : Int32) < nI i from ltN (a := 60) (by omega) (by decide)), X4_isOnShelf_n (T := (bnA i A, o, v)) g1 (show c < bnA i A 0 6 by omega), bd_some]
    by_cases e : bnA i A 2 c < 42
    · have ef : flF A c (d + 1) i = flF A c d (i + 1) := if_pos e
      obtain ⟨o1, v1, q⟩ := bt_q i A o v
      obtain ⟨o', v', w⟩ := ih (i + 1) n o1 v1 (by omega) (by omega)
      rw [if_pos (show (bnA i A, o, v).1 2 c < 42 from e), if_neg (by decide), X4_beat_n (T := (bnA i A, o, v)) g1 (show bnA i A 0 7 < 1000000 by omega), bd_some, q, ef, show nI i + 1 = nI (i + 1) from (nI_succ i).symm]
      exact ⟨o', v', w⟩
    · have ef : flF A c (d + 1) i = some i := if_neg e
      rw [if_neg (show ¬ (bnA i A, o, v).1 2 c < 42 from e), if_pos (show nI 0 = 0 from rfl), X4_putBack_n as, bd_some]
      dsimp only
      rw [if_pos (show nI i ≤ 60 from leY (b := 60) (by omega) (by decide)), ef]
      refine ⟨o, v, fun j hj => ?_, fun z => nomatch z⟩
      rw [← Option.some.inj hj]
theorem op_falls (a : Int32) : OPR (X3_falls a) (X4_falls a) := by
  intro x mm h
  unfold X3_falls X4_falls
  obtain ⟨A, o, v, m0, hA, hb, hx, rfl, hr⟩ := RLL_st h
  have hn := ia_n hA
  have hi := is_x hx
  rw [ic_x hx, ic_m, bd_some, bd_some]
  by_cases e : X3_within a 0 (nI (A 0 6) - 1) = 0
  · rw [if_pos e, if_pos (show X3_within a 0 (nI ((A, o, v).1 0 6) - 1) = 0 from e)]
    exact fl0 h
  · rw [if_neg e, if_neg (show ¬ X3_within a 0 (nI ((A, o, v).1 0 6) - 1) = 0 from e)]
    obtain ⟨k, hk, rfl⟩ := ic_in hn e
    rw [is_on hi hA hk, bd_some, X4_isOnShelf_n (T := (A, o, v)) hA hk, bd_some]
    by_cases e2 : A 2 k < 42
    · rw [if_pos e2, if_neg (show ¬ nI 1 = 0 by decide), if_neg (show ¬ nI 1 = 0 by decide), show (60 : Int32) = nI 60 from rfl, tl_n (T := (A, o, v)) hb (by decide), bd_some, show x 1 7 = nI (A 0 7) from xat hx 0 7]
      by_cases e3 : A 0 7 ≤ 9939
      · rw [if_pos (show nI (A 0 7) ≤ 9939 from leY (b := 9939) e3 (by decide)), if_pos (show (A, o, v).1 0 7 + 60 ≤ 9999 by show A 0 7 + 60 ≤ 9999; omega), if_pos rfl, show X4_copyRow 1 3 (mst m0 (A, o, v)) = some (mst (cpm m0 A) (A, o, v)) from X4_aside_n m0 (A, o, v), bd_some]
        obtain ⟨y, y1, y2, y3⟩ := lx_falls hA hk (by omega) 60 0 FU (put x 15 7 (blk x 1)) rfl (by decide) (is_cpy hi)
        obtain ⟨o', v', z2, z3⟩ := lm_falls (cpm_as m0 A) hA hk (by omega) 61 0 FU o v rfl (by decide)
        have ef : flF A k 61 0 = flF A k 60 1 := if_pos e2
        rw [ef] at z2 z3
        have fin : RLL y (mst (cpm m0 A) (A, o', v')) := RLL_try hA hb hx hr (kp_tr (kp_put x _ (Or.inl rfl)) y1) (km_cpm m0 A)
        cases q : flF A k 60 1 with
        | some j => exact ⟨nI j, y, _, y2 j q, z2 j q, fin⟩
        | none =>
          obtain ⟨r, x', mm', r1, r2, r3⟩ := fl3 fin
          exact ⟨r, x', mm', (y3 q).trans r1, (z3 q).trans r2, r3⟩
      · rw [if_neg (show ¬ nI (A 0 7) ≤ 9939 from leN (b := 9939) e3 (by omega)), if_neg (show ¬ (A, o, v).1 0 7 + 60 ≤ 9999 by show ¬ A 0 7 + 60 ≤ 9999; omega), if_neg (by decide)]
        exact fl4 h
    · rw [if_neg e2, if_pos (show nI 0 = 0 from rfl), if_pos (show nI 0 = 0 from rfl)]
      exact fl4 h
