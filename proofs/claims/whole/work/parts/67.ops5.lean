/-! PURE 17: images, the seed, the tape wiped, spots, findings told -/
theorem put_c {x S : St} {b n : Nat} {k : Nat} (h : k < b ∨ b + n ≤ k) : put x b n S k = x k := put_other h
theorem RR_in {x mm : St} (h : RR x mm) : KPR x mm ∧ FIR x mm ∧ TAR x mm ∧ SHR x mm := ⟨h.1.1, h.1.2, h.2.1, h.2.2⟩
theorem op_image : OPR X3_image X4_image := by
  intro x mm h
  unfold X3_image X4_image
  obtain ⟨A, o, v, m0, hA, hb, hx, rfl, hr⟩ := RLL_st h
  obtain ⟨r1, r2, r3, r4⟩ := RR_in hr
  rw [X4_copyRow_n (Or.inl rfl) (Or.inr (Or.inl rfl)) (by decide), bd_some, bd_some, bd_some, bd_some]
  refine ⟨1, _, _, rfl, rfl, A, o, v, ⟨hA, hb⟩, fun k j hk => ?_, ⟨ups (setr m0 2 (fun i => if i < 275 then nI (enc A i) else m0 2 i)) 0 3 1, ?_⟩, ⟨⟨?_, ?_⟩, ?_, ?_⟩⟩
  · rw [ups_o (by omega), put_c (by omega)]
    exact xat hx k j
  · funext k j
    unfold ups setr mst
    by_cases k0 : k = 0
    · subst k0
      simp (decide := true) only [if_true, if_false]
      by_cases j3 : j = 3
      · subst j3
        simp (decide := true) only [if_true, if_false]
      · simp (decide := true) only [if_true, if_false, j3]
    · by_cases k1 : k = 1
      · subst k1
        simp (decide := true) only [if_true, if_false]
      · by_cases k2 : k = 2
        · subst k2
          simp (decide := true) only [if_true, if_false]
        · simp only [k0, k1, k2, if_false]
  · refine ⟨?_, fun _ => ⟨A, hA, hb, fun k j hk => ?_, fun i hi => ?_⟩⟩
    · rw [ups_s, ups_s, if_pos rfl, if_pos rfl]
    · rw [ups_o (by omega), put_in hk]
      exact xat hx k j
    · rw [ups_o (by omega), setr_same, if_pos hi]
      rfl
  · exact FIR_c r2 (by rw [ups_o (by omega), put_c (by omega)]) (by rw [ups_o (by omega), setr_other _ _ (by omega)])
  · refine TAR_c r3 (by rw [ups_o (by omega), put_c (by omega)]) (by rw [ups_o (by omega), put_c (by omega)]) (by rw [ups_s, if_neg (by omega), setr_other _ _ (by omega)]) (by rw [ups_o (by omega), setr_other _ _ (by omega)])
  · exact SHR_c r4 (fun k k1 k2 => by rw [ups_o (by omega), put_c (by omega)]) (by rw [ups_o (by omega), setr_other _ _ (by omega)]) (by rw [ups_o (by omega), setr_other _ _ (by omega)]) (by rw [ups_o (by omega), setr_other _ _ (by omega)])
theorem op_tear : OPR X3_tear X4_tear := by
  intro x mm h
  unfold X3_tear X4_tear
  obtain ⟨A, o, v, m0, hA, hb, hx, rfl, hr⟩ := RLL_st h
  obtain ⟨r1, r2, r3, r4⟩ := RR_in hr
  have key : RLL (ups x 0 2 0) (ups (mst m0 (A, o, v)) 0 3 0) := by
    refine ⟨A, o, v, ⟨hA, hb⟩, fun k j hk => ?_, ⟨ups m0 0 3 0, ?_⟩, ⟨⟨?_, ?_⟩, ?_, ?_⟩⟩
    · rw [ups_o (by omega)]
      exact xat hx k j
    · funext k j
      unfold ups mst
      by_cases k0 : k = 0
      · subst k0
        simp (decide := true) only [if_true, if_false]
        by_cases j3 : j = 3
        · subst j3
          simp (decide := true) only [if_true, if_false]
        · simp (decide := true) only [if_true, if_false, j3]
      · by_cases k1 : k = 1
        · subst k1
          simp (decide := true) only [if_true, if_false]
        · simp only [k0, k1, if_false]
    · refine ⟨?_, fun q => absurd ?_ q⟩
      · rw [ups_s, ups_s, if_pos rfl, if_pos rfl]
      · rw [ups_s, if_pos rfl]
    · exact FIR_c r2 (by rw [ups_o (by omega)]) (by rw [ups_o (by omega)])
    · exact TAR_c r3 (by rw [ups_o (by omega)]) (by rw [ups_o (by omega)]) (by rw [ups_s, if_neg (by omega)]) (by rw [ups_o (by omega)])
    · exact SHR_c r4 (fun k k1 k2 => by rw [ups_o (by omega)]) (by rw [ups_o (by omega)]) (by rw [ups_o (by omega)]) (by rw [ups_o (by omega)])
  rw [← r1.1]
  by_cases e : x 0 2 = 0
  · rw [if_pos e, if_pos e]
    exact ⟨0, _, _, rfl, rfl, key⟩
  · rw [if_neg e, if_neg e]
    exact ⟨1, _, _, rfl, rfl, key⟩
theorem op_undo : OPR X3_undo X4_undo := by
  intro x mm h
  unfold X3_undo X4_undo
  obtain ⟨A, o, v, m0, hA, hb, hx, rfl, hr⟩ := RLL_st h
  obtain ⟨r1, r2, r3, r4⟩ := RR_in hr
  by_cases e : x 0 2 = 0
  · rw [if_pos e, if_pos (show mst m0 (A, o, v) 0 3 = 0 by rw [← r1.1]; exact e)]
    exact fl3 h
  · rw [if_neg e, if_neg (show ¬ mst m0 (A, o, v) 0 3 = 0 by rw [← r1.1]; exact e)]
    obtain ⟨K, K1, K2, K3, K4⟩ := r1.2 e
    have hk := jn_rp (A := K) (x := x) (b := 8) K3
    have eK := enc_eq (jn_in K (blk x 8))
    rw [X4_copyRow_n (Or.inr (Or.inl rfl)) (Or.inl rfl) (by decide), bd_some, bd_some]
    have em : setr (mst m0 (A, o, v)) 1 (fun i => if i < 275 then mst m0 (A, o, v) 2 i else mst m0 (A, o, v) 1 i) = mst m0 (jnA K (blk x 8), o, v) := by
      funext k j
      by_cases k1 : k = 1
      · subst k1
        rw [setr_same]
        show _ = nI (enc (jnA K (blk x 8)) j)
        rw [← eK]
        by_cases hj : j < 275
        · rw [if_pos hj]
          exact K4 j hj
        · rw [if_neg hj, enc_out _ hj]
          show nI (enc A j) = _
          rw [enc_out _ hj]
      · rw [setr_other _ _ k1]
        unfold mst
        rw [if_neg k1, if_neg k1]
    rw [em, show (0 : Int32) = nI 0 from rfl, md (by decide), bd_some, enc_0]
    refine ⟨_, _, mst m0 (jnA K (blk x 8), o, v), rfl, ?_, ?_⟩
    · refine congrArg some (Prod.ext ?_ rfl)
      show nI (jnA K (blk x 8) 0 7) = put x 1 7 (blk x 8) 1 7
      rw [show put x 1 7 (blk x 8) 1 = blk x 8 0 from put_in (j := 0) (by decide)]
      exact (congrFun (congrFun hk 0) 7).symm
    · rw [hk]
      exact RLL_new (IA_eq (jn_in K (blk x 8)) K1) (by rw [← jn_in K (blk x 8) 0 (by decide)]; exact K2) hr
theorem op_seed (a : Int32) : OPR (X3_seed a) (X4_seed a) := by
  intro x mm h
  unfold X3_seed X4_seed X4_become
  obtain ⟨A, o, v, m0, hA, hb, hx, rfl, hr⟩ := RLL_st h
  obtain ⟨k, hk, rfl⟩ := wb_of32 a
  have w := xwr hx (k := 0) (n := 10) (i := 9) (v := k) (by decide) (by decide) (by decide)
  rw [wr_i (by decide) (by decide)] at w
  have w2 : ups x 1 9 (nI k) = put x 1 7 (rp (u2 A 0 9 k)) := Option.some.inj w
  rw [bd_some, w2, show (6 : Int32) = nI 6 from rfl, md (by decide), bd_some, enc_6, mw (B := u2 A 0 9 k) (by decide) (fun i => encu_0 (q := 9) (by decide) (by decide) i), bd_some]
  exact ⟨_, _, _, congrArg some (Prod.ext (xat hx 0 9) rfl), rfl, RLL_new (IA_u0 hA (by decide)) hb hr⟩
theorem op_wipe : OPR X3_wipe X4_wipe := by
  intro x mm h
  unfold X3_wipe X4_wipe
  obtain ⟨A, o, v, m0, hA, hb, hx, rfl, hr⟩ := RLL_st h
  obtain ⟨r1, r2, ⟨L, t1, t2, t3, t4⟩, r4⟩ := RR_in hr
  rw [bd_some, bd_some]
  refine ⟨_, _, _, congrArg some (Prod.ext t2 rfl), congrArg some (Prod.ext t3 rfl), A, o, v, ⟨hA, hb⟩, fun k j hk => ?_, ⟨ups m0 0 11 0, ?_⟩, ⟨⟨?_, ?_⟩, ?_, ?_⟩⟩
  · rw [ups_o (by omega)]
    exact xat hx k j
  · funext k j
    unfold ups mst
    by_cases k0 : k = 0
    · subst k0
      simp (decide := true) only [if_true, if_false]
      by_cases j3 : j = 11
      · subst j3
        simp (decide := true) only [if_true, if_false]
      · simp (decide := true) only [if_true, if_false, j3]
    · by_cases k1 : k = 1
      · subst k1
        simp (decide := true) only [if_true, if_false]
      · simp only [k0, k1, if_false]
  · exact KPR_c r1 (by rw [ups_o (by omega)]) (by rw [ups_s, if_neg (by omega)]) (fun k k1 k2 => by rw [ups_o (by omega)]) (by rw [ups_o (by omega)])
  · exact FIR_c r2 (by rw [ups_o (by omega)]) (by rw [ups_o (by omega)])
  · exact ⟨0, by decide, by rw [ups_s, if_pos rfl]; rfl, by rw [ups_s, if_pos rfl]; rfl, fun i hi => absurd hi (by omega)⟩
  · exact SHR_c r4 (fun k k1 k2 => by rw [ups_o (by omega)]) (by rw [ups_o (by omega)]) (by rw [ups_o (by omega)]) (by rw [ups_o (by omega)])
theorem IA_spot {A : AS} (h : IA A) {j k : Nat} (hk : k = 4294967295 ∨ k < A 0 6) : IA (u2 A 6 j k) := by
  refine ⟨h.1, h.2.1, h.2.2.1, fun i hi => ?_⟩
  have r : u2 A 6 j k 6 i = if i = j then k else A 6 i := rfl
  rw [r]
  split
  · exact hk
  · exact h.2.2.2 i hi
theorem op_hold (a b : Int32) : OPR (X3_hold a b) (X4_hold a b) := by
  intro x mm h
  unfold X3_hold X4_hold
  obtain ⟨A, o, v, m0, hA, hb, hx, rfl, hr⟩ := RLL_st h
  have hn := ia_n hA
  by_cases e : X3_within a 0 9 = 0
  · rw [if_pos e, if_pos (show X4_isSpot a = 0 from e)]
    exact fl0 h
  · rw [if_neg e, if_neg (show ¬ X4_isSpot a = 0 from e)]
    obtain ⟨j, hj, rfl⟩ := wi_in (m := 9) (by decide) e
    have sp : ∀ k, (k = 4294967295 ∨ k < A 0 6) → ∃ (r : Int32) (x' mm' : St), ((wr x 7 10 (nI j) (nI k)).bind fun S6 => some ((1 : Int32), S6)) = some (r, x') ∧ ((wr (mst m0 (A, o, v)) 1 275 (7 + nI j) (nI k)).bind fun S6 => some ((1 : Int32), S6)) = some (r, mm') ∧ RLL x' mm' := by
      intro k hk
      rw [show wr x 7 10 (nI j) (nI k) = some (put x 1 7 (rp (u2 A 6 j k))) from xwr hx (k := 6) (by decide) (by omega) (by decide), bd_some, show (7 : Int32) = nI 7 from rfl, nI_add, mw (B := u2 A 6 j k) (by omega) (fun i => encu_p (by omega) i), bd_some]
      exact ⟨_, _, _, rfl, rfl, RLL_new (IA_spot hA hk) hb hr⟩
    by_cases e2 : b = -1
    · rw [if_pos e2, if_pos e2, e2]
      exact sp 4294967295 (Or.inl rfl)
    · rw [if_neg e2, if_neg e2, ic_x hx, ic_m, bd_some]
      by_cases e3 : X3_within b 0 (nI (A 0 6) - 1) = 0
      · rw [if_pos e3, if_pos (show X3_within b 0 (nI ((A, o, v).1 0 6) - 1) = 0 from e3)]
        exact fl0 h
      · rw [if_neg e3, if_neg (show ¬ X3_within b 0 (nI ((A, o, v).1 0 6) - 1) = 0 from e3)]
        obtain ⟨c, hc, rfl⟩ := ic_in hn e3
        exact sp c (Or.inr hc)
theorem op_status (a : Int32) : OPR (X3_status a) (X4_status a) := by
  intro x mm h
  unfold X3_status X4_status
  obtain ⟨r1, ⟨f1, f2⟩, r3, r4⟩ := RR_in (show RR x mm by obtain ⟨A, o, v, m0, hA, hb, hx, hm, hr⟩ := RLL_st h; exact hr)
  by_cases e : X3_within a (-1) 6 = 0
  · rw [if_pos e, if_pos (show X4_within a (-1) 6 = 0 from e)]
    exact fl0 h
  · rw [if_neg e, if_neg (show ¬ X4_within a (-1) 6 = 0 from e)]
    by_cases e1 : a < 0
    · rw [if_pos e1]
      have ea : a + 1 = nI 0 := by
        unfold X3_within at e
        have e2 : ¬ a < -1 := fun q => e (by rw [if_pos q])
        have z : a.toInt = -1 := by
          have := Int32.lt_iff_toInt_lt.mp e1
          have h2 : ¬ a.toInt < (-1 : Int32).toInt := fun q => e2 (Int32.lt_iff_toInt_lt.mpr q)
          rw [show (-1 : Int32).toInt = -1 from by decide] at h2
          rw [show (0 : Int32).toInt = 0 from by decide] at this
          omega
        have : a = -1 := Int32.toInt_inj.mp (by rw [z]; decide)
        rw [this]
        decide
      have st : ∀ (b : Int32) (i n : Nat), i < 7 → X3_status_L31 (n + 1) b (nI i) x = X3_status_L31 n (b + x 26 i) (nI (i + 1)) x := by
        intro b i n hi
        show (if (7 : Int32) ≤ nI i then _ else _) = _
        rw [if_neg (show ¬ (7 : Int32) ≤ nI i from leN (a := 7) (by omega) (by decide)), rd_i hi (by decide), bd_some, show nI i + 1 = nI (i + 1) from (nI_succ i).symm]
      have fin : ∀ (b : Int32) (n : Nat), X3_status_L31 (n + 1) b (nI 7) x = some (b, x) := by
        intro b n
        show (if (7 : Int32) ≤ nI 7 then _ else _) = _
        rw [if_pos (by decide)]
      rw [ea, rd_i (by decide) (by decide), bd_some, f2]
      refine ⟨_, x, mm, ?_, rfl, h⟩
      have go : X3_status_L31 (992 + 8) 0 (nI 0) x = some (x 26 0 + x 26 1 + x 26 2 + x 26 3 + x 26 4 + x 26 5 + x 26 6, x) := by
        rw [st _ 0 _ (by decide), st _ 1 _ (by decide), st _ 2 _ (by decide), st _ 3 _ (by decide), st _ 4 _ (by decide), st _ 5 _ (by decide), st _ 6 _ (by decide), fin, Int32.zero_add]
      exact go
    · rw [if_neg e1]
      obtain ⟨k, hk, rfl⟩ := nI_of e1
      have hk6 : k ≤ 6 := by
        unfold X3_within at e
        rcases Nat.lt_or_ge 6 k with q | q
        · exfalso
          refine e ?_
          split
          · rfl
          · rw [if_pos (show (6 : Int32) < nI k from ltY (a := 6) q hk)]
        · exact q
      rw [rd_i (by omega) (by decide), bd_some, show nI k + 1 = nI (k + 1) from (nI_succ k).symm, rd_i (by omega) (by decide), bd_some, f1 k (by omega)]
      exact ⟨_, x, mm, rfl, rfl, h⟩
