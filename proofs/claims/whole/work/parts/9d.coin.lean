/-! PURE 53: an item, read on both sides -/
theorem it_coin {T : Nat → Nat} {L p k j : Nat} {A B : AS} {y m : St} {U : TS} (hL : L ≤ 120) (hT : ∀ i, i < L → T i < 256) (hp : p ≤ L) (hk7 : k < 7) (hj : j < 100) (hK : tkK T L p ≠ 0) (hB : IA B) (hx : KX (blk y 23) T L p) (hi : Is y 15 B) (hm : PM m T L p B j A) :
    RES (X3_readCoin 15 (nI k) y) (X4_readItem_L37 (nI k) (if 24 ≤ B 0 6 then 0 else 1) (mst m U)) y m U T L p B j A := by
  obtain ⟨⟨hk, h16⟩, ⟨h20, h21, h9⟩, W, w1, w2, w3⟩ := hm
  obtain ⟨t1, t2, t3, t4, t5, t6, t7⟩ := tk_le T hp
  have tpe := t7 hK
  have hn := ia_n hB
  obtain ⟨f1, f2, f3⟩ := kx_f hx
  unfold X3_readCoin
  rw [show y 15 6 = nI (B 0 6) from hi 0 6 (by decide)]
  by_cases full : B 0 6 < 24
  · rw [if_pos (show nI (B 0 6) < 24 from ltY (b := 24) full (by decide)), if_neg (show ¬ 24 ≤ B 0 6 by omega)]
    obtain ⟨S1, s1, s2⟩ := is_mint hi full k
    have hi1 := s2 y
    have hM := IA_mint hB hk7 full
    have hx1 : KX (blk (put y 15 7 S1) 23) T L p := kx_s hx
    obtain ⟨y2, q1, q2, q3, q5, q4⟩ := nxb hL hT hp hx1
    have hi2 := q5 _ hi1
    obtain ⟨m1, a1, a2, a3⟩ := must_ok hL hT t4 U hk.1 hk.2.2.1 h16 (a := 1) (by decide)
    have b16 : m1 0 16 = 0 := by rw [a2.2 16 (by decide) (by decide) (by decide) (by decide)]; exact h16
    have b20 : m1 0 20 = nI j := by rw [a2.2 20 (by decide) (by decide) (by decide) (by decide)]; exact h20
    have b21 : m1 0 21 = nI (B 0 6) := by rw [a2.2 21 (by decide) (by decide) (by decide) (by decide)]; exact h21
    have hM2 : KM (ups m1 0 21 (nI (B 0 6 + 1))) T L (tkE T L p) := km_u0 a3 _ (by decide)
    have c16 : ups m1 0 21 (nI (B 0 6 + 1)) 0 16 = 0 := by rw [ups_s, if_neg (by decide)]; exact b16
    have c20 : ups m1 0 21 (nI (B 0 6 + 1)) 0 20 = nI j := by rw [ups_s, if_neg (by decide)]; exact b20
    have c21 : ups m1 0 21 (nI (B 0 6 + 1)) 0 21 = nI (B 0 6 + 1) := by rw [ups_s, if_pos rfl]
    have c9 : ∀ q, q < 42 → ups m1 0 21 (nI (B 0 6 + 1)) 9 q = nI (mtA B k 3 q) := fun q hq => by rw [ups_o (by decide), a2.1 9 (by decide)]; exact h9 q hq
    have c8 : ∀ i, i < 2 * j → ups m1 0 21 (nI (B 0 6 + 1)) 8 i = nI (W i) := fun i hi => by rw [ups_o (by decide), a2.1 8 (by decide)]; exact w1 i hi
    have cf : FMR m (ups m1 0 21 (nI (B 0 6 + 1))) := fm_tr (fm_ft a2) (fm_u0 _ _ (by decide))
    have fx2 : FXR y y2 := fx_tr (fx_s y S1) q3
    have st : ∀ R, ((if mst (ups m1 0 21 (nI (B 0 6 + 1))) U 0 16 = 0 then ((X4_isWord 10 (mst (ups m1 0 21 (nI (B 0 6 + 1))) U)).bind fun r18 => if r18 = 0 then ((X4_item (nI k) 100 (mst (ups m1 0 21 (nI (B 0 6 + 1))) U)).bind fun S20 => some S20) else ((X4_must 1 (mst (ups m1 0 21 (nI (B 0 6 + 1))) U)).bind fun S21 => (X4_readCell S21).bind fun (r23, S24) => (X4_item (nI k) r23 S24).bind fun S25 => some S25)) else ((X4_item (nI k) 100 (mst (ups m1 0 21 (nI (B 0 6 + 1))) U)).bind fun S17 => some S17)) = R) → X4_readItem_L37 (nI k) 1 (mst m U) = R := by
      intro R hR
      unfold X4_readItem_L37
      rw [a1, bd_some, show mst m1 U 0 21 = nI (B 0 6) from b21, show nI (B 0 6) + 1 = nI (B 0 6 + 1) from (nI_succ _).symm, mst_u _ _ _ (by decide) (by decide), bd_some]
      exact hR
    generalize hM2d : ups m1 0 21 (nI (B 0 6 + 1)) = m2 at hM2 c16 c20 c21 c9 c8 cf st
    rw [if_pos (show mst m2 U 0 16 = 0 from c16), X4_isWord_n hL t4 (by decide) U hM2, bd_some] at st
    rw [s1, bd_some]
    dsimp only
    rw [bd_some, q1, X2_isWord_n hL t4 (by decide) q2, bd_some]
    by_cases at_ : iwF T L (tkE T L p) 10 = true
    · have hK1 : tkK T L (tkE T L p) = 1 := iw_K at_
      obtain ⟨ub1, ub2, ub3, ub4, ub5, ub6, ub7⟩ := tk_le T t4
      have u7 := ub7 (by omega)
      rw [if_pos at_, if_neg (show ¬ nI 1 = 0 by decide)] at st
      obtain ⟨m3, d1, d2, d3⟩ := must_ok hL hT ub4 U hM2.1 hM2.2.2.1 c16 (a := 1) (by decide)
      have e16 : m3 0 16 = 0 := by rw [d2.2 16 (by decide) (by decide) (by decide) (by decide)]; exact c16
      have e20 : m3 0 20 = nI j := by rw [d2.2 20 (by decide) (by decide) (by decide) (by decide)]; exact c20
      have e21 : m3 0 21 = nI (B 0 6 + 1) := by rw [d2.2 21 (by decide) (by decide) (by decide) (by decide)]; exact c21
      have e9 : ∀ q, q < 42 → m3 9 q = nI (mtA B k 3 q) ∧ mtA B k 3 q ≤ 4 := fun q hq => ⟨by rw [d2.1 9 (by decide)]; exact c9 q hq, ia_h hM hq⟩
      rw [d1, bd_some] at st
      obtain ⟨y3, r1, r2, r3, r5, r4⟩ := nxb hL hT t4 q2
      obtain ⟨g1, g2, g3⟩ := kx_f r2
      have hi3 := r5 _ hi2
      have fx3 : FXR y y3 := fx_tr fx2 r3
      rw [if_pos at_, if_neg (show ¬ nI 1 = 0 by decide), r1, g1]
      -- what is left when the cell is wrong
      have bad : ∀ (r : Option (Int32 × St)) (y' : St) (s : Nat), s ≤ 120 → (∃ v m', X4_readCell (mst m3 U) = some (v, mst m' U) ∧ CB m3 m' s) → r = some (0, y') → FXR y y' → y' 23 3 = nI s → RES r (X4_readItem_L37 (nI k) 1 (mst m U)) y m U T L p B j A := by
        intro r y' s hs hc hr hf hy
        obtain ⟨v, m', z1, z2, z3, z4, z5⟩ := hc
        refine ⟨y', ups (ups (ups m' 8 (2 * j) (nI k)) 8 (2 * j + 1) v) 0 20 (nI (j + 1)), hf, fm_tr cf (fm_tr (fm_ft d2) (fm_tr z2 (item_f _ _ _ _))), Or.inr ⟨s, hs, hr, st _ ?_, hy, ?_, ?_⟩⟩
        · rw [z1, bd_some]
          dsimp only
          rw [item_n U (show j < 120 by omega) (by rw [z5]; exact e20), bd_some]
        · rw [ups_s, if_neg (by decide), ups_o (by decide), ups_o (by decide)]
          exact z3
        · rw [ups_s, if_neg (by decide), ups_o (by decide), ups_o (by decide)]
          exact z4
      by_cases col : tkK T L (tkE T L (tkE T L p)) = 2 ∧ tkV T L (tkE T L (tkE T L p)) ≤ 6
      · obtain ⟨vb1, vb2, vb3, vb4, vb5, vb6, vb7⟩ := tk_le T r4
        have v7 := vb7 (by omega)
        obtain ⟨y4, x1, x2, x3, x5, x4⟩ := nxb hL hT r4 r2
        obtain ⟨i1, i2, i3⟩ := kx_f x2
        have hi4 := x5 _ hi3
        have fx4 : FXR y y4 := fx_tr fx3 x3
        have ib := ic_b (c := tkV T L (tkE T L (tkE T L p))) (r := tkV T L (tkE T L (tkE T L (tkE T L p)))) col.2 (by have := (tk_le T x4).2.2.2.2.1; omega)
        rw [if_pos (show nI (tkK T L (tkE T L (tkE T L p))) = 2 from congrArg nI col.1), g3 col.1, if_neg (show ¬ X3_isColumn (nI (tkV T L (tkE T L (tkE T L p)))) = 0 from wi_ok (m := 6) (by decide) col.2), x1, i1]
        by_cases row : tkK T L (tkE T L (tkE T L (tkE T L p))) = 2 ∧ tkV T L (tkE T L (tkE T L (tkE T L p))) ≤ 5 ∧ mtA B k 3 (tkV T L (tkE T L (tkE T L p)) * 6 + tkV T L (tkE T L (tkE T L (tkE T L p)))) < 4
        · obtain ⟨w1', w2', w3', w4', w5', w6', w7'⟩ := tk_le T x4
          have w7 := w7' (by omega)
          obtain ⟨m4, j1, j2, j3, j4, j5, j6, j7, j8⟩ := rc_ok hL hT r4 U d3 e16 col e9 row
          have hq : tkV T L (tkE T L (tkE T L p)) * 6 + tkV T L (tkE T L (tkE T L (tkE T L p))) < 42 := by omega
          obtain ⟨S5, o1, o2⟩ := is_putc hi4 hq row.2.2 (c := B 0 6) (by omega)
          have hi5 := o2 y4
          obtain ⟨y6, p1, p2, p3, p5, p4⟩ := nxb hL hT x4 (kx_s (S := S5) x2)
          have hi6 := p5 _ hi5
          have hv : vdF k (10 * tkV T L (tkE T L (tkE T L p)) + tkV T L (tkE T L (tkE T L (tkE T L p)))) B := Or.inr ⟨hk7, full, Or.inr ⟨tkV T L (tkE T L (tkE T L p)), tkV T L (tkE T L (tkE T L (tkE T L p))), by omega, by omega, rfl, row.2.2⟩⟩
          have isf : isF k (10 * tkV T L (tkE T L (tkE T L p)) + tkV T L (tkE T L (tkE T L (tkE T L p)))) B = putA (mtA B k) (B 0 6) (tkV T L (tkE T L (tkE T L p)) * 6 + tkV T L (tkE T L (tkE T L (tkE T L p)))) := by
            unfold isF
            rw [if_neg (by omega), if_pos (by omega), show (10 * tkV T L (tkE T L (tkE T L p)) + tkV T L (tkE T L (tkE T L (tkE T L p)))) / 10 * 6 + (10 * tkV T L (tkE T L (tkE T L p)) + tkV T L (tkE T L (tkE T L (tkE T L p)))) % 10 = tkV T L (tkE T L (tkE T L p)) * 6 + tkV T L (tkE T L (tkE T L (tkE T L p))) by omega]
          rw [if_pos (show nI (tkK T L (tkE T L (tkE T L (tkE T L p)))) = 2 from congrArg nI row.1), i3 row.1, if_neg (show ¬ X3_isCell (nI (tkV T L (tkE T L (tkE T L p)))) (nI (tkV T L (tkE T L (tkE T L (tkE T L p))))) = 0 from fun z => absurd row.2.1 (ib.mp z)), X3_cellOf_n, is_room hi4 hM hq, bd_some, if_pos row.2.2, if_neg (show ¬ nI 1 = 0 by decide), o1, bd_some, bd_some, p1]
          refine ⟨y6, ups (ups (ups m4 8 (2 * j) (nI k)) 8 (2 * j + 1) (nI (10 * tkV T L (tkE T L (tkE T L p)) + tkV T L (tkE T L (tkE T L (tkE T L p)))))) 0 20 (nI (j + 1)), fx_tr fx4 (fx_tr (fx_s _ _) p3), fm_tr cf (fm_tr (fm_ft d2) (fm_tr j2 (item_f _ _ _ _))), Or.inl ⟨k, _, tkE T L (tkE T L (tkE T L (tkE T L p))), hv, rfl, st _ ?_, p2, ?_, ?_, by omega, p4⟩⟩
          · rw [j1, bd_some]
            dsimp only
            rw [item_n U (show j < 120 by omega) (by rw [j5]; exact e20), bd_some]
          · rw [isf]
            exact hi6
          · refine pm_item j3 j4 ?_ ?_ hv (W := W) ?_ w2 w3
            · rw [j6, isf]
              exact e21
            · intro q hq2
              rw [j7 q hq2, isf, putA_3]
              by_cases e : q = tkV T L (tkE T L (tkE T L p)) * 6 + tkV T L (tkE T L (tkE T L (tkE T L p)))
              · rw [if_pos e, if_pos e, e]
              · rw [if_neg e, if_neg e]
            · intro i hi
              rw [j8, d2.1 8 (by decide)]
              exact c8 i hi
        · have hc := rc_row hL hT r4 U d3 e16 col e9 row
          by_cases e : tkK T L (tkE T L (tkE T L (tkE T L p))) = 2
          · rw [if_pos (show nI (tkK T L (tkE T L (tkE T L (tkE T L p)))) = 2 from congrArg nI e), i3 e]
            by_cases e1 : tkV T L (tkE T L (tkE T L (tkE T L p))) ≤ 5
            · have hq : tkV T L (tkE T L (tkE T L p)) * 6 + tkV T L (tkE T L (tkE T L (tkE T L p))) < 42 := by omega
              rw [if_neg (show ¬ X3_isCell (nI (tkV T L (tkE T L (tkE T L p)))) (nI (tkV T L (tkE T L (tkE T L (tkE T L p))))) = 0 from fun z => absurd e1 (ib.mp z)), X3_cellOf_n, is_room hi4 hM hq, bd_some, if_neg (fun z => row ⟨e, e1, z⟩), if_pos (show nI 0 = 0 from rfl)]
              exact bad _ y4 _ (by have := (tk_le T x4).2.1; omega) hc rfl fx4 i2
            · rw [if_pos (show X3_isCell (nI (tkV T L (tkE T L (tkE T L p)))) (nI (tkV T L (tkE T L (tkE T L (tkE T L p))))) = 0 from ib.mpr e1)]
              exact bad _ y4 _ (by have := (tk_le T x4).2.1; omega) hc rfl fx4 i2
          · rw [if_neg (show ¬ nI (tkK T L (tkE T L (tkE T L (tkE T L p)))) = 2 from eqN (b := 2) e (by have := (tk_le T x4).2.2.2.2.2.1; omega) (by decide))]
            exact bad _ y4 _ (by have := (tk_le T x4).2.1; omega) hc rfl fx4 i2
      · have hc := rc_col hL hT r4 U d3 e16 col
        by_cases e : tkK T L (tkE T L (tkE T L p)) = 2
        · have cw : X3_isColumn (nI (tkV T L (tkE T L (tkE T L p)))) = 0 := by
            have l := (tk_le T r4).2.2.2.2.1
            unfold X3_isColumn X3_within
            rw [if_neg (nI_pos (by omega)), if_pos (show (6 : Int32) < nI (tkV T L (tkE T L (tkE T L p))) from ltY (a := 6) (by omega) (by omega))]
          rw [if_pos (show nI (tkK T L (tkE T L (tkE T L p))) = 2 from congrArg nI e), g3 e, if_pos cw]
          exact bad _ y3 _ (by have := (tk_le T r4).2.1; omega) hc rfl fx3 g2
        · rw [if_neg (show ¬ nI (tkK T L (tkE T L (tkE T L p))) = 2 from eqN (b := 2) e (by have := (tk_le T r4).2.2.2.2.2.1; omega) (by decide))]
          exact bad _ y3 _ (by have := (tk_le T r4).2.1; omega) hc rfl fx3 g2
    · have hv : vdF k 100 B := Or.inr ⟨hk7, full, Or.inl rfl⟩
      have isf : isF k 100 B = mtA B k := by
        unfold isF
        rw [if_neg (by omega), if_neg (by decide)]
      rw [if_neg at_, if_pos (show nI 0 = 0 from rfl)] at st
      rw [if_neg at_, if_pos (show nI 0 = 0 from rfl)]
      refine ⟨y2, ups (ups (ups m2 8 (2 * j) (nI k)) 8 (2 * j + 1) (nI 100)) 0 20 (nI (j + 1)), fx2, fm_tr cf (item_f _ _ _ _), Or.inl ⟨k, 100, tkE T L p, hv, rfl, st _ ?_, q2, ?_, ?_, by omega, t4⟩⟩
      · rw [show (100 : Int32) = nI 100 from rfl, item_n U (show j < 120 by omega) c20, bd_some]
      · rw [isf]
        exact hi2
      · refine pm_item hM2 c16 ?_ ?_ hv (W := W) c8 w2 w3
        · rw [isf]
          exact c21
        · rw [isf]
          exact c9
  · rw [if_neg (show ¬ nI (B 0 6) < 24 from ltN (b := 24) full (by omega)), if_pos (show 24 ≤ B 0 6 by omega)]
    refine ⟨y, ups (ups (ups (ups (ups m 0 16 1) 0 21 (nI (B 0 6 + 1))) 8 (2 * j) (nI k)) 8 (2 * j + 1) 100) 0 20 (nI (j + 1)), fx_id y, fm_tr (fm_tr (fm_u0 _ _ (by decide)) (fm_u0 _ _ (by decide))) (item_f _ _ _ _), Or.inr ⟨tkS T L p, by omega, rfl, ?_, f2, ?_, ?_⟩⟩
    · unfold X4_readItem_L37
      rw [must_bad U (Or.inr ⟨h16, rfl⟩), bd_some, show mst (ups m 0 16 1) U 0 21 = nI (B 0 6) from h21, show nI (B 0 6) + 1 = nI (B 0 6 + 1) from (nI_succ _).symm, mst_u _ _ _ (by decide) (by decide), bd_some, if_neg (show ¬ mst (ups (ups m 0 16 1) 0 21 (nI (B 0 6 + 1))) U 0 16 = 0 from (by decide : ¬ (1 : Int32) = 0)), item_n U (show j < 120 by omega) (by rw [ups_s, if_neg (by decide), ups_s, if_neg (by decide)]; exact h20), bd_some]
    · rw [ups_s, if_neg (by decide), ups_o (by decide), ups_o (by decide), ups_s, if_neg (by decide), ups_s, if_pos rfl]
    · rw [ups_s, if_neg (by decide), ups_o (by decide), ups_o (by decide), ups_s, if_neg (by decide), ups_s, if_neg (by decide)]
      exact hk.2.1
