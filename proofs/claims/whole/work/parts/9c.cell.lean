/-! PURE 52: items, read on both sides -/
theorem nxb {T : Nat → Nat} {L p : Nat} (hL : L ≤ 120) (hT : ∀ i, i < L → T i < 256) (hp : p ≤ L) {y : St} (hk : KX (blk y 23) T L p) : ∃ y2, (∀ F : St → Option (Int32 × St), ((X2_next (blk y 23)).bind fun S => (some (put y 23 2 S)).bind F) = F y2) ∧ KX (blk y2 23) T L (tkE T L p) ∧ FXR y y2 ∧ (∀ A, Is y 15 A → Is y2 15 A) ∧ tkE T L p ≤ L := by
  obtain ⟨S, s1, s2, s3, s4⟩ := nx_y hL hT hp hk
  exact ⟨put y 23 2 S, fun F => by rw [s1, bd_some, bd_some], s2, s3, fun A h => is_o2 h, s4⟩
theorem kx_u {y : St} {T : Nat → Nat} {L p k j : Nat} {v : Int32} (h : KX (blk y 23) T L p) (h3 : k ≠ 23) (h4 : k ≠ 24) : KX (blk (ups y k j v) 23) T L p := by
  have e0 : blk (ups y k j v) 23 0 = blk y 23 0 := ups_o (by omega)
  have e1 : blk (ups y k j v) 23 1 = blk y 23 1 := ups_o (by omega)
  unfold KX BX
  rw [e0, e1]
  exact h
theorem fx_u (y : St) {k : Nat} (j : Nat) (v : Int32) (h : 15 ≤ k ∧ k < 22) : FXR y (ups y k j v) := fun i hi _ => ups_o (by omega)
/-- a setting -/
theorem it_set {T : Nat → Nat} {L p k j : Nat} {A B : AS} {y m : St} {U : TS} (hL : L ≤ 120) (hT : ∀ i, i < L → T i < 256) (hp : p ≤ L) (hk3 : k < 3) (hj : j < 100) (hK : tkK T L p ≠ 0) (hx : KX (blk y 23) T L p) (hi : Is y 15 B) (hm : PM m T L p B j A) :
    RES (X3_readSetting 15 (nI k) y) (X4_readItem_L99 (nI k) 1 (mst m U)) y m U T L p B j A := by
  obtain ⟨⟨hk, h16⟩, ⟨h20, h21, h9⟩, W, w1, w2, w3⟩ := hm
  obtain ⟨t1, t2, t3, t4, t5, t6, t7⟩ := tk_le T hp
  have tpe := t7 hK
  obtain ⟨y1, s1, s2, s3, s5, s4⟩ := nxb hL hT hp hx
  obtain ⟨m1, a1, a2, a3⟩ := must_ok hL hT t4 U hk.1 hk.2.2.1 h16 (a := 1) (by decide)
  obtain ⟨ub1, ub2, ub3, ub4, ub5, ub6, ub7⟩ := tk_le T t4
  have hi1 : Is y1 15 B := s5 B hi
  obtain ⟨f1, f2, f3⟩ := kx_f s2
  have b16 : m1 0 16 = 0 := by rw [a2.2 16 (by decide) (by decide) (by decide) (by decide)]; exact h16
  have b20 : m1 0 20 = nI j := by rw [a2.2 20 (by decide) (by decide) (by decide) (by decide)]; exact h20
  have b21 : m1 0 21 = nI (B 0 6) := by rw [a2.2 21 (by decide) (by decide) (by decide) (by decide)]; exact h21
  have bnd : ∃ lo hi : Nat, lo ≤ 60 ∧ hi ≤ 60 ∧ (∀ v, (lo ≤ v ∧ v ≤ hi) → vdF (10 + k) v B) ∧ (∀ x, X3_isSetting (nI k) x = some (X3_within x (nI lo) (nI hi))) ∧ X4_readItem_L99 (nI k) 1 (mst m U) = (X4_number (nI lo) (nI hi) (mst m1 U)).bind fun (r10, S11) => (X4_item (nI (10 + k)) r10 S11).bind fun S12 => some S12 := by
    have cs : ∀ (lo hi : Nat), rdc 3 (stC 4) (nI k) = some (nI lo) → rdc 3 (stC 5) (nI k) = some (nI hi) → ∀ x, X3_isSetting (nI k) x = some (X3_within x (nI lo) (nI hi)) := by
      intro lo hi q1 q2 x
      unfold X3_isSetting
      rw [q1, bd_some, q2, bd_some]
    unfold X4_readItem_L99 X4_readItem_L113 X4_readItem_L133
    rw [a1, bd_some]
    rcases (show k = 0 ∨ k = 1 ∨ k = 2 by omega) with rfl | rfl | rfl
    · exact ⟨0, 60, by decide, by decide, fun v hv => Or.inl ⟨by decide, Or.inl ⟨rfl, hv.2⟩⟩, cs 0 60 (by decide +kernel) (by decide +kernel), rfl⟩
    · exact ⟨1, 6, by decide, by decide, fun v hv => Or.inl ⟨by decide, Or.inr (Or.inl ⟨rfl, hv.1, hv.2⟩)⟩, cs 1 6 (by decide +kernel) (by decide +kernel), rfl⟩
    · exact ⟨0, 3, by decide, by decide, fun v hv => Or.inl ⟨by decide, Or.inr (Or.inr ⟨rfl, hv.2⟩)⟩, cs 0 3 (by decide +kernel) (by decide +kernel), rfl⟩
  obtain ⟨lo, hi', l1, l2, l3, l4, l5⟩ := bnd
  have nn := num_n (lo := lo) (hi := hi') hL hT t4 (by omega) (by omega) U a3 b16
  have bad : ∀ r, (¬ (tkK T L (tkE T L p) = 2 ∧ lo ≤ tkV T L (tkE T L p) ∧ tkV T L (tkE T L p) ≤ hi')) → r = some ((0 : Int32), y1) → RES r (X4_readItem_L99 (nI k) 1 (mst m U)) y m U T L p B j A := by
    intro r hn hr
    rw [if_neg hn] at nn
    refine ⟨y1, ups (ups (ups (ups m1 0 16 1) 8 (2 * j) (nI (10 + k))) 8 (2 * j + 1) (nI (tkV T L (tkE T L p)))) 0 20 (nI (j + 1)), s3, fm_tr (fm_tr (fm_ft a2) (fm_u0 _ _ (by decide))) (item_f _ _ _ _), Or.inr ⟨tkS T L (tkE T L p), by omega, hr, ?_, f2, ?_, ?_⟩⟩
    · rw [l5, nn, bd_some]
      dsimp only
      rw [item_n U (show j < 120 by omega) (by rw [ups_s, if_neg (by decide)]; exact b20), bd_some]
    · rw [ups_s, if_neg (by decide), ups_o (by decide), ups_o (by decide), ups_s, if_pos rfl]
    · rw [ups_s, if_neg (by decide), ups_o (by decide), ups_o (by decide), ups_s, if_neg (by decide)]
      exact a3.2.1
  unfold X3_readSetting
  rw [s1, f1]
  by_cases e : tkK T L (tkE T L p) = 2
  · rw [if_pos (show nI (tkK T L (tkE T L p)) = 2 from congrArg nI e), f3 e, l4, bd_some]
    by_cases e1 : lo ≤ tkV T L (tkE T L p) ∧ tkV T L (tkE T L p) ≤ hi'
    · have wi : ¬ X3_within (nI (tkV T L (tkE T L p))) (nI lo) (nI hi') = 0 := by
        unfold X3_within
        rw [if_neg (ltN (by omega) (by omega)), if_neg (ltN (by omega) (by omega))]
        decide
      have g := nn
      rw [if_pos (show tkK T L (tkE T L p) = 2 ∧ lo ≤ tkV T L (tkE T L p) ∧ tkV T L (tkE T L p) ≤ hi' from ⟨e, e1⟩)] at g
      obtain ⟨m2, g1, g2, g3⟩ := g
      have hv := l3 _ e1
      have hx2 : KX (blk (ups y1 (15 + 5) k (nI (tkV T L (tkE T L p)))) 23) T L (tkE T L p) := kx_u s2 (by decide) (by decide)
      obtain ⟨y2, q1, q2, q3, q5, q4⟩ := nxb hL hT t4 hx2
      have isf : isF (10 + k) (tkV T L (tkE T L p)) B = u2 B 5 k (tkV T L (tkE T L p)) := by
        unfold isF
        rw [if_pos (by omega), show 10 + k - 10 = k by omega]
      rw [if_neg wi, wr_i hk3 (by decide), bd_some, q1]
      refine ⟨y2, _, fx_tr s3 (fx_tr (fx_u _ _ _ ⟨by decide, by decide⟩) q3), fm_tr (fm_tr (fm_ft a2) (fm_ft g2)) (item_f m2 j (nI (10 + k)) (nI (tkV T L (tkE T L p)))), Or.inl ⟨10 + k, tkV T L (tkE T L p), tkE T L (tkE T L p), hv, rfl, ?_, q2, ?_, ?_, ?_, q4⟩⟩
      · rw [l5, g1, bd_some]
        dsimp only
        rw [item_n U (show j < 120 by omega) (by rw [g2.2 20 (by decide) (by decide) (by decide) (by decide)]; exact b20), bd_some]
      · rw [isf]
        exact q5 _ (is_ups hi1 k _ (by decide))
      · refine pm_item g3 ?_ ?_ ?_ hv (W := W) ?_ w2 w3
        · rw [g2.2 16 (by decide) (by decide) (by decide) (by decide)]
          exact b16
        · rw [g2.2 21 (by decide) (by decide) (by decide) (by decide), isf]
          exact b21
        · intro q hq
          rw [g2.1 9 (by decide), a2.1 9 (by decide), isf]
          exact h9 q hq
        · intro i hi
          rw [g2.1 8 (by decide), a2.1 8 (by decide)]
          exact w1 i hi
      · omega
    · have wi : X3_within (nI (tkV T L (tkE T L p))) (nI lo) (nI hi') = 0 := by
        unfold X3_within
        by_cases e2 : lo ≤ tkV T L (tkE T L p)
        · rw [if_neg (ltN (by omega) (by omega)), if_pos (ltY (by omega) (by omega))]
        · rw [if_pos (ltY (by omega) (by omega))]
      rw [if_pos wi]
      exact bad _ (fun z => e1 z.2) rfl
  · rw [if_neg (show ¬ nI (tkK T L (tkE T L p)) = 2 from eqN (b := 2) e (by omega) (by decide))]
    exact bad _ (fun z => e z.1) rfl
/-! a cell -/
theorem l54_bad (U : TS) {m : St} (h16 : m 0 16 = 1) (a b : Int32) : X4_readCell_L54 a b (mst m U) = some ((10 * a) + b, mst (ups m 0 16 1) U) := by
  unfold X4_readCell_L54 X4_readCell_L55
  rw [must_bad U (Or.inl h16), bd_some, if_pos (show (0 : Int32) = 0 from rfl)]
theorem l54_bad0 (U : TS) {m : St} (h16 : m 0 16 = 0) (a b : Int32) : X4_readCell_L54 a b (mst m U) = some ((10 * a) + b, mst (ups m 0 16 1) U) := by
  unfold X4_readCell_L54 X4_readCell_L55
  rw [must_bad U (Or.inr ⟨h16, rfl⟩), bd_some, if_pos (show (0 : Int32) = 0 from rfl)]
def CB (m m' : St) (s : Nat) : Prop := FMR m m' ∧ m' 0 16 = 1 ∧ m' 0 12 = nI s ∧ m' 0 20 = m 0 20
theorem rc_col {T : Nat → Nat} {L p : Nat} (hL : L ≤ 120) (hT : ∀ i, i < L → T i < 256) (hp : p ≤ L) (U : TS) {m : St} (hk : KM m T L p) (h16 : m 0 16 = 0) (hn : ¬ (tkK T L p = 2 ∧ tkV T L p ≤ 6)) : ∃ v m', X4_readCell (mst m U) = some (v, mst m' U) ∧ CB m m' (tkS T L p) := by
  have nn := num_n (lo := 0) (hi := 6) hL hT hp (by decide) (by decide) U hk h16
  rw [if_neg (fun z => hn ⟨z.1, z.2.2⟩)] at nn
  have u16 : ups m 0 16 1 0 16 = 1 := by rw [ups_s, if_pos rfl]
  refine ⟨10 * nI (tkV T L p) + mst (ups m 0 16 1) U 0 15, ups (ups m 0 16 1) 0 16 1, ?_, fm_tr (fm_u0 _ _ (by decide)) (fm_u0 _ _ (by decide)), ?_, ?_, ?_⟩
  · unfold X4_readCell
    rw [show (0 : Int32) = nI 0 from rfl, show (6 : Int32) = nI 6 from rfl, nn, bd_some]
    dsimp only
    rw [if_neg (show ¬ mst (ups m 0 16 1) U 0 16 = nI 0 from by rw [show mst (ups m 0 16 1) U 0 16 = 1 from u16]; decide), l54_bad U u16]
  · rw [ups_s, if_pos rfl]
  · rw [ups_s, if_neg (by decide), ups_s, if_neg (by decide)]
    exact hk.2.1
  · rw [ups_s, if_neg (by decide), ups_s, if_neg (by decide)]
theorem ic_b {c r : Nat} (hc : c ≤ 6) (hr : r < 2147483648) : (X4_isCell (nI c) (nI r) = 0) = ¬ r ≤ 5 := by
  unfold X4_isCell
  rw [if_neg (show ¬ X4_isColumn (nI c) = 0 from wi_ok (m := 6) (by decide) hc)]
  unfold X4_within
  rw [if_neg (nI_pos (by omega))]
  by_cases e : r ≤ 5
  · rw [if_neg (show ¬ (5 : Int32) < nI r from ltN (a := 5) (by omega) (by decide)), if_neg (by decide)]
    exact propext ⟨fun z => absurd z (by decide), fun z => absurd e z⟩
  · rw [if_pos (show (5 : Int32) < nI r from ltY (a := 5) (by omega) (by omega)), if_pos rfl]
    exact propext ⟨fun _ => e, fun _ => rfl⟩
theorem rc_row {T : Nat → Nat} {L p : Nat} (hL : L ≤ 120) (hT : ∀ i, i < L → T i < 256) (hp : p ≤ L) (U : TS) {m : St} (hk : KM m T L p) (h16 : m 0 16 = 0) (hn : tkK T L p = 2 ∧ tkV T L p ≤ 6) {H : Nat → Nat} (h9 : ∀ q, q < 42 → m 9 q = nI (H q) ∧ H q ≤ 4) (hb : ¬ (tkK T L (tkE T L p) = 2 ∧ tkV T L (tkE T L p) ≤ 5 ∧ H (tkV T L p * 6 + tkV T L (tkE T L p)) < 4)) : ∃ v m', X4_readCell (mst m U) = some (v, mst m' U) ∧ CB m m' (tkS T L (tkE T L p)) := by
  have nn := num_n (lo := 0) (hi := 6) hL hT hp (by decide) (by decide) U hk h16
  rw [if_pos (show tkK T L p = 2 ∧ 0 ≤ tkV T L p ∧ tkV T L p ≤ 6 from ⟨hn.1, Nat.zero_le _, hn.2⟩)] at nn
  obtain ⟨m1, a1, a2, a3⟩ := nn
  have b16 : m1 0 16 = 0 := by rw [a2.2 16 (by decide) (by decide) (by decide) (by decide)]; exact h16
  obtain ⟨t1, t2, t3, t4, t5, t6, t7⟩ := tk_le T hp
  obtain ⟨ub1, ub2, ub3, ub4, ub5, ub6, ub7⟩ := tk_le T t4
  have l := fun a b => l54_bad0 U b16 a b
  refine ⟨10 * nI (tkV T L p) + nI (tkV T L (tkE T L p)), ups m1 0 16 1, ?_, fm_tr (fm_ft a2) (fm_u0 _ _ (by decide)), ?_, ?_, ?_⟩
  · unfold X4_readCell
    rw [show X4_number 0 6 (mst m U) = some (nI (tkV T L p), mst m1 U) from a1, bd_some]
    dsimp only
    rw [if_pos (show mst m1 U 0 16 = 0 from b16), show mst m1 U 0 15 = nI (tkV T L (tkE T L p)) from a3.2.2.2.2, show mst m1 U 0 14 = nI (if tkK T L (tkE T L p) = 4 then 3 else tkK T L (tkE T L p)) from a3.2.2.2.1, l]
    by_cases e : tkK T L (tkE T L p) = 2
    · rw [if_neg (show ¬ tkK T L (tkE T L p) = 4 by omega), if_pos (show nI (tkK T L (tkE T L p)) = 2 from congrArg nI e)]
      have ib := ic_b (c := tkV T L p) (r := tkV T L (tkE T L p)) hn.2 (by omega)
      by_cases e1 : tkV T L (tkE T L p) ≤ 5
      · have hq : tkV T L p * 6 + tkV T L (tkE T L p) < 42 := by omega
        have e2 : ¬ H (tkV T L p * 6 + tkV T L (tkE T L p)) < 4 := fun z => hb ⟨e, e1, z⟩
        obtain ⟨h91, h92⟩ := h9 _ hq
        rw [if_neg (show ¬ X4_isCell (nI (tkV T L p)) (nI (tkV T L (tkE T L p))) = 0 by rw [ib]; exact fun z => z e1), X4_cellOf_n, rd_i hq (by decide), bd_some, mst_k _ _ (by decide), a2.1 9 (by decide), h91, if_pos (show (4 : Int32) ≤ nI (H (tkV T L p * 6 + tkV T L (tkE T L p))) from leY (a := 4) (by omega) (by omega))]
      · rw [if_pos (show X4_isCell (nI (tkV T L p)) (nI (tkV T L (tkE T L p))) = 0 by rw [ib]; exact e1)]
    · rw [if_neg (show ¬ nI (if tkK T L (tkE T L p) = 4 then 3 else tkK T L (tkE T L p)) = 2 from eqN (b := 2) (by split <;> omega) (by split <;> omega) (by decide))]
  · rw [ups_s, if_pos rfl]
  · rw [ups_s, if_neg (by decide)]
    exact a3.2.1
  · rw [ups_s, if_neg (by decide), a2.2 20 (by decide) (by decide) (by decide) (by decide)]
theorem rc_ok {T : Nat → Nat} {L p : Nat} (hL : L ≤ 120) (hT : ∀ i, i < L → T i < 256) (hp : p ≤ L) (U : TS) {m : St} (hk : KM m T L p) (h16 : m 0 16 = 0) (hn : tkK T L p = 2 ∧ tkV T L p ≤ 6) {H : Nat → Nat} (h9 : ∀ q, q < 42 → m 9 q = nI (H q) ∧ H q ≤ 4) (hb : tkK T L (tkE T L p) = 2 ∧ tkV T L (tkE T L p) ≤ 5 ∧ H (tkV T L p * 6 + tkV T L (tkE T L p)) < 4) : ∃ m', X4_readCell (mst m U) = some (nI (10 * tkV T L p + tkV T L (tkE T L p)), mst m' U) ∧ FMR m m' ∧ KM m' T L (tkE T L (tkE T L p)) ∧ m' 0 16 = 0 ∧ m' 0 20 = m 0 20 ∧ m' 0 21 = m 0 21 ∧ (∀ q, q < 42 → m' 9 q = nI (if q = tkV T L p * 6 + tkV T L (tkE T L p) then H q + 1 else H q)) ∧ m' 8 = m 8 := by
  have nn := num_n (lo := 0) (hi := 6) hL hT hp (by decide) (by decide) U hk h16
  rw [if_pos (show tkK T L p = 2 ∧ 0 ≤ tkV T L p ∧ tkV T L p ≤ 6 from ⟨hn.1, Nat.zero_le _, hn.2⟩)] at nn
  obtain ⟨m1, a1, a2, a3⟩ := nn
  have b16 : m1 0 16 = 0 := by rw [a2.2 16 (by decide) (by decide) (by decide) (by decide)]; exact h16
  obtain ⟨t1, t2, t3, t4, t5, t6, t7⟩ := tk_le T hp
  obtain ⟨ub1, ub2, ub3, ub4, ub5, ub6, ub7⟩ := tk_le T t4
  obtain ⟨m2, c1, c2, c3⟩ := must_ok hL hT ub4 U a3.1 a3.2.2.1 b16 (a := 1) (by decide)
  have hq : tkV T L p * 6 + tkV T L (tkE T L p) < 42 := by omega
  obtain ⟨h91, h92⟩ := h9 _ hq
  have ib := ic_b (c := tkV T L p) (r := tkV T L (tkE T L p)) hn.2 (by omega)
  have m29 : ∀ q, q < 42 → m2 9 q = nI (H q) := fun q hq => by rw [c2.1 9 (by decide), a2.1 9 (by decide)]; exact (h9 q hq).1
  refine ⟨ups m2 9 (tkV T L p * 6 + tkV T L (tkE T L p)) (nI (H (tkV T L p * 6 + tkV T L (tkE T L p)) + 1)), ?_, fm_tr (fm_tr (fm_ft a2) (fm_ft c2)) (fm_u9 _ _ _), km_uk c3 _ (by decide) (by decide), ?_, ?_, ?_, fun q hq => ?_, ?_⟩
  · unfold X4_readCell
    rw [show X4_number 0 6 (mst m U) = some (nI (tkV T L p), mst m1 U) from a1, bd_some]
    dsimp only
    rw [if_pos (show mst m1 U 0 16 = 0 from b16), show mst m1 U 0 15 = nI (tkV T L (tkE T L p)) from a3.2.2.2.2, show mst m1 U 0 14 = nI (if tkK T L (tkE T L p) = 4 then 3 else tkK T L (tkE T L p)) from a3.2.2.2.1, if_neg (show ¬ tkK T L (tkE T L p) = 4 by omega), if_pos (show nI (tkK T L (tkE T L p)) = 2 from congrArg nI hb.1), if_neg (show ¬ X4_isCell (nI (tkV T L p)) (nI (tkV T L (tkE T L p))) = 0 by rw [ib]; exact fun z => z hb.2.1), X4_cellOf_n, rd_i hq (by decide), bd_some, mst_k _ _ (by decide), a2.1 9 (by decide), h91, if_neg (show ¬ (4 : Int32) ≤ nI (H (tkV T L p * 6 + tkV T L (tkE T L p))) from leN (a := 4) (by omega) (by decide))]
    unfold X4_readCell_L55
    rw [c1, bd_some, if_neg (show ¬ (1 : Int32) = 0 by decide), X4_cellOf_n, rd_i hq (by decide), bd_some, mst_k _ _ (by decide), m29 _ hq, show nI (H (tkV T L p * 6 + tkV T L (tkE T L p))) + 1 = nI (H (tkV T L p * 6 + tkV T L (tkE T L p)) + 1) from (nI_succ _).symm, wr_i hq (by decide), bd_some, mst_uk _ _ _ (by decide), show (10 : Int32) = nI 10 from rfl, pk_mul, nI_add]
  · rw [ups_o (by decide), c2.2 16 (by decide) (by decide) (by decide) (by decide)]
    exact b16
  · rw [ups_o (by decide), c2.2 20 (by decide) (by decide) (by decide) (by decide), a2.2 20 (by decide) (by decide) (by decide) (by decide)]
  · rw [ups_o (by decide), c2.2 21 (by decide) (by decide) (by decide) (by decide), a2.2 21 (by decide) (by decide) (by decide) (by decide)]
  · rw [ups_s]
    by_cases e : q = tkV T L p * 6 + tkV T L (tkE T L p)
    · rw [if_pos e, if_pos e, e]
    · rw [if_neg e, if_neg e]
      exact m29 q hq
  · rw [ups_o (by decide), c2.1 8 (by decide), a2.1 8 (by decide)]
