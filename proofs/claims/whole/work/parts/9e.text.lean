/-! PURE 54: texts -/
theorem res_bl {r3 : Option (Int32 × St)} {r4 : Option St} {y m : St} {U : TS} {T : Nat → Nat} {L p : Nat} {B : AS} {j : Nat} {A : AS} (h : RES r3 r4 y m U T L p B j A) : RES (r3.bind fun (r14, S15) => (bl r14).bind fun v16 => some (r14, S15)) r4 y m U T L p B j A := by
  obtain ⟨y', m', h1, h2, h3⟩ := h
  refine ⟨y', m', h1, h2, ?_⟩
  rcases h3 with ⟨what, v, p', a1, a2, a3⟩ | ⟨s, a1, a2, a3⟩
  · refine Or.inl ⟨what, v, p', a1, ?_, a3⟩
    rw [a2]
    rfl
  · refine Or.inr ⟨s, a1, ?_, a3⟩
    rw [a2]
    rfl
theorem it_all {T : Nat → Nat} {L p j : Nat} {A B : AS} {y m : St} {U : TS} (hL : L ≤ 120) (hT : ∀ i, i < L → T i < 256) (hp : p ≤ L) (hj : j < 100) (hB : IA B) (hx : KX (blk y 23) T L p) (hi : Is y 15 B) (hm : PM m T L p B j A) :
    RES (X3_readItem 15 y) (X4_readItem (mst m U)) y m U T L p B j A := by
  have hk := hm.1.1
  have h16 := hm.1.2
  have h20 := hm.2.1.1
  have h21 := hm.2.1.2.1
  have hn := ia_n hB
  have t2 := (tk_le T hp).2.1
  have a6 : alM 6 = 7 := rfl
  have a7 : alM 7 = 3 := rfl
  have s6 : ∀ i, stb 6 i = i := fun i => rfl
  have s7 : ∀ i, stb 7 i = 7 + i := fun i => rfl
  unfold X3_readItem X4_readItem
  by_cases cK : ∃ k, k < 7 ∧ iwF T L p k = true
  · obtain ⟨k, k7, kw⟩ := cK
    have K1 : tkK T L p ≠ 0 := by rw [iw_K kw]; decide
    have z := res_bl (it_coin (U := U) hL hT hp k7 hj K1 hB hx hi hm)
    have z7 : X4_which 7 (mst m U) = some (-1) := wh_no (Or.inr rfl) hL hp U hk (fun i hi => by
      rw [s7, ← Bool.not_eq_true]
      exact fun w => absurd (iw_one (by omega) (by omega) w kw) (by omega))
    rw [show (0 : Int32) = nI 0 from rfl, lx_kind hL hp hx k7 kw k 0 FU (Nat.zero_add k) (Nat.lt_of_lt_of_le k7 (by decide)), wh_one (k := k) (Or.inl rfl) hL hp U hk k7 kw, bd_some, z7, bd_some, if_neg (show ¬ nI k < nI 0 from ltN (by omega) (by omega)), show mst m U 0 21 = nI (B 0 6) from h21]
    by_cases e : 24 ≤ B 0 6
    · rw [if_pos e] at z
      rw [if_pos (show (24 : Int32) ≤ nI (B 0 6) from leY (a := 24) e (by omega))]
      exact z
    · rw [if_neg e] at z
      rw [if_neg (show ¬ (24 : Int32) ≤ nI (B 0 6) from leN (a := 24) e (by decide))]
      exact z
  · have nK : ∀ k, k < 7 → ¬ iwF T L p k = true := fun k h7 hw => cK ⟨k, h7, hw⟩
    have z6 : X4_which 6 (mst m U) = some (-1) := wh_no (Or.inl rfl) hL hp U hk (fun i hi => by
      rw [s6, ← Bool.not_eq_true]
      exact nK i (by omega))
    rw [show (0 : Int32) = nI 0 from rfl, lx_nokind hL hp hx nK 7 0 FU rfl (by decide), z6, bd_some]
    by_cases cS : ∃ k, k < 3 ∧ iwF T L p (7 + k) = true
    · obtain ⟨k, k3, kw⟩ := cS
      have K1 : tkK T L p ≠ 0 := by rw [iw_K kw]; decide
      have z := res_bl (it_set (U := U) hL hT hp k3 hj K1 hx hi hm)
      rw [show (0 : Int32) = nI 0 from rfl, lx_set hL hp hx k3 kw k 0 FU (Nat.zero_add k) (Nat.lt_of_lt_of_le k3 (by decide)), wh_one (q := 7) (k := k) (Or.inr rfl) hL hp U hk k3 kw, bd_some, if_pos (show (-1 : Int32) < nI 0 by decide), if_neg (show ¬ nI k < nI 0 from ltN (by omega) (by omega))]
      exact z
    · have nS : ∀ k, k < 3 → ¬ iwF T L p (7 + k) = true := fun k h7 hw => cS ⟨k, h7, hw⟩
      have z7 : X4_which 7 (mst m U) = some (-1) := wh_no (Or.inr rfl) hL hp U hk (fun i hi => by
        rw [s7, ← Bool.not_eq_true]
        exact nS i (by omega))
      rw [show (0 : Int32) = nI 0 from rfl, lx_noset hL hp hx nS 3 0 FU rfl (by decide), z7, bd_some, if_pos (show (-1 : Int32) < nI 0 by decide), if_pos (show (-1 : Int32) < nI 0 by decide)]
      have u16 : ups m 0 16 1 0 16 = 1 := by rw [ups_s, if_pos rfl]
      refine ⟨y, ups (ups (ups (ups (ups m 0 16 1) 0 16 1) 8 (2 * j) (10 + (-1))) 8 (2 * j + 1) (ups m 0 16 1 0 15)) 0 20 (nI (j + 1)), fx_id y, fm_tr (fm_tr (fm_u0 _ _ (by decide)) (fm_u0 _ _ (by decide))) (item_f _ _ _ _), Or.inr ⟨tkS T L p, by omega, rfl, ?_, hx.2.2.1, ?_, ?_⟩⟩
      · unfold X4_readItem_L99
        rw [show nI 0 = 0 from rfl, must_bad U (Or.inr ⟨h16, rfl⟩), bd_some, if_neg (by decide)]
        unfold X4_readItem_L113
        rw [if_neg (by decide), if_neg (by decide)]
        unfold X4_readItem_L133
        rw [num_bad U u16, bd_some]
        dsimp only
        rw [item_n U (show j < 120 by omega) (by rw [ups_s, if_neg (by decide), ups_s, if_neg (by decide)]; exact h20), bd_some]
      · rw [ups_s, if_neg (by decide), ups_o (by decide), ups_o (by decide), ups_s, if_pos rfl]
      · rw [ups_s, if_neg (by decide), ups_o (by decide), ups_o (by decide), ups_s, if_neg (by decide), ups_s, if_neg (by decide)]
        exact hk.2.1
theorem tk_byte {T : Nat → Nat} {L p : Nat} (h : 3 ≤ tkK T L p) : tkS T L p < L ∧ (tkK T L p = 3 ↔ T (tkS T L p) = 59) := by
  unfold tkK at h ⊢
  by_cases e : L ≤ tkS T L p
  · rw [if_pos e] at h
    omega
  · rw [if_neg e] at h ⊢
    by_cases e1 : isl (T (tkS T L p)) = true
    · rw [if_pos e1] at h
      omega
    · rw [if_neg e1] at h ⊢
      by_cases e2 : isd (T (tkS T L p)) = true
      · rw [if_pos e2] at h
        omega
      · rw [if_neg e2] at h ⊢
        refine ⟨by omega, ?_⟩
        by_cases e3 : T (tkS T L p) = 59
        · rw [if_pos e3]
          exact ⟨fun _ => e3, fun _ => rfl⟩
        · rw [if_neg e3]
          exact ⟨fun z => absurd z (by decide), fun z => absurd z e3⟩
theorem pm_ft {m m' : St} {T : Nat → Nat} {L p q j : Nat} {A B : AS} (h : PM m T L p B j A) (hf : FT m m') (hk : KM m' T L q) : PM m' T L q B j A := by
  obtain ⟨⟨_, h16⟩, ⟨h20, h21, h9⟩, W, w1, w2, w3⟩ := h
  refine ⟨⟨hk, ?_⟩, ⟨?_, ?_, fun i hi => ?_⟩, W, fun i hi => ?_, w2, w3⟩
  · rw [hf.2 16 (by decide) (by decide) (by decide) (by decide)]
    exact h16
  · rw [hf.2 20 (by decide) (by decide) (by decide) (by decide)]
    exact h20
  · rw [hf.2 21 (by decide) (by decide) (by decide) (by decide)]
    exact h21
  · rw [hf.1 9 (by decide)]
    exact h9 i hi
  · rw [hf.1 8 (by decide)]
    exact w1 i hi
/-- a fault, told -/
theorem tx_fault (U : TS) {m : St} {s : Nat} (h : m 0 16 = 1 ∨ (m 0 16 = 0 ∧ ¬ m 0 14 = 0)) (h12 : m 0 12 = nI s) : X4_text_L99 (mst m U) = some (-1 - nI s, mst (ups (ups m 0 16 1) 0 11 0) U) := by
  have l : ∀ t, (m 0 16 = 1 ∨ (m 0 16 = 0 ∧ t = 0)) → X4_text_L112 t (mst m U) = some (-1 - nI s, mst (ups (ups m 0 16 1) 0 11 0) U) := by
    intro t ht
    have e12 : mst (ups (ups m 0 16 1) 0 11 0) U 0 12 = nI s := h12
    unfold X4_text_L112
    rw [must_bad U ht, bd_some, mst_u _ _ _ (by decide) (by decide), bd_some, if_neg (show ¬ mst (ups (ups m 0 16 1) 0 11 0) U 0 16 = 0 from (by decide : ¬ (1 : Int32) = 0)), e12]
  unfold X4_text_L99
  by_cases e : mst m U 0 14 = 0
  · rw [if_pos e]
    exact l 1 (h.elim Or.inl (fun z => absurd e z.2))
  · rw [if_neg e]
    exact l 0 (h.elim Or.inl (fun z => Or.inr ⟨z.1, rfl⟩))
theorem fm_fault (m : St) : FMR m (ups (ups m 0 16 1) 0 11 0) := fm_tr (fm_u0 _ _ (by decide)) (fm_u0 _ _ (by decide))
theorem nxb0 {T : Nat → Nat} {L p : Nat} (hL : L ≤ 120) (hT : ∀ i, i < L → T i < 256) (hp : p ≤ L) {y : St} (hb : BX (blk y 23) T L) (h4 : y 23 4 = nI p) : ∃ y2, (∀ F : St → Option (Int32 × St), ((X2_next (blk y 23)).bind fun S => (some (put y 23 2 S)).bind F) = F y2) ∧ KX (blk y2 23) T L p ∧ FXR y y2 ∧ (∀ A, Is y 15 A → Is y2 15 A) := by
  obtain ⟨S, s1, s2, s3⟩ := X2_next_n hL hT hp hb h4
  exact ⟨put y 23 2 S, fun F => by rw [s1, bd_some, bd_some], kx_put s3, fx_t y S s2, fun A h => is_o2 h⟩
/-- what a text comes to -/
def TXR (r3 r4 : Option (Int32 × St)) (y m : St) (U : TS) (A : AS) : Prop :=
  ∃ y' m', FXR y y' ∧ FMR m m' ∧ m' 0 11 = 0 ∧ ((∃ s, s ≤ 120 ∧ r3 = some (-1 - nI s, y') ∧ r4 = some (-1 - nI s, mst m' U)) ∨
    (∃ J W, J ≤ 100 ∧ r3 = some (nI J, y') ∧ r4 = X4_text_L136 FU 0 (mst m' U) ∧ m' 0 20 = nI J ∧ (∀ i, i < 2 * J → m' 8 i = nI (W i)) ∧ (∀ k, k < J → vdF (W (2 * k)) (W (2 * k + 1)) (apF W k A)) ∧ Is y' 15 (apF W J A)))
theorem tx_tr {r3 r4 r3' r4' : Option (Int32 × St)} {y y1 m m1 : St} {U : TS} {A : AS} (h : TXR r3 r4 y1 m1 U A) (hy : FXR y y1) (hm : FMR m m1) (e3 : r3' = r3) (e4 : r4' = r4) : TXR r3' r4' y m U A := by
  obtain ⟨y', m', a, b, c⟩ := h
  rw [e3, e4]
  exact ⟨y', m', fx_tr hy a, fm_tr hm b, c⟩
theorem lb_text {T : Nat → Nat} {L : Nat} {A : AS} {U : TS} (hL : L ≤ 120) (hT : ∀ i, i < L → T i < 256) : ∀ (d p j n n2 : Nat) (y m : St) (B : AS), L < p + d → 2 * j ≤ p → p ≤ L → d < n → d < n2 → IA B → BX (blk y 23) T L → y 23 4 = nI p → Is y 15 B → PM m T L p B j A →
    TXR (X3_readText_L9 15 n (nI (j + 1)) y) ((X4_readItem (mst m U)).bind fun S8 => X4_text_L58 n2 S8) y m U A := by
  intro d
  induction d with
  | zero => intro p j n n2 y m B h1 h2 h3; omega
  | succ d ih =>
    intro p j n n2 y m B h1 h2 h3 h4 h5 hB hb hp4 hi hm
    obtain ⟨n, rfl⟩ : ∃ k, n = k + 1 := ⟨n - 1, by omega⟩
    obtain ⟨n2, rfl⟩ : ∃ k, n2 = k + 1 := ⟨n2 - 1, by omega⟩
    obtain ⟨y1, q1, q2, q3, q4⟩ := nxb0 hL hT h3 hb hp4
    obtain ⟨y2, m2, f1, f2, f3⟩ := it_all (U := U) hL hT h3 (show j < 100 by omega) hB q2 (q4 B hi) hm
    have un : X3_readText_L9 15 (n + 1) (nI (j + 1)) y = (X3_readItem 15 y1).bind fun (r7, S8) => if r7 = 0 then (some (((-1) - (S8 23 3)), S8)) else (if (S8 23 2) = 0 then (some (nI (j + 1), S8)) else (if (S8 23 2) = 3 then (X3_readText_L9 15 n (nI (j + 1) + 1) S8) else (some (((-1) - (S8 23 3)), S8)))) := by
      show (if (120 : Int32) < nI (j + 1) then _ else _) = _
      rw [if_neg (show ¬ (120 : Int32) < nI (j + 1) from ltN (a := 120) (by omega) (by decide)), q1]
    rcases f3 with ⟨what, v, p', hv, g1, g2, g3, g4, g5, g6, g7⟩ | ⟨s, hs, g1, g2, g3, g4, g5⟩
    · obtain ⟨i1, i2⟩ := IA_isF hB hv
      obtain ⟨k1, k2, k3⟩ := kx_f g3
      obtain ⟨t1, t2, t3, t4, t5, t6, t7⟩ := tk_le T g7
      have hk2 := g5.1.1
      have h16 : m2 0 16 = 0 := g5.1.2
      have h14 : mst m2 U 0 14 = nI (if tkK T L p' = 4 then 3 else tkK T L p') := hk2.2.2.2.1
      have h12 : m2 0 12 = nI (tkS T L p') := hk2.2.1
      have r3 : X3_readText_L9 15 (n + 1) (nI (j + 1)) y = if (y2 23 2) = 0 then (some (nI (j + 1), y2)) else (if (y2 23 2) = 3 then (X3_readText_L9 15 n (nI (j + 1) + 1) y2) else (some (((-1) - (y2 23 3)), y2))) := by
        rw [un, g1, bd_some]
        dsimp only
        rw [if_neg (show ¬ (1 : Int32) = 0 by decide)]
      have r4 : ((X4_readItem (mst m U)).bind fun S8 => X4_text_L58 (n2 + 1) S8) = if (mst m2 U 0 14) = 3 then ((rd (mst m2 U) 5 120 (mst m2 U 0 12)).bind fun v19 => if v19 = 59 then ((X4_must 1 (mst m2 U)).bind fun S21 => (X4_readItem S21).bind fun S22 => X4_text_L58 n2 S22) else (X4_text_L99 (mst m2 U))) else (X4_text_L99 (mst m2 U)) := by
        rw [g2, bd_some]
        show (if mst m2 U 0 16 = 0 then _ else _) = _
        rw [if_pos (show mst m2 U 0 16 = 0 from h16)]
      have fault : ∀ a b, a = some ((-1) - (y2 23 3), y2) → b = X4_text_L99 (mst m2 U) → ¬ m2 0 14 = 0 → TXR a b y m U A := by
        intro a b ea eb hn
        refine ⟨y2, ups (ups m2 0 16 1) 0 11 0, fx_tr q3 f1, fm_tr f2 (fm_fault m2), by rw [ups_s, if_pos rfl], Or.inl ⟨tkS T L p', by omega, ?_, ?_⟩⟩
        · rw [ea, k2]
        · rw [eb]
          exact tx_fault U (Or.inr ⟨h16, hn⟩) h12
      rw [r3, r4, h14, k1]
      by_cases e0 : tkK T L p' = 0
      · obtain ⟨m3, c1, c2, c3⟩ := must_ok hL hT t4 U hk2.1 hk2.2.2.1 h16 (a := 1) (by decide)
        obtain ⟨W, w1, w2, w3⟩ := g5.2.2
        have z16 : mst (ups m3 0 11 0) U 0 16 = 0 := by
          show ups m3 0 11 0 0 16 = 0
          rw [ups_s, if_neg (by decide), c2.2 16 (by decide) (by decide) (by decide) (by decide)]
          exact h16
        have l99 : X4_text_L99 (mst m2 U) = X4_text_L136 FU 0 (mst (ups m3 0 11 0) U) := by
          unfold X4_text_L99
          rw [h14, if_pos (show nI (if tkK T L p' = 4 then 3 else tkK T L p') = 0 from congrArg nI (by rw [e0]; rfl))]
          unfold X4_text_L112
          rw [c1, bd_some, mst_u _ _ _ (by decide) (by decide), bd_some, if_pos z16]
        rw [if_pos (show nI (tkK T L p') = 0 from congrArg nI e0), if_neg (show ¬ nI (if tkK T L p' = 4 then 3 else tkK T L p') = 3 by rw [e0]; decide), l99]
        refine ⟨y2, ups m3 0 11 0, fx_tr q3 f1, fm_tr f2 (fm_tr (fm_ft c2) (fm_u0 _ _ (by decide))), by rw [ups_s, if_pos rfl], Or.inr ⟨j + 1, W, by omega, rfl, rfl, ?_, fun i hi => ?_, w3, ?_⟩⟩
        · rw [ups_s, if_neg (by decide), c2.2 20 (by decide) (by decide) (by decide) (by decide)]
          exact g5.2.1.1
        · rw [ups_o (by decide), c2.1 8 (by decide)]
          exact w1 i hi
        · rw [w2]
          exact g4
      · have n14 : ¬ m2 0 14 = 0 := by
          rw [show m2 0 14 = nI (if tkK T L p' = 4 then 3 else tkK T L p') from h14]
          exact eqN (b := 0) (by split <;> omega) (by split <;> omega) (by decide)
        have t7' := t7 e0
        rw [if_neg (show ¬ nI (tkK T L p') = 0 from eqN (b := 0) e0 (by omega) (by decide))]
        by_cases e3 : 3 ≤ tkK T L p'
        · obtain ⟨b1, b2⟩ := tk_byte e3
          have tb := hT _ b1
          rw [if_pos (show nI (if tkK T L p' = 4 then 3 else tkK T L p') = 3 from congrArg nI (by split <;> omega)), show mst m2 U 0 12 = nI (tkS T L p') from h12, rd_i (show tkS T L p' < 120 by omega) (by decide), bd_some, mst_k _ _ (by decide), hk2.1.2 _ b1]
          by_cases e4 : tkK T L p' = 3
          · obtain ⟨m3, c1, c2, c3⟩ := must_ok hL hT t4 U hk2.1 hk2.2.2.1 h16 (a := 1) (by decide)
            rw [if_pos (show nI (tkK T L p') = 3 from congrArg nI e4), if_pos (show nI (T (tkS T L p')) = 59 from congrArg nI (b2.mp e4)), c1, bd_some, show nI (j + 1) + 1 = nI (j + 1 + 1) from (nI_succ (j + 1)).symm]
            exact tx_tr (ih (tkE T L p') (j + 1) n n2 y2 m3 (isF what v B) (by omega) (by omega) t4 (by omega) (by omega) i1 g3.1 g3.2.2.2.1 g4 (pm_ft g5 c2 c3)) (fx_tr q3 f1) (fm_tr f2 (fm_ft c2)) rfl rfl
          · have n59 : ¬ T (tkS T L p') = 59 := fun z => e4 (b2.mpr z)
            rw [if_neg (show ¬ nI (tkK T L p') = 3 from eqN (b := 3) e4 (by omega) (by decide)), if_neg (show ¬ nI (T (tkS T L p')) = 59 from eqN (b := 59) n59 (by omega) (by decide))]
            exact fault _ _ rfl rfl n14
        · rw [if_neg (show ¬ nI (tkK T L p') = 3 from eqN (b := 3) (by omega) (by omega) (by decide)), if_neg (show ¬ nI (if tkK T L p' = 4 then 3 else tkK T L p') = 3 from eqN (b := 3) (by split <;> omega) (by split <;> omega) (by decide))]
          exact fault _ _ rfl rfl n14
    · refine ⟨y2, ups (ups m2 0 16 1) 0 11 0, fx_tr q3 f1, fm_tr f2 (fm_fault m2), by rw [ups_s, if_pos rfl], Or.inl ⟨s, hs, ?_, ?_⟩⟩
      · rw [un, g1, bd_some]
        dsimp only
        rw [if_pos (show (0 : Int32) = 0 from rfl), g3]
      · rw [g2, bd_some]
        show (if mst m2 U 0 16 = 0 then _ else _) = _
        rw [if_neg (show ¬ mst m2 U 0 16 = 0 by rw [show mst m2 U 0 16 = 1 from g4]; decide)]
        exact tx_fault U (Or.inl g4) g5
