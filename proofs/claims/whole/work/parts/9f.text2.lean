/-! PURE 55: text -/
theorem X4_isSo_n {m : St} {B : AS} {o v' what v : Nat} (hB : IA B) (h : vdF what v B) : X4_isSo (nI what) (nI v) (mst m (B, o, v')) = some (mst m (isF what v B, o, v')) := by
  unfold X4_isSo isF
  rcases h with ⟨h1, h2⟩ | ⟨h1, h2, h3⟩
  · have l : 1 + what - 10 = 1 + (what - 10) := by omega
    have hw : what < 13 := by omega
    rw [if_pos h1, if_neg (show ¬ nI what < 10 from ltN (b := 10) (by omega) (by omega)), show (1 : Int32) = nI 1 from rfl, nI_add, show (10 : Int32) = nI 10 from rfl, sub_n (by omega), l, mw (T := (B, o, v')) (B := u2 B 5 (what - 10) v) (by omega) (fun i => encu_t (show what - 10 < 3 by omega) i), bd_some]
  · rw [if_neg (show ¬ 10 ≤ what by omega), if_pos (show nI what < 10 from ltY (b := 10) (by omega) (by decide)), X4_struck_n (T := (B, o, v')) h2, bd_some]
    dsimp only
    rcases h3 with rfl | ⟨c, r, hc, hr, rfl, hh⟩
    · rw [if_neg (show ¬ 100 < 100 by decide), if_pos (show (100 : Int32) ≤ nI 100 by decide)]
    · rw [if_pos (show 10 * c + r < 100 by omega), if_neg (show ¬ (100 : Int32) ≤ nI (10 * c + r) from leN (a := 100) (by omega) (by decide)), show (10 : Int32) = nI 10 from rfl, div_n (by omega) (by decide) (by decide), irm_n (by omega) (by decide) (by decide), X4_cellOf_n, show (10 * c + r) / 10 * 6 + (10 * c + r) % 10 = c * 6 + r by omega, X4_comesOn_n (T := (mtA B what, o, v')) (show B 0 6 < 24 by omega) (by omega) hh, bd_some]
theorem ap_ok {W : Nat → Nat} {A : AS} (hA : IA A) : ∀ J, (∀ k, k < J → vdF (W (2 * k)) (W (2 * k + 1)) (apF W k A)) → IA (apF W J A) ∧ apF W J A 0 7 = A 0 7 := by
  intro J
  induction J with
  | zero => intro _; exact ⟨hA, rfl⟩
  | succ J ih =>
    intro h
    obtain ⟨i1, i2⟩ := ih (fun k hk => h k (by omega))
    obtain ⟨j1, j2⟩ := IA_isF i1 (h J (by omega))
    exact ⟨j1, j2.trans i2⟩
theorem lm_136 {m : St} {A : AS} {o v J : Nat} {W : Nat → Nat} (hA : IA A) (hJ : J ≤ 100) (h20 : m 0 20 = nI J) (h8 : ∀ i, i < 2 * J → m 8 i = nI (W i)) (hv : ∀ k, k < J → vdF (W (2 * k)) (W (2 * k + 1)) (apF W k A)) : ∀ (d k n : Nat), k + d = J → d < n → X4_text_L136 n (nI k) (mst m (apF W k A, o, v)) = some (nI J, mst m (apF W J A, o, v)) := by
  intro d
  induction d with
  | zero =>
    intro k n h1 h2
    obtain ⟨n, rfl⟩ : ∃ i, n = i + 1 := ⟨n - 1, by omega⟩
    have e : k = J := by omega
    subst e
    unfold X4_text_L136
    rw [show mst m (apF W k A, o, v) 0 20 = nI k from h20, if_pos (leY (Nat.le_refl _) (by omega))]
  | succ d ih =>
    intro k n h1 h2
    obtain ⟨n, rfl⟩ : ∃ i, n = i + 1 := ⟨n - 1, by omega⟩
    obtain ⟨i1, i2⟩ := ap_ok hA k (fun i hi => hv i (by omega))
    unfold X4_text_L136
    rw [show mst m (apF W k A, o, v) 0 20 = nI J from h20, if_neg (leN (by omega) (by omega)), show (2 : Int32) = nI 2 from rfl, pk_mul, rd_i (show 2 * k < 240 by omega) (by decide), bd_some, show (1 : Int32) = nI 1 from rfl, nI_add, rd_i (show 2 * k + 1 < 240 by omega) (by decide), bd_some, mst_k _ _ (by decide), h8 _ (by omega), h8 _ (by omega), X4_isSo_n i1 (hv k (by omega)), bd_some, nI_add]
    exact ih (k + 1) n (by omega) (by omega)
theorem lm_27 {T : Nat → Nat} {L : Nat} (hL : L ≤ 120) (hT : ∀ i, i < L → T i < 256) {A : AS} {o v : Nat} : ∀ (d q n : Nat) (m : St), q + d = 42 → d < n → BM m T L → m 0 13 = nI 0 → m 0 16 = 0 → m 0 20 = nI 0 → m 0 21 = nI (A 0 6) → (∀ i, i < q → m 9 i = nI (A 3 i)) →
    ∃ m', X4_text_L27 n (nI q) (mst m (A, o, v)) = ((X4_readItem (mst m' (A, o, v))).bind fun S8 => X4_text_L58 FU S8) ∧ FMR m m' ∧ PM m' T L 0 A 0 A := by
  intro d
  induction d with
  | zero =>
    intro q n m h1 h2 hb h13 h16 h20 h21 h9
    obtain ⟨n, rfl⟩ : ∃ k, n = k + 1 := ⟨n - 1, by omega⟩
    obtain ⟨m', s1, s2, s3⟩ := X4_next_n hL hT (Nat.zero_le L) (A, o, v) hb h13
    unfold X4_text_L27
    rw [if_pos (show (42 : Int32) ≤ nI q from leY (a := 42) (by omega) (by omega)), s1, bd_some]
    refine ⟨m', rfl, fm_ft s2, ⟨s3, ?_⟩, ⟨?_, ?_, fun i hi => ?_⟩, fun _ => 0, fun i hi => absurd hi (by omega), rfl, fun k hk => absurd hk (by omega)⟩
    · rw [s2.2 16 (by decide) (by decide) (by decide) (by decide)]
      exact h16
    · rw [s2.2 20 (by decide) (by decide) (by decide) (by decide)]
      exact h20
    · rw [s2.2 21 (by decide) (by decide) (by decide) (by decide)]
      exact h21
    · rw [s2.1 9 (by decide)]
      exact h9 i (by omega)
  | succ d ih =>
    intro q n m h1 h2 hb h13 h16 h20 h21 h9
    obtain ⟨n, rfl⟩ : ∃ k, n = k + 1 := ⟨n - 1, by omega⟩
    obtain ⟨m', s1, s2, s3⟩ := ih (q + 1) n (ups m 9 q (nI (A 3 q))) (by omega) (by omega) ⟨hb.1, hb.2⟩ h13 h16 h20 h21 (fun i hi => by
      rw [ups_s]
      by_cases e : i = q
      · rw [if_pos e, e]
      · rw [if_neg e]
        exact h9 i (by omega))
    unfold X4_text_L27
    rw [if_neg (show ¬ (42 : Int32) ≤ nI q from leN (a := 42) (by omega) (by decide)), X4_highOf_n (by omega), bd_some, wr_i (show q < 42 by omega) (by decide), bd_some, mst_uk _ _ _ (by decide), show nI q + 1 = nI (q + 1) from (nI_succ q).symm]
    exact ⟨m', s1, fm_tr (fm_u9 _ _ _) s2, s3⟩
theorem RLL_tx {x y m0 m1 : St} {A B : AS} {o v o' v' : Nat} (hr : RR x (mst m0 (A, o, v))) (hB : IA B) (hb : B 0 7 ≤ 9999) (hs : Is y 1 B) (hk : ∀ k, offX k → k ≠ 23 → k ≠ 24 → y k = x k) (hm : ∀ k, k ≠ 0 → k ≠ 5 → k ≠ 8 → k ≠ 9 → m1 k = m0 k) (h3 : m1 0 3 = m0 0 3) (y23 : y 23 1 = 0) (h11 : m1 0 11 = 0) : RLL y (mst m1 (B, o', v')) := by
  obtain ⟨r1, r2, r3, r4⟩ := RR_in hr
  refine ⟨B, o', v', ⟨hB, hb⟩, fun k j h7 => hs k j h7, ⟨m1, rfl⟩, ⟨⟨?_, ?_⟩, ⟨0, by decide, y23, h11, fun i hi => absurd hi (by omega)⟩, ?_⟩⟩
  · refine KPR_c r1 ?_ h3 (fun k h1 h2 => hk k (Or.inr (Or.inl ⟨h1, h2⟩)) (by omega) (by omega)) ?_
    · rw [hk 0 (Or.inl rfl) (by decide) (by decide)]
    · show m1 2 = m0 2
      exact hm 2 (by decide) (by decide) (by decide) (by decide)
  · exact FIR_c r2 (hk 26 (Or.inr (Or.inr (Or.inl ⟨by decide, by decide⟩))) (by decide) (by decide)) (show m1 4 = m0 4 from hm 4 (by decide) (by decide) (by decide) (by decide))
  · exact SHR_c r4 (fun k h1 h2 => hk k (Or.inr (Or.inr (Or.inr h1))) (by omega) (by omega)) (show m1 10 = m0 10 from hm 10 (by decide) (by decide) (by decide) (by decide)) (show m1 11 = m0 11 from hm 11 (by decide) (by decide) (by decide) (by decide)) (show m1 12 = m0 12 from hm 12 (by decide) (by decide) (by decide) (by decide))
theorem neg_n {s : Nat} (h : s ≤ 120) : (-1 : Int32) - nI s < 0 := by
  have key : ∀ s, s < 121 → (-1 : Int32) - nI s < 0 := by decide +kernel
  exact key s (by omega)
theorem op_text : OPR X3_text X4_text := by
  intro x mm h
  obtain ⟨A, o, v, m0, hA, hb, hx, rfl, hr⟩ := RLL_st h
  obtain ⟨r1, r2, ⟨L, hL, t2, t3, t4⟩, r4⟩ := RR_in hr
  -- the bytes as one row
  have hT : ∃ T : Nat → Nat, ∀ i, i < L → T i < 256 ∧ x 24 i = nI (T i) ∧ m0 5 i = nI (T i) := by
    refine ⟨fun i => (x 24 i).toUInt32.toNat, fun i hi => ?_⟩
    obtain ⟨b, b1, b2, b3⟩ := t4 i hi
    have e : (x 24 i).toUInt32.toNat = b := by
      rw [b2]
      exact pk_tn (show b < 4294967296 by omega)
    show (x 24 i).toUInt32.toNat < 256 ∧ x 24 i = nI ((x 24 i).toUInt32.toNat) ∧ m0 5 i = nI ((x 24 i).toUInt32.toNat)
    rw [e]
    exact ⟨b1, b2, b3⟩
  obtain ⟨T, hT⟩ := hT
  have hT1 : ∀ i, i < L → T i < 256 := fun i hi => (hT i hi).1
  have hi := is_x hx
  have hi15 := is_cpy (b2 := 15) hi
  -- the reference's begin
  have M0 : ∃ m1, X4_text (mst m0 (A, o, v)) = ((X4_readItem (mst m1 (A, o, v))).bind fun S8 => X4_text_L58 FU S8) ∧ FMR m0 m1 ∧ PM m1 T L 0 A 0 A := by
    obtain ⟨m1, s1, s2, s3⟩ := lm_27 (T := T) (L := L) hL hT1 (A := A) (o := o) (v := v) 42 0 FU (ups (ups (ups (ups m0 0 13 0) 0 16 0) 0 20 0) 0 21 (nI (A 0 6))) rfl (by decide) ⟨t3, fun i hi => (hT i hi).2.2⟩ rfl rfl rfl (by rw [ups_s, if_pos rfl]) (fun i hi => absurd hi (by omega))
    refine ⟨m1, ?_, fm_tr (fm_tr (fm_tr (fm_tr (fm_u0 _ _ (by decide)) (fm_u0 _ _ (by decide))) (fm_u0 _ _ (by decide))) (fm_u0 _ _ (by decide))) s2, s3⟩
    unfold X4_text
    rw [bd_some, mst_u _ _ _ (by decide) (by decide), bd_some, mst_u _ _ _ (by decide) (by decide), bd_some, mst_u _ _ _ (by decide) (by decide), show (4 : Int32) = nI 4 from rfl, md (T := (A, o, v)) (by decide), bd_some, enc_4, bd_some, mst_u _ _ _ (by decide) (by decide)]
    exact s1
  obtain ⟨m1, z1, z2, z3⟩ := M0
  -- the class's begin
  have Y : ∃ y1, X3_text x = ((X3_readText_L9 15 FU (nI 1) y1).bind fun (r3, S4) => if r3 < 0 then ((some (ups S4 23 1 0)).bind fun S6 => some (r3, S6)) else ((some (put S4 1 7 (blk S4 15))).bind fun S7 => (some (ups S7 23 1 0)).bind fun S8 => some (r3, S8))) ∧ FXR x y1 ∧ BX (blk y1 23) T L ∧ y1 23 4 = nI 0 ∧ Is y1 15 A := by
    have e1 : put x 15 7 (blk x 1) 23 = x 23 := put_o (by decide)
    have e2 : put x 15 7 (blk x 1) 24 = x 24 := put_o (by decide)
    have c0 : put (put x 15 7 (blk x 1)) 23 2 (ups (blk (put x 15 7 (blk x 1)) 23) 0 4 0) 23 = ups (blk (put x 15 7 (blk x 1)) 23) 0 4 0 0 := put_in (j := 0) (by decide)
    have c1 : put (put x 15 7 (blk x 1)) 23 2 (ups (blk (put x 15 7 (blk x 1)) 23) 0 4 0) 24 = ups (blk (put x 15 7 (blk x 1)) 23) 0 4 0 1 := put_in (j := 1) (by decide)
    refine ⟨put (put x 15 7 (blk x 1)) 23 2 (ups (blk (put x 15 7 (blk x 1)) 23) 0 4 0), ?_, fx_tr (fx_s _ _) (fx_t _ _ ?_), ⟨?_, fun i hi => ?_⟩, ?_, is_o2 hi15⟩
    · unfold X3_text X3_readText X2_rewind
      rw [bd_some, bd_some, bd_some, bd_some]
      rfl
    · exact ups_o (by decide)
    · show put (put x 15 7 (blk x 1)) 23 2 (ups (blk (put x 15 7 (blk x 1)) 23) 0 4 0) 23 1 = nI L
      rw [c0, ups_s, if_neg (by decide)]
      show put x 15 7 (blk x 1) 23 1 = nI L
      rw [e1]
      exact t2
    · show put (put x 15 7 (blk x 1)) 23 2 (ups (blk (put x 15 7 (blk x 1)) 23) 0 4 0) 24 i = nI (T i)
      rw [c1, ups_o (by decide)]
      show put x 15 7 (blk x 1) 24 i = nI (T i)
      rw [e2]
      exact (hT i hi).2.1
    · rw [c0, ups_s, if_pos rfl]
      rfl
  obtain ⟨y1, y2, y3, y4, y5, y6⟩ := Y
  have FU2 : L + 1 < FU := Nat.lt_of_le_of_lt (show L + 1 ≤ 121 by omega) (by decide)
  obtain ⟨y', m', f1, f2, f3, f4⟩ := lb_text (U := (A, o, v)) hL hT1 (L + 1) 0 0 FU FU y1 m1 A (by omega) (Nat.le_refl 0) (Nat.zero_le L) FU2 FU2 hA y4 y5 y6 z3
  have fx := fx_tr y3 f1
  have fm := fm_tr z2 f2
  rcases f4 with ⟨s, hs, g1, g2⟩ | ⟨J, W, hJ, g1, g2, g3, g4, g5, g6⟩
  · refine ⟨-1 - nI s, ups y' 23 1 0, mst m' (A, o, v), ?_, ?_, ?_⟩
    · rw [y2]
      show ((X3_readText_L9 15 FU (nI (0 + 1)) y1).bind _) = _
      rw [g1, bd_some]
      dsimp only
      rw [if_pos (neg_n hs), bd_some]
    · rw [z1]
      exact g2
    · refine RLL_tx hr hA hb (fun k j hk => ?_) (fun k hk k3 k4 => ?_) (fun k k0 k5 k8 k9 => fm.1 k k0 k8 k9) fm.2 (by rw [ups_s, if_pos rfl]) f3
      · rw [ups_o (by omega), fx (1 + k) (Or.inl (by omega)) (by omega)]
        exact hi k j hk
      · unfold offX at hk
        rw [ups_o k3, fx k (by omega) k3]
  · obtain ⟨i1, i2⟩ := ap_ok hA J g5
    have z := lm_136 (o := o) (v := v) hA hJ g3 g4 g5 J 0 FU (Nat.zero_add J) (Nat.lt_of_le_of_lt hJ (by decide))
    refine ⟨nI J, ups (put y' 1 7 (blk y' 15)) 23 1 0, mst m' (apF W J A, o, v), ?_, ?_, ?_⟩
    · rw [y2]
      show ((X3_readText_L9 15 FU (nI (0 + 1)) y1).bind _) = _
      rw [g1, bd_some]
      dsimp only
      rw [if_neg (nI_pos (by omega)), bd_some, bd_some]
    · rw [z1]
      exact g2.trans z
    · refine RLL_tx hr i1 (by rw [i2]; exact hb) (fun k j hk => ?_) (fun k hk k3 k4 => ?_) (fun k k0 k5 k8 k9 => fm.1 k k0 k8 k9) fm.2 (by rw [ups_s, if_pos rfl]) f3
      · rw [ups_o (by omega), put_in hk]
        exact g6 k j hk
      · unfold offX at hk
        rw [ups_o k3, put_o (by omega), fx k (by omega) k3]
