/-! PURE 40: stroke, force, kindFor -/
theorem wo_le {A : AS} (s : Nat) : ∀ d c w, woA A s d c w ≤ w + 50 * d := by
  intro d
  induction d with
  | zero => intro c w; exact Nat.le_refl _
  | succ d ih =>
    intro c w
    unfold woA
    have k := WOR_le (A 1 c)
    split
    · have := ih (c + 1) (w + WOR (A 1 c))
      omega
    · have := ih (c + 1) w
      omega
theorem wot_le {A : AS} (hn : A 0 6 ≤ 24) (s : Nat) : wot A s ≤ 1200 := by
  have := wo_le (A := A) s (A 0 6) 0 0
  unfold wot
  omega
theorem is_ups {y : St} {b : Nat} {A : AS} (h : Is y b A) {k : Nat} (i v : Nat) (hk : k < 7) : Is (ups y (b + k) i (nI v)) b (u2 A k i v) := by
  intro a j ha
  unfold ups u2
  by_cases e : a = k
  · subst e
    rw [if_pos rfl, if_pos rfl, h a j ha]
    split <;> rfl
  · rw [if_neg (by omega), if_neg e]
    exact h a j ha
theorem is_oups {y : St} {b : Nat} {A : AS} (h : Is y b A) {k j : Nat} {v : Int32} (hk : k < b ∨ b + 7 ≤ k) : Is (ups y k j v) b A := by
  intro a i ha
  rw [ups_o (by omega)]
  exact h a i ha
theorem kp_ups (y : St) {k : Nat} (j : Nat) (v : Int32) (h : 15 ≤ k ∧ k < 22) : Kp y (ups y k j v) := by
  intro i hi
  unfold offX at hi
  exact ups_o (by omega)
/-- a trial with one number changed -/
theorem tr_n {y : St} {A : AS} (hi : Is y 1 A) {k i v N : Nat} (hk : k < 7) (hB : IA (u2 A k i v)) (hN : N < 900) (hb : u2 A k i v 0 7 < 20000) :
    ∃ S : St, X1_advance (nI N) (blk (ups (put y 15 7 (blk y 1)) (15 + k) i (nI v)) 15) = some S ∧ Is (put (ups (put y 15 7 (blk y 1)) (15 + k) i (nI v)) 15 7 S) 15 (bnA N (u2 A k i v)) ∧ Is (put (ups (put y 15 7 (blk y 1)) (15 + k) i (nI v)) 15 7 S) 1 A ∧ Kp y (put (ups (put y 15 7 (blk y 1)) (15 + k) i (nI v)) 15 7 S) := by
  have t1 := is_ups (is_cpy (b2 := 15) hi) i v hk
  obtain ⟨S, s1, s2⟩ := is_adv t1 hB hN (by omega)
  refine ⟨S, s1, s2 _, is_oth (is_oups (is_oth hi (Or.inl (by decide))) (Or.inr (by omega))) (Or.inl (by decide)), ?_⟩
  exact kp_tr (kp_put y _ (Or.inl rfl)) (kp_tr (kp_ups _ i _ ⟨by omega, by omega⟩) (kp_put _ _ (Or.inl rfl)))
theorem X4_wonIn_n {m : St} {A B : AS} (as : AsE m A) (hB : IA B) {N : Nat} (hN : N < 900) (hb : B 0 7 < 20000) {a2 : Int32} {F : Nat → Nat} (hF : ∀ s, s < 16777216 → nI s &&& a2 = nI (F s) ∧ F s < 16777216) (o v : Nat) :
    ∃ o' v', X4_wonIn (nI N) a2 (mst m (B, o, v)) = some (nI (wot (bnA N B) (F (msk (bnA N B) 101))), mst m (A, o', v')) := by
  obtain ⟨v', hv⟩ := bnT_q N (B, o, v)
  obtain ⟨g1, g2⟩ := bnA_IA N hB
  have l1 := ovA_le hB N
  obtain ⟨f1, f2⟩ := hF (msk (bnA N B) 101) (msk_lt (ia_n g1) 101)
  refine ⟨o + ovA N B, v', ?_⟩
  unfold X4_wonIn
  rw [X4_beatsGo_n (T := (B, o, v)) hN hB (show B 0 7 + N < 1000000 by omega), bd_some, hv]
  dsimp only
  rw [if_pos (nI_pos' (show ovA N B < 2147483648 by omega)), show (101 : Int32) = nI 101 from rfl, X4_setOf_n (T := (bnA N B, o + ovA N B, v')) g1 (by decide) (by decide), bd_some, f1, X4_worthOf_n (T := (bnA N B, o + ovA N B, v')) g1 (by omega), bd_some, X4_putBack_n as, bd_some]
theorem rsh_n {m0 : St} {T : TS} (hA : IA T.1) (hb : T.1 0 7 ≤ 9999) {k N : Nat} (hk : k < T.1 0 6) (hN1 : 1 ≤ N) (hN : N ≤ 60) : X4_refusesShelf (nI k) (nI N) (mst m0 T) = some (if T.1 2 k < 42 ∧ T.1 0 7 + N ≤ 9999 then 0 else (-1000005)) := by
  have hn := ia_n hA
  have w : ¬ X3_within (nI k) 0 (nI (T.1 0 6) - 1) = 0 := by
    rw [show nI (T.1 0 6) - 1 = nI (T.1 0 6 - 1) from sub_n (b := 1) (by omega)]
    exact wi_ok (by omega) (by omega)
  have w2 : ¬ X4_within (nI N) 1 60 = 0 := by
    unfold X4_within
    rw [if_neg (show ¬ nI N < 1 from ltN (b := 1) (by omega) (by omega)), if_neg (show ¬ (60 : Int32) < nI N from ltN (a := 60) (by omega) (by decide))]
    decide
  unfold X4_refusesShelf
  rw [ic_m, bd_some, if_neg w, if_neg w2, X4_isOnShelf_n hA hk, bd_some, tl_n hb (by omega), bd_some]
  by_cases e : T.1 2 k < 42
  · rw [if_pos e, if_neg (show ¬ nI 1 = 0 by decide)]
    by_cases e2 : T.1 0 7 + N ≤ 9999
    · rw [if_pos e2, if_pos (show (0 : Int32) = 0 from rfl), if_pos (show T.1 2 k < 42 ∧ T.1 0 7 + N ≤ 9999 from ⟨e, e2⟩)]
    · rw [if_neg e2, if_neg (show ¬ (1 : Int32) = 0 by decide), if_neg (show ¬ (T.1 2 k < 42 ∧ T.1 0 7 + N ≤ 9999) from fun z => e2 z.2)]
  · rw [if_neg e, if_pos (show nI 0 = 0 from rfl), if_neg (show ¬ (T.1 2 k < 42 ∧ T.1 0 7 + N ≤ 9999) from fun z => e z.1)]
theorem rsh_no {m0 : St} {T : TS} (a b : Int32) (h : X3_within a 0 (nI (T.1 0 6) - 1) = 0 ∨ X3_within b 1 60 = 0) : X4_refusesShelf a b (mst m0 T) = some (-1000001) := by
  unfold X4_refusesShelf
  rw [ic_m, bd_some]
  by_cases e : X3_within a 0 (nI (T.1 0 6) - 1) = 0
  · rw [if_pos e]
  · rw [if_neg e, if_pos (show X4_within b 1 60 = 0 from h.resolve_left e)]
/-! stroke -/
theorem st_w {A : AS} (hA : IA A) {k i v N : Nat} (hB : IA (u2 A k i v)) (h1 : u2 A k i v 1 = A 1) (h0 : u2 A k i v 0 6 = A 0 6) (h2 : u2 A k i v 2 = A 2) : wot (bnA N (u2 A k i v)) (msk (bnA N (u2 A k i v)) 101) = wot A (msk A 101) + wot (bnA N (u2 A k i v)) (wo_ (msk (bnA N (u2 A k i v)) 101) (msk A 101)) := by
  obtain ⟨c1, c2, c3, c4⟩ := bn_cnt hB N
  exact won_more (ia_n hA) (by rw [c2, h0]) (by rw [c4, h1]) (fun c hc hp => by rw [c3 c (by rw [h0]; exact hc) (by rw [h2]; exact hp), h2])
theorem lb_stroke {A : AS} (hA : IA A) {N : Nat} (hN : N ≤ 60) (hb : A 0 7 < 10000) : ∀ (d s n n2 bb l : Nat) (mx ml : Int32) (y m : St) (o v : Nat), s + d = 7 → 1 ≤ s → d < n → d < n2 → bb < 7 → (bb = 0 ∨ (l < 5000 ∧ mx = nI (wot A (msk A 101) + l) ∧ ml = nI l)) → Is y 1 A → AsE m A →
    ∃ (r : Int32) (y' : St) (o' v' : Nat), X3_stroke_L41 n (nI N) (nI bb) mx (nI s) y = some (r, y') ∧ X4_stroke_L60 n2 (nI N) (nI (msk A 101) ^^^ (-1)) (nI bb) ml (nI s) (mst m (A, o, v)) = some (r, mst m (A, o', v')) ∧ Kp y y' := by
  intro d
  have hn := ia_n hA
  have w0 := wot_le hn (msk A 101)
  induction d with
  | zero =>
    intro s n n2 bb l mx ml y m o v h1 hs h2 h3 hbb hl hi as
    obtain ⟨n, rfl⟩ : ∃ m, n = m + 1 := ⟨n - 1, by omega⟩
    obtain ⟨n2, rfl⟩ : ∃ m, n2 = m + 1 := ⟨n2 - 1, by omega⟩
    unfold X3_stroke_L41 X4_stroke_L60
    rw [show rdc 3 (stC 5) 1 = some (nI 6) from by decide +kernel, bd_some, if_pos (ltY (by omega) (by omega)), if_pos (show (6 : Int32) < nI s from ltY (a := 6) (by omega) (by omega))]
    exact ⟨_, y, o, v, rfl, rfl, kp_id y⟩
  | succ d ih =>
    intro s n n2 bb l mx ml y m o v h1 hs h2 h3 hbb hl hi as
    obtain ⟨n, rfl⟩ : ∃ m, n = m + 1 := ⟨n - 1, by omega⟩
    obtain ⟨n2, rfl⟩ : ∃ m, n2 = m + 1 := ⟨n2 - 1, by omega⟩
    have hB : IA (u2 A 5 1 s) := IA_set hA (Or.inr (Or.inl ⟨rfl, hs, by omega⟩))
    obtain ⟨S, s1, s2, s3, s4⟩ := tr_n hi (k := 5) (i := 1) (v := s) (N := N) (by decide) hB (by omega) (show A 0 7 < 20000 by omega)
    obtain ⟨o1, v1, q1⟩ := X4_wonIn_n as hB (N := N) (by omega) (show A 0 7 < 20000 by omega) (a2 := nI (msk A 101) ^^^ (-1)) (F := fun t => wo_ t (msk A 101)) (fun t ht => ⟨wo_n t _, wo_lt ht⟩) o v
    have ww := st_w hA (N := N) hB rfl rfl rfl
    have wB := wot_le (A := bnA N (u2 A 5 1 s)) (ia_n (bnA_IA N hB).1) (wo_ (msk (bnA N (u2 A 5 1 s)) 101) (msk A 101))
    have hw : wr (mst m (A, o, v)) 1 275 2 (nI s) = some (mst m (u2 A 5 1 s, o, v)) := mw (T := (A, o, v)) (i := 2) (B := u2 A 5 1 s) (by decide) (fun i => encu_t (q := 1) (by decide) i)
    unfold X3_stroke_L41 X4_stroke_L60
    rw [show rdc 3 (stC 5) 1 = some (nI 6) from by decide +kernel, bd_some, if_neg (ltN (by omega) (by omega)), if_neg (show ¬ (6 : Int32) < nI s from ltN (a := 6) (by omega) (by decide)), bd_some, show wr (put y 15 7 (blk y 1)) 20 3 1 (nI s) = some (ups (put y 15 7 (blk y 1)) (15 + 5) 1 (nI s)) from wr_i (i := 1) (by decide) (by decide), bd_some, s1, bd_some, bd_some, show (101 : Int32) = nI 101 from rfl, is_worthAt s2 (bnA_IA N hB).1 (by decide), bd_some, hw, bd_some, q1, bd_some, ww]
    dsimp only
    rw [show nI s + 1 = nI (s + 1) from (nI_succ s).symm]
    generalize wot (bnA N (u2 A 5 1 s)) (wo_ (msk (bnA N (u2 A 5 1 s)) 101) (msk A 101)) = q at wB
    generalize wot A (msk A 101) = W at *
    have take := ih (s + 1) n n2 s q (nI (W + q)) (nI q) _ m o1 v1 (by omega) (by omega) (by omega) (by omega) (by omega) (Or.inr ⟨by omega, rfl, rfl⟩) s3 as
    by_cases e : bb = 0
    · subst e
      rw [if_pos (show nI 0 = 0 from rfl), if_pos (show nI 0 = 0 from rfl)]
      obtain ⟨r, y', o', v', t1, t2, t3⟩ := take
      exact ⟨r, y', o', v', t1, t2, kp_tr s4 t3⟩
    · obtain ⟨l1, l2, l3⟩ := hl.resolve_left e
      rw [if_neg (show ¬ nI bb = 0 from eqN (b := 0) e (by omega) (by decide)), if_neg (show ¬ nI bb = 0 from eqN (b := 0) e (by omega) (by decide)), l2, l3]
      by_cases e2 : l ≤ q
      · rw [if_pos (leY (by omega) (by omega)), if_pos (leY (by omega) (by omega))]
        obtain ⟨r, y', o', v', t1, t2, t3⟩ := ih (s + 1) n n2 bb l (nI (W + l)) (nI l) _ m o1 v1 (by omega) (by omega) (by omega) (by omega) hbb (Or.inr ⟨l1, rfl, rfl⟩) s3 as
        exact ⟨r, y', o', v', t1, t2, kp_tr s4 t3⟩
      · rw [if_neg (leN (by omega) (by omega)), if_neg (leN (by omega) (by omega))]
        obtain ⟨r, y', o', v', t1, t2, t3⟩ := take
        exact ⟨r, y', o', v', t1, t2, kp_tr s4 t3⟩
theorem op_stroke (a : Int32) : OPR (X3_stroke a) (X4_stroke a) := by
  intro x mm h
  unfold X3_stroke X4_stroke
  by_cases e : X3_within a 1 60 = 0
  · rw [if_pos e, if_pos (show X4_within a 1 60 = 0 from e)]
    exact fl0 h
  · rw [if_neg e, if_neg (show ¬ X4_within a 1 60 = 0 from e)]
    obtain ⟨N, hN1, hN, rfl⟩ := wi_in1 (l := 1) (m := 60) (by decide) (by decide) e
    obtain ⟨A, o, v, m0, hA, hb, hx, rfl, hr⟩ := RLL_st h
    rw [pe_n hx hb (by omega), tl_n (T := (A, o, v)) hb (by omega), bd_some]
    by_cases e1 : A 0 7 + N ≤ 9999
    · obtain ⟨r, y', o', v', t1, t2, t3⟩ := lb_stroke hA hN (show A 0 7 < 10000 by omega) 6 1 FU FU 0 0 0 0 x (cpm m0 A) o v rfl (Nat.le_refl 1) (by decide) (by decide) (by decide) (Or.inl rfl) (is_x hx) (cpm_as m0 A)
      rw [if_pos e1, if_pos rfl, if_pos rfl, show rdc 3 (stC 4) 1 = some (nI 1) from by decide +kernel, bd_some, show X4_copyRow 1 3 (mst m0 (A, o, v)) = some (mst (cpm m0 A) (A, o, v)) from X4_aside_n m0 (A, o, v), bd_some, show (101 : Int32) = nI 101 from rfl, X4_setOf_n (T := (A, o, v)) hA (by decide) (by decide), bd_some]
      exact ⟨r, y', _, t1, t2, RLL_try hA hb hx hr t3 (km_cpm m0 A)⟩
    · rw [if_neg e1, if_neg (by decide), if_neg (by decide)]
      exact fl4 h
/-! force -/
theorem lb_force {A : AS} (hA : IA A) {N c : Nat} (hc : c < A 0 6) (hp : A 2 c < 42) (hN : N ≤ 60) (hb : A 0 7 < 10000) : ∀ (d s n n2 : Nat) (y m : St) (o v : Nat), s + d = 61 → d < n → d < n2 → Is y 1 A → AsE m A →
    ∃ (y' : St) (o' v' : Nat), Kp y y' ∧ ((∃ r : Int32, X3_force_L55 n (nI c) (nI N) (nI s) y = some (r, y') ∧ X4_force_L31 n2 (nI c) (nI N) (nI s) (mst m (A, o, v)) = some (r, mst m (A, o', v'))) ∨ (X3_force_L55 n (nI c) (nI N) (nI s) y = (X3_found 3 y').bind (fun (r, S) => some (r, S)) ∧ X4_force_L31 n2 (nI c) (nI N) (nI s) (mst m (A, o, v)) = (X4_finding (-1000004) (mst m (A, o', v'))).bind (fun (r, S) => some (r, S)))) := by
  intro d
  have hn := ia_n hA
  induction d with
  | zero =>
    intro s n n2 y m o v h1 h2 h3 hi as
    obtain ⟨n, rfl⟩ : ∃ m, n = m + 1 := ⟨n - 1, by omega⟩
    obtain ⟨n2, rfl⟩ : ∃ m, n2 = m + 1 := ⟨n2 - 1, by omega⟩
    unfold X3_force_L55 X4_force_L31
    rw [show rdc 3 (stC 5) 0 = some (nI 60) from by decide +kernel, bd_some, if_pos (ltY (by omega) (by omega)), if_pos (show (60 : Int32) < nI s from ltY (a := 60) (by omega) (by omega))]
    exact ⟨y, o, v, kp_id y, Or.inr ⟨rfl, rfl⟩⟩
  | succ d ih =>
    intro s n n2 y m o v h1 h2 h3 hi as
    obtain ⟨n, rfl⟩ : ∃ m, n = m + 1 := ⟨n - 1, by omega⟩
    obtain ⟨n2, rfl⟩ : ∃ m, n2 = m + 1 := ⟨n2 - 1, by omega⟩
    have hB : IA (u2 A 5 0 s) := IA_set hA (Or.inl ⟨rfl, by omega⟩)
    obtain ⟨S, s1, s2, s3, s4⟩ := tr_n hi (k := 5) (i := 0) (v := s) (N := N) (by decide) hB (by omega) (show A 0 7 < 20000 by omega)
    obtain ⟨g1, g2⟩ := bnA_IA N hB
    obtain ⟨c1, c2, c3, c4⟩ := bn_cnt hB N
    have hc2 : c < bnA N (u2 A 5 0 s) 0 6 := by rw [c2]; exact hc
    have hh := (bh_bn N (u2 A 5 0 s, 0, 0) hB).2 c hc
    have h100 : ¬ bnA N (u2 A 5 0 s) 2 c = 100 := fun z => by
      have q : A 2 c = 100 := hh.mp z
      omega
    have pp := ia_p g1 hc2
    have hw : wr (mst m (A, o, v)) 1 275 1 (nI s) = some (mst m (u2 A 5 0 s, o, v)) := mw (T := (A, o, v)) (i := 1) (B := u2 A 5 0 s) (by decide) (fun i => encu_t (q := 0) (by decide) i)
    obtain ⟨v1, hv⟩ := bnT_q N (u2 A 5 0 s, o, v)
    have l1 := ovA_le hB N
    unfold X3_force_L55 X4_force_L31
    rw [show rdc 3 (stC 5) 0 = some (nI 60) from by decide +kernel, bd_some, if_neg (ltN (by omega) (by omega)), if_neg (show ¬ (60 : Int32) < nI s from ltN (a := 60) (by omega) (by decide)), bd_some, show wr (put y 15 7 (blk y 1)) 20 3 0 (nI s) = some (ups (put y 15 7 (blk y 1)) (15 + 5) 0 (nI s)) from wr_i (i := 0) (by decide) (by decide), bd_some, s1, bd_some, bd_some, is_on s2 g1 hc2, bd_some, hw, bd_some, X4_beatsGo_n (T := (u2 A 5 0 s, o, v)) (by omega) hB (show A 0 7 + N < 1000000 by omega), bd_some, hv]
    dsimp only
    rw [if_pos (nI_pos' (show ovA N (u2 A 5 0 s) < 2147483648 by omega)), m_at (T := (bnA N (u2 A 5 0 s), o + ovA N (u2 A 5 0 s), v1)) (by omega), bd_some]
    unfold X4_force_L73
    rw [X4_putBack_n as, bd_some]
    dsimp only
    have tl := tp_lt (p := bnA N (u2 A 5 0 s) 2 c) (by omega)
    by_cases e : bnA N (u2 A 5 0 s) 2 c < 42
    · have t2 : ¬ 100 ≤ tp (bnA N (u2 A 5 0 s) 2 c) := by
        rw [tp_100 (by omega) (by omega)]
        exact fun z => z e
      rw [if_pos e, if_neg (show ¬ nI 1 = 0 by decide), if_pos (show nI (tp (bnA N (u2 A 5 0 s) 2 c)) ≤ 100 from leY (b := 100) (by omega) (by decide)), show nI s + 1 = nI (s + 1) from (nI_succ s).symm]
      obtain ⟨y', o', v', w1, w2⟩ := ih (s + 1) n n2 _ m (o + ovA N (u2 A 5 0 s)) v1 (by omega) (by omega) (by omega) s3 as
      exact ⟨y', o', v', kp_tr s4 w1, w2⟩
    · have t2 : ¬ tp (bnA N (u2 A 5 0 s) 2 c) ≤ 100 := by
        have z1 := tp_eq (p := bnA N (u2 A 5 0 s) 2 c) (x := 100) (by omega) (Nat.le_refl _)
        have z2 := tp_100 (p := bnA N (u2 A 5 0 s) 2 c) (by omega) (by omega)
        have y1 : ¬ tp (bnA N (u2 A 5 0 s) 2 c) = 100 := by rw [z1]; exact h100
        have y2 : 100 ≤ tp (bnA N (u2 A 5 0 s) 2 c) := by rw [z2]; exact e
        omega
      rw [if_neg e, if_pos (show nI 0 = 0 from rfl), if_neg (show ¬ nI (tp (bnA N (u2 A 5 0 s) 2 c)) ≤ 100 from leN (b := 100) t2 (by omega))]
      exact ⟨_, o + ovA N (u2 A 5 0 s), v1, s4, Or.inl ⟨nI s, rfl, rfl⟩⟩
theorem op_force (a b : Int32) : OPR (X3_force a b) (X4_force a b) := by
  intro x mm h
  unfold X3_force X4_force
  obtain ⟨A, o, v, m0, hA, hb, hx, rfl, hr⟩ := RLL_st h
  have hn := ia_n hA
  rw [ic_x hx]
  by_cases e : X3_within a 0 (nI (A 0 6) - 1) = 0
  · rw [if_pos e, rsh_no (T := (A, o, v)) a b (Or.inl e), bd_some, if_neg (by decide)]
    exact fl0 h
  · rw [if_neg e]
    by_cases e1 : X3_within b 1 60 = 0
    · rw [if_pos e1, rsh_no (T := (A, o, v)) a b (Or.inr e1), bd_some, if_neg (by decide)]
      exact fl0 h
    · obtain ⟨c, hc, rfl⟩ := ic_in hn e
      obtain ⟨N, hN1, hN, rfl⟩ := wi_in1 (l := 1) (m := 60) (by decide) (by decide) e1
      rw [if_neg e1, is_on (is_x hx) hA hc, bd_some, pe_n hx hb (by omega), rsh_n (T := (A, o, v)) hA hb hc hN1 hN, bd_some]
      by_cases e2 : A 2 c < 42
      · rw [if_pos e2, if_neg (show ¬ nI 1 = 0 by decide)]
        by_cases e3 : A 0 7 + N ≤ 9999
        · rw [if_pos e3, if_pos rfl, if_pos (show (if (A, o, v).1 2 c < 42 ∧ (A, o, v).1 0 7 + N ≤ 9999 then (0 : Int32) else -1000005) = 0 from if_pos (show (A, o, v).1 2 c < 42 ∧ (A, o, v).1 0 7 + N ≤ 9999 from ⟨e2, e3⟩)), show rdc 3 (stC 4) 0 = some (nI 0) from by decide +kernel, bd_some, show X4_copyRow 1 3 (mst m0 (A, o, v)) = some (mst (cpm m0 A) (A, o, v)) from X4_aside_n m0 (A, o, v), bd_some]
          obtain ⟨y', o', v', w1, w2⟩ := lb_force hA hc e2 hN (show A 0 7 < 10000 by omega) 61 0 FU FU x (cpm m0 A) o v rfl (by decide) (by decide) (is_x hx) (cpm_as m0 A)
          have fin : RLL y' (mst (cpm m0 A) (A, o', v')) := RLL_try hA hb hx hr w1 (km_cpm m0 A)
          rcases w2 with ⟨r, t1, t2⟩ | ⟨t1, t2⟩
          · exact ⟨r, y', _, t1, t2, fin⟩
          · obtain ⟨r, x', mm', r1, r2, r3⟩ := fl3 fin
            exact ⟨r, x', mm', t1.trans r1, t2.trans r2, r3⟩
        · rw [if_neg e3, if_neg (by decide), if_neg (show ¬ (if (A, o, v).1 2 c < 42 ∧ (A, o, v).1 0 7 + N ≤ 9999 then (0 : Int32) else -1000005) = 0 by rw [if_neg (show ¬ ((A, o, v).1 2 c < 42 ∧ (A, o, v).1 0 7 + N ≤ 9999) from fun z => e3 z.2)]; decide), if_neg (show ¬ ((A, o, v).1 2 c < 42 ∧ (A, o, v).1 0 7 + N ≤ 9999) from fun z => e3 z.2)]
          exact fl4 h
      · rw [if_neg e2, if_pos (show nI 0 = 0 from rfl), if_neg (show ¬ (if (A, o, v).1 2 c < 42 ∧ (A, o, v).1 0 7 + N ≤ 9999 then (0 : Int32) else -1000005) = 0 by rw [if_neg (show ¬ ((A, o, v).1 2 c < 42 ∧ (A, o, v).1 0 7 + N ≤ 9999) from fun z => e2 z.1)]; decide), if_neg (show ¬ ((A, o, v).1 2 c < 42 ∧ (A, o, v).1 0 7 + N ≤ 9999) from fun z => e2 z.1)]
        exact fl4 h
