/-! PURE 42: rest -/
theorem pr_few {c : Nat} (hc : c < 7) : ∀ (d : Nat) (T : TS), d ≤ 6 → IA T.1 → colR T.1 c d → (prT c d T).2.2 ≤ T.2.2 + 4 * d := by
  intro d
  induction d with
  | zero => intro T _ h _; exact Nat.le_refl _
  | succ d ih =>
    intro T hd h hr
    obtain ⟨h1, h2⟩ := colR_mv h hc (by omega) hr
    have h3 := ih (gnT T c d) (by omega) (IA_mv h hc (by omega) h2) h1
    have h4 := ia_h h (show c * 6 + d < 42 by omega)
    have h5 : (gnT T c d).2.2 = T.2.2 + T.1 3 (c * 6 + d) := rfl
    have h6 : prT c (d + 1) T = prT c d (gnT T c d) := rfl
    rw [h6]
    omega
theorem pa_few : ∀ (d c : Nat) (T : TS), c + d = 7 → IA T.1 → (paT d c T).2.2 ≤ T.2.2 + 24 * d := by
  intro d
  induction d with
  | zero => intro c T _ h; exact Nat.le_refl _
  | succ d ih =>
    intro c T hc h
    unfold paT
    by_cases e : pmA T.1 c = true
    · rw [if_pos e]
      have h1 := rnA_le T.1 c 6 0
      have h2 := prT_IA (show c < 7 by omega) _ T (by omega) h (colR0 T.1 c)
      have h3 := pr_few (show c < 7 by omega) (rnA T.1 c 6 0) T (by omega) h (colR0 T.1 c)
      have h4 := ih (c + 1) _ (by omega) h2
      omega
    · rw [if_neg e]
      have h4 := ih (c + 1) T (by omega) h
      omega
theorem sr_few {row : Nat} (hr : row < 6) : ∀ (d c : Nat) (T : TS), c + d = 7 → IA T.1 → (srT row d c T).2.2 ≤ T.2.2 + d := by
  intro d
  induction d with
  | zero => intro c T _ h; exact Nat.le_refl _
  | succ d ih =>
    intro c T hc h
    unfold srT
    by_cases e : leanA T.1 (c * 6 + row) = true
    · rw [if_pos e]
      obtain ⟨h1, h2⟩ := lean_pre h (show c * 6 + row < 42 by omega) e
      have h3 := ih (c + 1) (slT T (c * 6 + row)) (by omega) (IA_slide h (by omega) h1 h2)
      have h5 : (slT T (c * 6 + row)).2.2 = T.2.2 + 1 := rfl
      omega
    · rw [if_neg e]
      have h3 := ih (c + 1) T (by omega) h
      omega
theorem sa_few : ∀ (d : Nat) (T : TS), d ≤ 6 → IA T.1 → (saT d T).2.2 ≤ T.2.2 + 7 * d := by
  intro d
  induction d with
  | zero => intro T _ h; exact Nat.le_refl _
  | succ d ih =>
    intro T hd h
    unfold saT
    have h1 := srT_IA (show d < 6 by omega) 7 0 T rfl h
    have h2 := sr_few (show d < 6 by omega) 7 0 T rfl h
    have h3 := ih _ (by omega) h1.1
    omega
theorem bt_few {T : TS} (h : IA T.1) : (btT T).2.2 ≤ T.2.2 + 300 := by
  rw [btT_eq]
  dsimp only
  unfold btU
  split
  · have h1 := paT_IA 7 0 T rfl h
    have h2 := pa_few 7 0 T rfl h
    have h3 := sa_few 6 _ (by decide) h1.1
    omega
  · have h3 := sa_few 6 T (by decide) h
    omega
theorem nI_near {a b : Nat} (h : a ≤ b) (h2 : b < a + 4294967296) : (nI b = nI a) = (b = a) := by
  refine propext ⟨fun e => ?_, fun e => by rw [e]⟩
  have q := congrArg (fun x : Int32 => x.toBitVec.toNat) e
  have z : ∀ n, (nI n).toBitVec.toNat = n % 4294967296 := fun n => BitVec.toNat_ofNat n 32
  have q2 : (nI b).toBitVec.toNat = (nI a).toBitVec.toNat := q
  rw [z, z] at q2
  omega
theorem is_pass {y : St} {b : Nat} {T : TS} (h : Is y b T.1) (hA : IA T.1) (hb : T.1 0 7 < 1000000) : ∃ S, X1_passBeat (blk y b) = some (nI (if T.2.2 < (btT T).2.2 then 1 else 0), S) ∧ ∀ z, Is (put z b 7 S) b (btT T).1 := by
  obtain ⟨B, h1, h2⟩ := is_blk h
  have e : E7T (btT T) (btT (B, T.2)) := e7_bt ⟨h1, rfl⟩
  have z := X1_passBeat_n (T := (B, T.2)) (IA_eq h1 hA) (by show B 0 7 < 1000000; rw [← h1 0 (by decide)]; exact hb)
  refine ⟨rp (btT (B, T.2)).1, ?_, fun w => is_put w b e.1⟩
  rw [h2, z, e.2]
theorem l105 {m : St} {A : AS} (as : AsE m A) (T : TS) {t : Nat} (ht : t < 2147483648) : X4_rest_L105 (nI t) (mst m T) = some (nI t, mst m (A, T.2.1, T.2.2)) := by
  obtain ⟨T1, o, v⟩ := T
  unfold X4_rest_L105
  rw [X4_putBack_n as, bd_some]
  dsimp only
  rw [if_pos (nI_pos' ht)]
theorem l105n {m : St} {A : AS} (as : AsE m A) (T : TS) : X4_rest_L105 (-1) (mst m T) = (X4_finding (-1000004) (mst m (A, T.2))).bind (fun (r, S) => some (r, S)) := by
  unfold X4_rest_L105
  rw [X4_putBack_n as, bd_some]
  dsimp only
  rw [if_neg (by decide)]
theorem l34d {m : St} {T : TS} {K q i n : Nat} (hK : T.1 5 1 = K) (hq : K ≤ q) (hq2 : q ≤ i) (hi : i < 1000) : X4_rest_L34 (n + 1) (nI q) (nI i) (mst m T) = X4_rest_L105 (nI (i - q)) (mst m T) := by
  have e : X4_rest_L88 (nI q) (nI i) (mst m T) = X4_rest_L105 (nI (i - q)) (mst m T) := by
    unfold X4_rest_L88
    rw [show (2 : Int32) = nI 2 from rfl, md (by decide), bd_some, enc_2, hK, if_pos (leY hq (by omega)), sub_n hq2]
  unfold X4_rest_L34
  rw [show (2 : Int32) = nI 2 from rfl, md (by decide), bd_some, bd_some, enc_2, hK, if_pos (leY hq (by omega)), e]
  split <;> rfl
theorem lb_rest {m : St} {A : AS} (as : AsE m A) {K : Nat} (hK1 : 1 ≤ K) (hK : K ≤ 6) : ∀ (d i q n n2 : Nat) (y : St) (T : TS), i + d = 60 + K → d < n → d + 1 < n2 → q < K → q ≤ i → IA T.1 → T.1 5 1 = K → T.1 0 7 + d < 20000 → Is y 15 T.1 →
    ∃ (y' : St) (o' v' : Nat), Kp y y' ∧ ((∃ r : Int32, X3_rest_L44 n (nI K) (nI q) (nI (i + 1)) y = some (r, y') ∧ X4_rest_L34 n2 (nI q) (nI i) (mst m T) = some (r, mst m (A, o', v'))) ∨ (X3_rest_L44 n (nI K) (nI q) (nI (i + 1)) y = (X3_found 3 y').bind (fun (r, S) => some (r, S)) ∧ X4_rest_L34 n2 (nI q) (nI i) (mst m T) = (X4_finding (-1000004) (mst m (A, o', v'))).bind (fun (r, S) => some (r, S)))) := by
  intro d
  induction d with
  | zero =>
    intro i q n n2 y T h1 h2 h3 hq hqi hA hT hb hi
    obtain ⟨n, rfl⟩ : ∃ m, n = m + 1 := ⟨n - 1, by omega⟩
    obtain ⟨n2, rfl⟩ : ∃ m, n2 = m + 1 := ⟨n2 - 1, by omega⟩
    have e : X4_rest_L88 (nI q) (nI i) (mst m T) = X4_rest_L105 (-1) (mst m T) := by
      unfold X4_rest_L88
      rw [show (2 : Int32) = nI 2 from rfl, md (by decide), bd_some, enc_2, hT, if_neg (leN (by omega) (by omega))]
    unfold X3_rest_L44 X4_rest_L34
    rw [show (60 : Int32) = nI 60 from rfl, nI_add, if_pos (ltY (by omega) (by omega)), show (2 : Int32) = nI 2 from rfl, md (by decide), bd_some, enc_2, hT, nI_add, if_pos (leY (by omega) (by omega)), e, l105n as]
    exact ⟨y, T.2.1, T.2.2, kp_id y, Or.inr ⟨rfl, rfl⟩⟩
  | succ d ih =>
    intro i q n n2 y T h1 h2 h3 hq hqi hA hT hb hi
    obtain ⟨n, rfl⟩ : ∃ m, n = m + 1 := ⟨n - 1, by omega⟩
    obtain ⟨n2, rfl⟩ : ∃ m, n2 = m + 2 := ⟨n2 - 2, by omega⟩
    obtain ⟨g1, g2, g3⟩ := btT_IA hA
    have g4 := btT_beat T
    have g5 : (btT T).1 5 1 = K := by
      rw [btT_r T (by decide) (by decide) (by decide) (by decide)]
      exact hT
    have fw := bt_few hA
    have nr := nI_near g3 (show (btT T).2.2 < T.2.2 + 4294967296 by omega)
    obtain ⟨S, s1, s2⟩ := is_pass hi hA (by omega)
    have t := s2 y
    have kk : Kp y (put y 15 7 S) := kp_put _ _ (Or.inl rfl)
    have e4 : X4_rest_L34 (n2 + 2) (nI q) (nI i) (mst m T) = if (btT T).2.2 = T.2.2 then X4_rest_L34 (n2 + 1) (nI (q + 1)) (nI (i + 1)) (mst m (btT T)) else X4_rest_L34 (n2 + 1) (nI 0) (nI (i + 1)) (mst m (btT T)) := by
      show ((rd (mst m T) 1 275 2).bind _) = _
      rw [show (2 : Int32) = nI 2 from rfl, md (by decide), bd_some, bd_some, enc_2, hT, show (60 : Int32) = nI 60 from rfl, nI_add, if_neg (leN (by omega) (by omega)), if_neg (leN (by omega) (by omega)), X4_beat_n hA (by omega), bd_some, mst_v, mst_v, show nI q + 1 = nI (q + 1) from (nI_succ q).symm, show nI i + 1 = nI (i + 1) from (nI_succ i).symm]
      by_cases e : (btT T).2.2 = T.2.2
      · rw [if_pos e, if_pos (nr.mpr e)]
      · rw [if_neg e, if_neg (fun z => e (nr.mp z))]
        rfl
    have e3 : X3_rest_L44 (n + 1) (nI K) (nI q) (nI (i + 1)) y = X3_rest_L69 (X3_rest_L44 n) (nI K) (nI (i + 1)) (nI (if (btT T).2.2 = T.2.2 then q + 1 else 0)) (put y 15 7 S) := by
      show (if (60 : Int32) + nI K < nI (i + 1) then _ else _) = _
      rw [show (60 : Int32) = nI 60 from rfl, nI_add, if_neg (ltN (by omega) (by omega)), s1, bd_some]
      dsimp only
      rw [bd_some, show nI q + 1 = nI (q + 1) from (nI_succ q).symm]
      by_cases e : (btT T).2.2 = T.2.2
      · rw [if_neg (show ¬ T.2.2 < (btT T).2.2 by omega), if_pos (show nI 0 = 0 from rfl), if_pos e]
      · rw [if_pos (show T.2.2 < (btT T).2.2 by omega), if_neg (show ¬ nI 1 = 0 by decide), if_neg e]
        rfl
    rw [e3, e4]
    unfold X3_rest_L69
    by_cases e : (btT T).2.2 = T.2.2
    · rw [if_pos e, if_pos e]
      by_cases f : q + 1 < K
      · rw [if_pos (ltY f (by omega)), show nI (i + 1) + 1 = nI (i + 1 + 1) from (nI_succ (i + 1)).symm]
        obtain ⟨y', o', v', w1, w2⟩ := ih (i + 1) (q + 1) n (n2 + 1) (put y 15 7 S) (btT T) (by omega) (by omega) (by omega) f (by omega) g1 g5 (by omega) t
        exact ⟨y', o', v', kp_tr kk w1, w2⟩
      · rw [if_neg (ltN f (by omega)), l34d g5 (by omega) (by omega) (by omega), l105 as _ (by omega), sub_n (by omega), show q + 1 = K by omega]
        exact ⟨_, (btT T).2.1, (btT T).2.2, kk, Or.inl ⟨_, rfl, rfl⟩⟩
    · rw [if_neg e, if_neg e, if_pos (ltY (by omega) (by omega)), show nI (i + 1) + 1 = nI (i + 1 + 1) from (nI_succ (i + 1)).symm]
      obtain ⟨y', o', v', w1, w2⟩ := ih (i + 1) 0 n (n2 + 1) (put y 15 7 S) (btT T) (by omega) (by omega) (by omega) (by omega) (by omega) g1 g5 (by omega) t
      exact ⟨y', o', v', kp_tr kk w1, w2⟩
theorem op_rest : OPR X3_rest X4_rest := by
  intro x mm h
  unfold X3_rest X4_rest
  obtain ⟨A, o, v, m0, hA, hb, hx, rfl, hr⟩ := RLL_st h
  have hs := ia_set hA
  have hi := is_x hx
  rw [show x 1 7 = nI (A 0 7) from xat hx 0 7, show (0 : Int32) = nI 0 from rfl, md (T := (A, o, v)) (by decide), bd_some, enc_0]
  by_cases e : A 0 7 ≤ 9930
  · rw [if_pos (show nI (A 0 7) ≤ 9930 from leY (b := 9930) e (by decide)), if_pos (show nI ((A, o, v).1 0 7) ≤ 9930 from leY (b := 9930) e (by decide)), show rd x 6 3 1 = some (nI (A 5 1)) from xrd hx 5 (i := 1) (by decide) (by decide), bd_some, bd_some, show X4_copyRow 1 3 (mst m0 (A, o, v)) = some (mst (cpm m0 A) (A, o, v)) from X4_aside_n m0 (A, o, v), bd_some]
    have hF : 60 + A 5 1 + 1 < FU := Nat.lt_of_le_of_lt (show 60 + A 5 1 + 1 ≤ 67 by omega) (by decide)
    obtain ⟨y', o', v', w1, w2⟩ := lb_rest (cpm_as m0 A) hs.2.1 hs.2.2.1 (60 + A 5 1) 0 0 FU FU (put x 15 7 (blk x 1)) (A, o, v) (Nat.zero_add _) (Nat.lt_of_succ_lt hF) hF hs.2.1 (Nat.le_refl 0) hA rfl (show A 0 7 + (60 + A 5 1) < 20000 by omega) (is_cpy hi)
    have fin : RLL y' (mst (cpm m0 A) (A, o', v')) := RLL_try hA hb hx hr (kp_tr (kp_put x _ (Or.inl rfl)) w1) (km_cpm m0 A)
    rcases w2 with ⟨r, t1, t2⟩ | ⟨t1, t2⟩
    · exact ⟨r, y', _, t1, t2, fin⟩
    · obtain ⟨r, x', mm', r1, r2, r3⟩ := fl3 fin
      exact ⟨r, x', mm', t1.trans r1, t2.trans r2, r3⟩
  · rw [if_neg (show ¬ nI (A 0 7) ≤ 9930 from leN (b := 9930) e (by omega)), if_neg (show ¬ nI ((A, o, v).1 0 7) ≤ 9930 from leN (b := 9930) e (show A 0 7 < 2147483648 by omega))]
    exact fl4 h
