/-! PURE 41: kindFor -/
theorem IA_kind {A : AS} (hA : IA A) {c k : Nat} (hk : k < 7) : IA (u2 A 1 c k) := by
  have r1 : ∀ d, u2 A 1 c k 1 d = if d = c then k else A 1 d := fun d => rfl
  unfold IA
  rw [show u2 A 1 c k 0 = A 0 from rfl, show u2 A 1 c k 2 = A 2 from rfl, show u2 A 1 c k 3 = A 3 from rfl, show u2 A 1 c k 4 = A 4 from rfl, show u2 A 1 c k 5 = A 5 from rfl, show u2 A 1 c k 6 = A 6 from rfl]
  refine ⟨⟨ia_n hA, fun d hd => ?_, hA.1.2.2⟩, hA.2⟩
  rw [r1]
  split
  · omega
  · exact ia_k hA hd
theorem wo_k {A B : AS} {s c : Nat} (h : ∀ i, i ≠ c → A 1 i = B 1 i) (hs : s.testBit c = false) : ∀ d k w, woA A s d k w = woA B s d k w := by
  intro d
  induction d with
  | zero => intro k w; rfl
  | succ d ih =>
    intro k w
    unfold woA
    by_cases e : s.testBit k = true
    · have kc : k ≠ c := fun z => by rw [z, hs] at e; exact Bool.false_ne_true e
      rw [if_pos e, if_pos e, h k kc, ih]
    · rw [if_neg e, if_neg e, ih]
theorem wo_zero {A : AS} {s : Nat} : ∀ d k w, (∀ i, k ≤ i → i < k + d → s.testBit i = false) → woA A s d k w = w := by
  intro d
  induction d with
  | zero => intro k w _; rfl
  | succ d ih =>
    intro k w h
    unfold woA
    rw [h k (Nat.le_refl k) (by omega), if_neg Bool.false_ne_true]
    exact ih (k + 1) w (fun i h1 h2 => h i (by omega) (by omega))
theorem wo_one {A : AS} {s c : Nat} : ∀ d k w, k ≤ c → c < k + d → (∀ i, k ≤ i → i < k + d → (s.testBit i = true ↔ i = c)) → woA A s d k w = w + WOR (A 1 c) := by
  intro d
  induction d with
  | zero => intro k w h1 h2 _; omega
  | succ d ih =>
    intro k w h1 h2 h
    unfold woA
    by_cases e : k = c
    · subst e
      rw [if_pos ((h k (Nat.le_refl k) (by omega)).mpr rfl)]
      refine wo_zero d (k + 1) _ (fun i i1 i2 => ?_)
      rw [← Bool.not_eq_true]
      exact fun z => absurd ((h i (by omega) (by omega)).mp z) (by omega)
    · rw [if_neg (fun z => e ((h k (Nat.le_refl k) (by omega)).mp z))]
      exact ih (k + 1) w (by omega) (by omega) (fun i i1 i2 => h i (by omega) (by omega))
/-- what is won: before, the others, the coin's own -/
theorem kf_w {A : AS} (hA : IA A) {c k N : Nat} (hc : c < A 0 6) (hp : A 2 c < 42) (hk : k < 7) :
    wot (bnA N (u2 A 1 c k)) (msk (bnA N (u2 A 1 c k)) 101) = wot A (msk A 101) + wot (bnA N (u2 A 1 c k)) (wo_ (wo_ (msk (bnA N (u2 A 1 c k)) 101) (msk A 101)) (2 ^ c)) + (if bnA N (u2 A 1 c k) 2 c = 101 then WOR k else 0) := by
  have hB := IA_kind hA (c := c) hk
  have hn := ia_n hA
  obtain ⟨c1, c2, c3, c4⟩ := bn_cnt hB N
  have k1 : bnA N (u2 A 1 c k) 1 c = k := by
    rw [c4]
    exact u2_eq A 1 c k
  have k2 : ∀ i, i ≠ c → bnA N (u2 A 1 c k) 1 i = A 1 i := fun i hi => by
    rw [c4]
    exact if_neg hi
  have k3 : ∀ i, i < A 0 6 → ¬ A 2 i < 42 → bnA N (u2 A 1 c k) 2 i = A 2 i := fun i h1 h2 => c3 i h1 h2
  have k0 : bnA N (u2 A 1 c k) 0 6 = A 0 6 := c2
  generalize bnA N (u2 A 1 c k) = B at k0 k1 k2 k3
  have b0 : (msk A 101).testBit c = false := by
    rw [msk_bit, decide_eq_false (show ¬ A 2 c = 101 by omega), Bool.and_false]
  have s1 : wot B (msk B 101) = wot B (msk A 101) + wot B (wo_ (msk B 101) (msk A 101)) := by
    unfold wot
    refine woA_split (A := B) (s := msk B 101) (t := msk A 101) (u := wo_ (msk B 101) (msk A 101)) (B 0 6) 0 0 0 (fun i _ hi => ?_)
    have hi2 : i < A 0 6 := by omega
    rw [wo_bit _ _ (show i < 32 by omega), msk_bit, msk_bit, k0, decide_eq_true hi2, Bool.true_and, Bool.true_and]
    by_cases e : A 2 i = 101
    · rw [decide_eq_true e, decide_eq_true (show B 2 i = 101 by rw [k3 i hi2 (by omega), e])]
      exact ⟨rfl, by decide⟩
    · rw [decide_eq_false e]
      cases decide (B 2 i = 101) <;> exact ⟨rfl, by decide⟩
  have s2 : wot B (msk A 101) = wot A (msk A 101) := by
    unfold wot
    rw [k0]
    exact wo_k k2 b0 (A 0 6) 0 0
  have s3 : wot B (wo_ (msk B 101) (msk A 101)) = wot B (wo_ (wo_ (msk B 101) (msk A 101)) (2 ^ c)) + wot B (if B 2 c = 101 then 2 ^ c else 0) := by
    unfold wot
    refine woA_split (A := B) (B 0 6) 0 0 0 (fun i _ hi => ?_)
    have hi2 : i < A 0 6 := by omega
    rw [wo_bit _ _ (show i < 32 by omega), wo_bit (wo_ (msk B 101) (msk A 101)) _ (show i < 32 by omega), wo_bit _ _ (show i < 32 by omega), Nat.testBit_two_pow, msk_bit, msk_bit, k0, decide_eq_true hi2, Bool.true_and, Bool.true_and]
    by_cases e : B 2 c = 101
    · rw [if_pos e, Nat.testBit_two_pow]
      by_cases ic : c = i
      · subst ic
        rw [decide_eq_true e, decide_eq_false (show ¬ A 2 c = 101 by omega), decide_eq_true (show c = c from rfl)]
        exact ⟨rfl, by decide⟩
      · rw [decide_eq_false ic]
        cases decide (B 2 i = 101) <;> cases decide (A 2 i = 101) <;> exact ⟨rfl, by decide⟩
    · rw [if_neg e, Nat.zero_testBit]
      by_cases ic : c = i
      · subst ic
        rw [decide_eq_false e]
        exact ⟨rfl, by simp⟩
      · rw [decide_eq_false ic]
        cases decide (B 2 i = 101) <;> cases decide (A 2 i = 101) <;> exact ⟨rfl, by decide⟩
  have s4 : wot B (if B 2 c = 101 then 2 ^ c else 0) = if B 2 c = 101 then WOR k else 0 := by
    by_cases e : B 2 c = 101
    · rw [if_pos e, if_pos e]
      unfold wot
      rw [wo_one (c := c) (B 0 6) 0 0 (Nat.zero_le _) (by omega) (fun i _ _ => by rw [Nat.testBit_two_pow, decide_eq_true_eq]; exact eq_comm), k1, Nat.zero_add]
    · rw [if_neg e, if_neg e]
      unfold wot
      exact wo_zero (B 0 6) 0 0 (fun i _ _ => Nat.zero_testBit i)
  omega
theorem an_as (a b c : Int32) : a &&& (b &&& c) = (a &&& b) &&& c := by
  apply Int32.toBitVec_inj.1
  rw [Int32.toBitVec_and, Int32.toBitVec_and, Int32.toBitVec_and, Int32.toBitVec_and, BitVec.and_assoc]
theorem lb_kind {A : AS} (hA : IA A) {N c : Nat} (hc : c < A 0 6) (hp : A 2 c < 42) (hN : N ≤ 60) (hb : A 0 7 < 10000) : ∀ (d s n n2 : Nat) (bx mx ml : Int32) (y m : St) (o v : Nat), s + d = 7 → d < n → d < n2 → (bx = -1 ∧ ml = -1) ∨ (∃ bb l, bb < 7 ∧ l < 5000 ∧ bx = nI bb ∧ mx = nI (wot A (msk A 101) + l) ∧ ml = nI l) → Is y 1 A → AsE m A →
    ∃ (r : Int32) (y' : St) (o' v' : Nat), X3_kindFor_L57 n (nI c) (nI N) bx mx (nI s) y = some (r, y') ∧ X4_kindFor_L53 n2 (nI c) (nI N) ((nI (msk A 101) ^^^ (-1)) &&& ((shl32 1 (nI c)) ^^^ (-1))) bx ml (nI s) (mst m (A, o, v)) = some (r, mst m (A, o', v')) ∧ Kp y y' := by
  intro d
  have hn := ia_n hA
  have w0 := wot_le hn (msk A 101)
  have hsh : shl32 1 (nI c) = nI (2 ^ c) := shl_n (c := c) (by omega)
  induction d with
  | zero =>
    intro s n n2 bx mx ml y m o v h1 h2 h3 hl hi as
    obtain ⟨n, rfl⟩ : ∃ m, n = m + 1 := ⟨n - 1, by omega⟩
    obtain ⟨n2, rfl⟩ : ∃ m, n2 = m + 1 := ⟨n2 - 1, by omega⟩
    unfold X3_kindFor_L57 X4_kindFor_L53
    rw [if_pos (show (7 : Int32) ≤ nI s from leY (a := 7) (by omega) (by omega)), if_pos (show (6 : Int32) < nI s from ltY (a := 6) (by omega) (by omega))]
    exact ⟨_, y, o, v, rfl, rfl, kp_id y⟩
  | succ d ih =>
    intro s n n2 bx mx ml y m o v h1 h2 h3 hl hi as
    obtain ⟨n, rfl⟩ : ∃ m, n = m + 1 := ⟨n - 1, by omega⟩
    obtain ⟨n2, rfl⟩ : ∃ m, n2 = m + 1 := ⟨n2 - 1, by omega⟩
    have hB : IA (u2 A 1 c s) := IA_kind hA (by omega)
    obtain ⟨S, s1, s2, s3, s4⟩ := tr_n hi (k := 1) (i := c) (v := s) (N := N) (by decide) hB (by omega) (show A 0 7 < 20000 by omega)
    obtain ⟨o1, v1, q1⟩ := X4_wonIn_n as hB (N := N) (by omega) (show A 0 7 < 20000 by omega) (a2 := (nI (msk A 101) ^^^ (-1)) &&& ((shl32 1 (nI c)) ^^^ (-1))) (F := fun t => wo_ (wo_ t (msk A 101)) (2 ^ c)) (fun t ht => ⟨by rw [hsh, an_as, wo_n, wo_n], wo_lt (wo_lt ht)⟩) o v
    obtain ⟨g1, g2⟩ := bnA_IA N hB
    have c2 : bnA N (u2 A 1 c s) 0 6 = A 0 6 := (bn_cnt hB N).2.1
    have ww := kf_w hA (N := N) hc hp (show s < 7 by omega)
    have wB := wot_le (A := bnA N (u2 A 1 c s)) (ia_n g1) (wo_ (wo_ (msk (bnA N (u2 A 1 c s)) 101) (msk A 101)) (2 ^ c))
    have ka := WOR_le s
    have pp := ia_p2 g1 (c := c) (by omega)
    have hw : wr (mst m (A, o, v)) 1 275 (17 + nI c) (nI s) = some (mst m (u2 A 1 c s, o, v)) := by
      rw [show (17 : Int32) = nI 17 from rfl, nI_add]
      exact mw (T := (A, o, v)) (i := 17 + c) (B := u2 A 1 c s) (by omega) (fun i => encu_k (by omega) i)
    have take : ∀ q, q < 5000 → ∃ (r : Int32) (y' : St) (o' v' : Nat), X3_kindFor_L57 n (nI c) (nI N) (nI s) (nI (wot A (msk A 101) + q)) (nI (s + 1)) (put (ups (put y 15 7 (blk y 1)) (15 + 1) c (nI s)) 15 7 S) = some (r, y') ∧ X4_kindFor_L53 n2 (nI c) (nI N) ((nI (msk A 101) ^^^ (-1)) &&& ((shl32 1 (nI c)) ^^^ (-1))) (nI s) (nI q) (nI (s + 1)) (mst m (A, o1, v1)) = some (r, mst m (A, o', v')) ∧ Kp (put (ups (put y 15 7 (blk y 1)) (15 + 1) c (nI s)) 15 7 S) y' :=
      fun q hq => ih (s + 1) n n2 (nI s) (nI (wot A (msk A 101) + q)) (nI q) _ m o1 v1 (by omega) (by omega) (by omega) (Or.inr ⟨s, q, by omega, hq, rfl, rfl, rfl⟩) s3 as
    have keep : ∀ bb l, bb < 7 → l < 5000 → ∃ (r : Int32) (y' : St) (o' v' : Nat), X3_kindFor_L57 n (nI c) (nI N) (nI bb) (nI (wot A (msk A 101) + l)) (nI (s + 1)) (put (ups (put y 15 7 (blk y 1)) (15 + 1) c (nI s)) 15 7 S) = some (r, y') ∧ X4_kindFor_L53 n2 (nI c) (nI N) ((nI (msk A 101) ^^^ (-1)) &&& ((shl32 1 (nI c)) ^^^ (-1))) (nI bb) (nI l) (nI (s + 1)) (mst m (A, o1, v1)) = some (r, mst m (A, o', v')) ∧ Kp (put (ups (put y 15 7 (blk y 1)) (15 + 1) c (nI s)) 15 7 S) y' :=
      fun bb l hbb hl2 => ih (s + 1) n n2 (nI bb) (nI (wot A (msk A 101) + l)) (nI l) _ m o1 v1 (by omega) (by omega) (by omega) (Or.inr ⟨bb, l, hbb, hl2, rfl, rfl, rfl⟩) s3 as
    have own : ∀ t0, t0 = (if bnA N (u2 A 1 c s) 2 c = 101 then WOR s else 0) → ∃ (r : Int32) (y' : St) (o' v' : Nat), X3_kindFor_L118 (X3_kindFor_L57 n) (nI c) (nI N) bx mx (nI s) (nI t0) (put (ups (put y 15 7 (blk y 1)) (15 + 1) c (nI s)) 15 7 S) = some (r, y') ∧ X4_kindFor_L53 (n2 + 1) (nI c) (nI N) ((nI (msk A 101) ^^^ (-1)) &&& ((shl32 1 (nI c)) ^^^ (-1))) bx ml (nI s) (mst m (A, o, v)) = some (r, mst m (A, o', v')) ∧ Kp (put (ups (put y 15 7 (blk y 1)) (15 + 1) c (nI s)) 15 7 S) y' := by
      intro t0 ht
      rw [← ht] at ww
      unfold X3_kindFor_L118 X4_kindFor_L53 X4_kindFor_L94
      rw [show (101 : Int32) = nI 101 from rfl, is_worthAt s2 g1 (by decide), bd_some, ww, sub_n (by omega), Nat.add_sub_cancel, if_neg (show ¬ (6 : Int32) < nI s from ltN (a := 6) (by omega) (by decide)), hw, bd_some, q1, bd_some]
      dsimp only
      rw [show nI s + 1 = nI (s + 1) from (nI_succ s).symm]
      generalize wot (bnA N (u2 A 1 c s)) (wo_ (wo_ (msk (bnA N (u2 A 1 c s)) 101) (msk A 101)) (2 ^ c)) = q at wB
      unfold mxI
      rcases hl with ⟨e1, e2⟩ | ⟨bb, l, e1, e2, e3, e4, e5⟩
      · have z1 : (-1 : Int32) < nI q := by
          have : (-1 : Int32) < 0 := by decide
          exact Int32.lt_of_lt_of_le this (nI_pos' (by omega))
        rw [e1, e2, if_pos (show (-1 : Int32) < 0 by decide), if_neg (Int32.not_le.mpr z1), if_pos z1]
        exact take q (by omega)
      · rw [e3, e4, e5, if_neg (nI_pos (by omega))]
        by_cases e6 : q ≤ l
        · rw [if_pos (leY (by omega) (by omega)), if_pos (leY (by omega) (by omega)), if_neg (ltN (by omega) (by omega))]
          exact keep bb l e1 e2
        · rw [if_neg (leN (by omega) (by omega)), if_neg (leN (by omega) (by omega)), if_pos (ltY (by omega) (by omega))]
          exact take q (by omega)
    have fin : ∃ t0, t0 = (if bnA N (u2 A 1 c s) 2 c = 101 then WOR s else 0) ∧ X3_kindFor_L57 (n + 1) (nI c) (nI N) bx mx (nI s) y = X3_kindFor_L118 (X3_kindFor_L57 n) (nI c) (nI N) bx mx (nI s) (nI t0) (put (ups (put y 15 7 (blk y 1)) (15 + 1) c (nI s)) 15 7 S) := by
      show ∃ t0, _ ∧ (if (7 : Int32) ≤ nI s then _ else _) = _
      rw [if_neg (show ¬ (7 : Int32) ≤ nI s from leN (a := 7) (by omega) (by decide)), bd_some, show wr (put y 15 7 (blk y 1)) 16 24 (nI c) (nI s) = some (ups (put y 15 7 (blk y 1)) (15 + 1) c (nI s)) from wr_i (i := c) (by omega) (by decide), bd_some, s1, bd_some, bd_some, show rd (put (ups (put y 15 7 (blk y 1)) (15 + 1) c (nI s)) 15 7 S) 17 24 (nI c) = some (nI (bnA N (u2 A 1 c s) 2 c)) from is_at (b := 15) s2 (by omega), bd_some]
      by_cases e : bnA N (u2 A 1 c s) 2 c = 101
      · refine ⟨WOR s, (if_pos e).symm, ?_⟩
        rw [if_pos (show nI (bnA N (u2 A 1 c s) 2 c) = 101 from congrArg nI e), rdc_n (by omega) (by decide), bd_some, stC1 (show s < 7 by omega)]
      · refine ⟨0, (if_neg e).symm, ?_⟩
        rw [if_neg (show ¬ nI (bnA N (u2 A 1 c s) 2 c) = 101 from eqN (b := 101) e (by omega) (by decide))]
        rfl
    obtain ⟨t0, f1, f2⟩ := fin
    obtain ⟨r, y', o', v', t1, t2, t3⟩ := own t0 f1
    exact ⟨r, y', o', v', f2.trans t1, t2, kp_tr s4 t3⟩
theorem op_kindFor (a b : Int32) : OPR (X3_kindFor a b) (X4_kindFor a b) := by
  intro x mm h
  unfold X3_kindFor X4_kindFor
  obtain ⟨A, o, v, m0, hA, hb, hx, rfl, hr⟩ := RLL_st h
  have hn := ia_n hA
  rw [ic_x hx]
  by_cases e : X3_within a 0 (nI (A 0 6) - 1) = 0
  · rw [if_pos e, rsh_no (T := (A, o, v)) a b (Or.inl e), bd_some, if_neg (by decide)]
    exact fl0 h
  · rw [if_neg e]
    by_cases e1 : X3_within b 1 60 = 0
    · rw [if_pos e1, rsh_no (T := (A, o, v)) a b (Or.inr e1), bd_some, if_neg (by decide)]
      exact fl0 h
    · obtain ⟨c, hc, rfl⟩ := ic_in hn e
      obtain ⟨N, hN1, hN, rfl⟩ := wi_in1 (l := 1) (m := 60) (by decide) (by decide) e1
      rw [if_neg e1, is_on (is_x hx) hA hc, bd_some, pe_n hx hb (by omega), rsh_n (T := (A, o, v)) hA hb hc hN1 hN, bd_some]
      by_cases e2 : A 2 c < 42
      · rw [if_pos e2, if_neg (show ¬ nI 1 = 0 by decide)]
        by_cases e3 : A 0 7 + N ≤ 9999
        · rw [if_pos e3, if_pos rfl, if_pos (show (if (A, o, v).1 2 c < 42 ∧ (A, o, v).1 0 7 + N ≤ 9999 then (0 : Int32) else -1000005) = 0 from if_pos (show (A, o, v).1 2 c < 42 ∧ (A, o, v).1 0 7 + N ≤ 9999 from ⟨e2, e3⟩)), show X4_copyRow 1 3 (mst m0 (A, o, v)) = some (mst (cpm m0 A) (A, o, v)) from X4_aside_n m0 (A, o, v), bd_some, show (101 : Int32) = nI 101 from rfl, X4_setOf_n (T := (A, o, v)) hA (by decide) (by decide), bd_some]
          obtain ⟨r, y', o', v', w1, w2, w3⟩ := lb_kind hA hc e2 hN (show A 0 7 < 10000 by omega) 7 0 FU FU (-1) 0 (-1) x (cpm m0 A) o v rfl (by decide) (by decide) (Or.inl ⟨rfl, rfl⟩) (is_x hx) (cpm_as m0 A)
          exact ⟨r, y', _, w1, w2, RLL_try hA hb hx hr w3 (km_cpm m0 A)⟩
        · rw [if_neg e3, if_neg (by decide), if_neg (show ¬ (if (A, o, v).1 2 c < 42 ∧ (A, o, v).1 0 7 + N ≤ 9999 then (0 : Int32) else -1000005) = 0 by rw [if_neg (show ¬ ((A, o, v).1 2 c < 42 ∧ (A, o, v).1 0 7 + N ≤ 9999) from fun z => e3 z.2)]; decide), if_neg (show ¬ ((A, o, v).1 2 c < 42 ∧ (A, o, v).1 0 7 + N ≤ 9999) from fun z => e3 z.2)]
          exact fl4 h
      · rw [if_neg e2, if_pos (show nI 0 = 0 from rfl), if_neg (show ¬ (if (A, o, v).1 2 c < 42 ∧ (A, o, v).1 0 7 + N ≤ 9999 then (0 : Int32) else -1000005) = 0 by rw [if_neg (show ¬ ((A, o, v).1 2 c < 42 ∧ (A, o, v).1 0 7 + N ≤ 9999) from fun z => e2 z.1)]; decide), if_neg (show ¬ ((A, o, v).1 2 c < 42 ∧ (A, o, v).1 0 7 + N ≤ 9999) from fun z => e2 z.1)]
        exact fl4 h
