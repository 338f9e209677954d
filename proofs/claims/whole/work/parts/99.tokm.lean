/-! PURE 49: tokens of the reference -/
def BM (m : St) (T : Nat → Nat) (L : Nat) : Prop := m 0 11 = nI L ∧ ∀ i, i < L → m 5 i = nI (T i)
theorem bm_u {m : St} {T : Nat → Nat} {L : Nat} (h : BM m T L) {j : Nat} (v : Int32) (hj : j ≠ 11) : BM (ups m 0 j v) T L :=
  ⟨by rw [ups_s, if_neg (fun z => hj z.symm)]; exact h.1, fun i hi => by rw [ups_o (by decide)]; exact h.2 i hi⟩
theorem ba_n {m : St} {U : TS} {T : Nat → Nat} {L : Nat} (hL : L ≤ 120) (hb : BM m T L) {q : Nat} (hq : q ≤ L) : X4_byteAt (nI q) (mst m U) = some (if q < L then nI (T q) else -1) := by
  unfold X4_byteAt
  rw [show mst m U 0 11 = nI L from hb.1]
  by_cases e : q < L
  · rw [if_neg (leN (by omega) (by omega)), rd_i (show q < 120 by omega) (by decide), bd_some, mst_k _ _ (by decide), hb.2 q e, if_pos e]
  · rw [if_pos (leY (by omega) (by omega)), if_neg e]
theorem lm_wd {T : Nat → Nat} {L : Nat} (hL : L ≤ 120) (hT : ∀ i, i < L → T i < 256) (U : TS) : ∀ (d p n : Nat) (m : St), p + d = L → d < n → BM m T L → m 0 13 = nI p →
    ∃ m', X4_next_L84 n (mst m U) = some (mst m' U) ∧ (∀ k, k ≠ 0 → m' k = m k) ∧ m' 0 13 = nI (wdF T d p) ∧ ∀ j, j ≠ 13 → m' 0 j = m 0 j := by
  intro d
  induction d with
  | zero =>
    intro p n m h1 h2 hb h4
    obtain ⟨n, rfl⟩ : ∃ k, n = k + 1 := ⟨n - 1, by omega⟩
    unfold X4_next_L84
    rw [show mst m U 0 13 = nI p from h4, ba_n hL hb (by omega), bd_some, if_neg (show ¬ p < L by omega), if_pos (by decide)]
    exact ⟨m, rfl, fun _ _ => rfl, h4, fun _ _ => rfl⟩
  | succ d ih =>
    intro p n m h1 h2 hb h4
    obtain ⟨n, rfl⟩ : ∃ k, n = k + 1 := ⟨n - 1, by omega⟩
    have tp := hT p (by omega)
    unfold X4_next_L84 wdF
    rw [show mst m U 0 13 = nI p from h4, ba_n hL hb (by omega), bd_some, if_pos (show p < L by omega)]
    by_cases e : isl (T p) = true
    · rw [if_pos e, if_neg (show ¬ X4_within (nI (T p)) 97 122 = 0 by rw [il_m tp, e]; decide), bd_some, show nI p + 1 = nI (p + 1) from (nI_succ p).symm, mst_u _ _ _ (by decide) (by decide)]
      obtain ⟨m', s1, s2, s3, s4⟩ := ih (p + 1) n (ups m 0 13 (nI (p + 1))) (by omega) (by omega) (bm_u hb _ (by decide)) (by rw [ups_s, if_pos rfl])
      exact ⟨m', s1, fun k hk => by rw [s2 k hk, ups_o hk], s3, fun j hj => by rw [s4 j hj, ups_s, if_neg hj]⟩
    · rw [if_neg e, if_pos (show X4_within (nI (T p)) 97 122 = 0 by rw [il_m tp]; exact Bool.not_eq_true _ ▸ e)]
      exact ⟨m, rfl, fun _ _ => rfl, h4, fun _ _ => rfl⟩
theorem lm_nb {T : Nat → Nat} {L : Nat} (hL : L ≤ 120) (hT : ∀ i, i < L → T i < 256) (U : TS) : ∀ (d p v n : Nat) (m : St), p + d = L → d < n → v ≤ 10000 → BM m T L → m 0 13 = nI p → m 0 15 = nI v →
    ∃ m', X4_next_L131 n (mst m U) = some (mst m' U) ∧ (∀ k, k ≠ 0 → m' k = m k) ∧ m' 0 13 = nI (nbF T d p v).1 ∧ m' 0 15 = nI (nbF T d p v).2 ∧ ∀ j, j ≠ 13 → j ≠ 15 → m' 0 j = m 0 j := by
  intro d
  induction d with
  | zero =>
    intro p v n m h1 h2 hv hb h4 h5
    obtain ⟨n, rfl⟩ : ∃ k, n = k + 1 := ⟨n - 1, by omega⟩
    unfold X4_next_L131
    rw [show mst m U 0 13 = nI p from h4, ba_n hL hb (by omega), bd_some, if_neg (show ¬ p < L by omega), if_pos (by decide)]
    exact ⟨m, rfl, fun _ _ => rfl, h4, h5, fun _ _ _ => rfl⟩
  | succ d ih =>
    intro p v n m h1 h2 hv hb h4 h5
    obtain ⟨n, rfl⟩ : ∃ k, n = k + 1 := ⟨n - 1, by omega⟩
    have tp := hT p (by omega)
    unfold X4_next_L131 nbF
    rw [show mst m U 0 13 = nI p from h4, ba_n hL hb (by omega), bd_some, bd_some, if_pos (show p < L by omega)]
    by_cases e : isd (T p) = true
    · rw [if_pos e, if_neg (show ¬ X4_within (nI (T p)) 48 57 = 0 by rw [id_m tp, e]; decide), show mst m U 0 15 = nI v from h5, nv_m hv tp e, mst_u _ _ _ (by decide) (by decide), bd_some, show mst (ups m 0 15 (nI (nvF v (T p)))) U 0 13 = nI p from h4, show nI p + 1 = nI (p + 1) from (nI_succ p).symm, mst_u _ _ _ (by decide) (by decide), bd_some]
      obtain ⟨m', s1, s2, s3, s4, s5⟩ := ih (p + 1) (nvF v (T p)) n (ups (ups m 0 15 (nI (nvF v (T p)))) 0 13 (nI (p + 1))) (by omega) (by omega) (nvF_le _ _) (bm_u (bm_u hb _ (by decide)) _ (by decide)) (by rw [ups_s, if_pos rfl]) (by rw [ups_s, if_neg (by decide), ups_s, if_pos rfl])
      exact ⟨m', s1, fun k hk => by rw [s2 k hk, ups_o hk, ups_o hk], s3, s4, fun j hj hj2 => by rw [s5 j hj hj2, ups_s, if_neg hj, ups_s, if_neg hj2]⟩
    · rw [if_neg e, if_pos (show X4_within (nI (T p)) 48 57 = 0 by rw [id_m tp]; exact Bool.not_eq_true _ ▸ e)]
      exact ⟨m, rfl, fun _ _ => rfl, h4, h5, fun _ _ _ => rfl⟩
/-- what the reference knows of a token -/
def KM (m : St) (T : Nat → Nat) (L p : Nat) : Prop := BM m T L ∧ m 0 12 = nI (tkS T L p) ∧ m 0 13 = nI (tkE T L p) ∧ m 0 14 = nI (if tkK T L p = 4 then 3 else tkK T L p) ∧ m 0 15 = nI (tkV T L p)
/-- only the token's numbers changed -/
def FT (m m' : St) : Prop := (∀ k, k ≠ 0 → m' k = m k) ∧ ∀ j, j ≠ 12 → j ≠ 13 → j ≠ 14 → j ≠ 15 → m' 0 j = m 0 j
theorem ft_id (m : St) : FT m m := ⟨fun _ _ => rfl, fun _ _ _ _ _ => rfl⟩
theorem ft_tr {m m1 m2 : St} (h : FT m m1) (h2 : FT m1 m2) : FT m m2 := ⟨fun k hk => (h2.1 k hk).trans (h.1 k hk), fun j a b c d => (h2.2 j a b c d).trans (h.2 j a b c d)⟩
theorem ft_u (m : St) {j : Nat} (v : Int32) (hj : j = 12 ∨ j = 13 ∨ j = 14 ∨ j = 15) : FT m (ups m 0 j v) := by
  refine ⟨fun k hk => ups_o hk, fun i a b c d => ?_⟩
  rw [ups_s, if_neg (by omega)]
theorem lm_8e {T : Nat → Nat} {L p : Nat} (hL : L ≤ 120) (hT : ∀ i, i < L → T i < 256) (hp : p ≤ L) (U : TS) {m : St} {n : Nat} (hb : BM m T L) (h12 : m 0 12 = nI (tkS T L p)) (hs : tkS T L p < L → T (tkS T L p) ≠ 32) : ∃ m', X4_next_L8 (n + 1) (mst m U) = some (mst m' U) ∧ FT m m' ∧ KM m' T L p := by
  obtain ⟨k1, k2, k3, k4, k5, k6, k7⟩ := tk_le T hp
  unfold X4_next_L8 KM tkK tkE tkV
  rw [show mst m U 0 12 = nI (tkS T L p) from h12, ba_n hL hb k2, bd_some, bd_some]
  generalize tkS T L p = s at k1 k2 h12 hs
  have i1 : BM (ups (ups m 0 13 (nI s)) 0 15 0) T L := bm_u (bm_u hb _ (by decide)) _ (by decide)
  have f1 : FT m (ups (ups m 0 13 (nI s)) 0 15 0) := ft_tr (ft_u m _ (by omega)) (ft_u _ _ (by omega))
  have j12 : ups (ups m 0 13 (nI s)) 0 15 0 0 12 = nI s := by rw [ups_s, if_neg (by decide), ups_s, if_neg (by decide)]; exact h12
  have j13 : ups (ups m 0 13 (nI s)) 0 15 0 0 13 = nI s := by rw [ups_s, if_neg (by decide), ups_s, if_pos rfl]
  have j15 : ups (ups m 0 13 (nI s)) 0 15 0 0 15 = nI 0 := by rw [ups_s, if_pos rfl]; rfl
  generalize hM : ups (ups m 0 13 (nI s)) 0 15 0 = M at i1 f1 j12 j13 j15
  by_cases e : L ≤ s
  · rw [if_neg (show ¬ s < L by omega), if_neg (show ¬ (-1 : Int32) = 32 by decide), bd_some, mst_u _ _ _ (by decide) (by decide), bd_some, mst_u _ _ _ (by decide) (by decide), hM, bd_some, if_neg (show ¬ (0 : Int32) ≤ -1 by decide), mst_u _ _ _ (by decide) (by decide), bd_some, if_pos e, if_pos e, if_pos e]
    exact ⟨_, rfl, ft_tr f1 (ft_u _ _ (by omega)), bm_u i1 _ (by decide), by rw [ups_s, if_neg (by decide)]; exact j12, by rw [ups_s, if_neg (by decide)]; exact j13, by rw [ups_s, if_pos rfl]; rfl, by rw [ups_s, if_neg (by decide)]; exact j15⟩
  · have tp := hT s (by omega)
    rw [if_pos (show s < L by omega), if_neg (show ¬ nI (T s) = 32 from eqN (b := 32) (hs (by omega)) (by omega) (by decide)), bd_some, mst_u _ _ _ (by decide) (by decide), bd_some, mst_u _ _ _ (by decide) (by decide), hM, bd_some, if_pos (nI_pos' (show T s < 2147483648 by omega)), if_neg e, if_neg e, if_neg e]
    by_cases e1 : isl (T s) = true
    · have hF : L - s < FU := Nat.lt_of_le_of_lt (show L - s ≤ 120 by omega) (by decide)
      obtain ⟨m', s1, s2, s3, s4⟩ := lm_wd hL hT U (L - s) s FU (ups M 0 14 1) (by omega) hF (bm_u i1 _ (by decide)) (by rw [ups_s, if_neg (by decide)]; exact j13)
      rw [if_neg (show ¬ X4_within (nI (T s)) 97 122 = 0 by rw [il_m tp, e1]; decide), mst_u _ _ _ (by decide) (by decide), bd_some, s1, if_pos e1, if_pos e1, if_pos e1]
      have i2 := bm_u i1 (j := 14) 1 (by decide)
      refine ⟨m', rfl, ft_tr (ft_tr f1 (ft_u _ 1 (by omega))) ⟨s2, fun j _ b _ _ => s4 j b⟩, ⟨by rw [s4 11 (by decide)]; exact i2.1, fun i hi => by rw [s2 5 (by decide)]; exact i2.2 i hi⟩, ?_, s3, ?_, ?_⟩
      · rw [s4 12 (by decide), ups_s, if_neg (by decide)]
        exact j12
      · rw [s4 14 (by decide), ups_s, if_pos rfl]
        rfl
      · rw [s4 15 (by decide), ups_s, if_neg (by decide)]
        exact j15
    · rw [if_pos (show X4_within (nI (T s)) 97 122 = 0 by rw [il_m tp]; exact Bool.not_eq_true _ ▸ e1), if_neg e1, if_neg e1, if_neg e1]
      by_cases e2 : isd (T s) = true
      · have hF : L - s < FU := Nat.lt_of_le_of_lt (show L - s ≤ 120 by omega) (by decide)
        obtain ⟨m', s1, s2, s3, s4, s5⟩ := lm_nb hL hT U (L - s) s 0 FU (ups M 0 14 2) (by omega) hF (by decide) (bm_u i1 _ (by decide)) (by rw [ups_s, if_neg (by decide)]; exact j13) (by rw [ups_s, if_neg (by decide)]; exact j15)
        rw [if_neg (show ¬ X4_within (nI (T s)) 48 57 = 0 by rw [id_m tp, e2]; decide), mst_u _ _ _ (by decide) (by decide), bd_some, s1, if_pos e2, if_pos e2, if_pos e2]
        have i2 := bm_u i1 (j := 14) 2 (by decide)
        refine ⟨m', rfl, ft_tr (ft_tr f1 (ft_u _ 2 (by omega))) ⟨s2, fun j _ b _ d => s5 j b d⟩, ⟨by rw [s5 11 (by decide) (by decide)]; exact i2.1, fun i hi => by rw [s2 5 (by decide)]; exact i2.2 i hi⟩, ?_, s3, ?_, s4⟩
        · rw [s5 12 (by decide) (by decide), ups_s, if_neg (by decide)]
          exact j12
        · rw [s5 14 (by decide) (by decide), ups_s, if_pos rfl]
          rfl
      · rw [if_pos (show X4_within (nI (T s)) 48 57 = 0 by rw [id_m tp]; exact Bool.not_eq_true _ ▸ e2), mst_u _ _ _ (by decide) (by decide), bd_some, show mst (ups M 0 14 3) U 0 13 = nI s from j13, mst_u _ _ _ (by decide) (by decide), bd_some, show nI s + 1 = nI (s + 1) from (nI_succ s).symm, if_neg e2, if_neg e2, if_neg e2]
        refine ⟨_, rfl, ft_tr (ft_tr f1 (ft_u _ _ (by omega))) (ft_u _ _ (by omega)), bm_u (bm_u i1 _ (by decide)) _ (by decide), ?_, by rw [ups_s, if_pos rfl], ?_, ?_⟩
        · rw [ups_s, if_neg (by decide), ups_s, if_neg (by decide)]
          exact j12
        · rw [ups_s, if_neg (by decide), ups_s, if_pos rfl]
          by_cases e3 : T s = 59
          · rw [if_pos e3, if_neg (by decide)]
            rfl
          · rw [if_neg e3, if_pos rfl]
            rfl
        · rw [ups_s, if_neg (by decide), ups_s, if_neg (by decide)]
          exact j15
theorem skF_no (T : Nat → Nat) : ∀ d p, skF T d p < p + d → T (skF T d p) ≠ 32 := by
  intro d
  induction d with
  | zero => intro p h; exact absurd h (by show ¬ p < p + 0; omega)
  | succ d ih =>
    intro p
    unfold skF
    by_cases e : T p = 32
    · rw [if_pos e]
      intro h
      exact ih (p + 1) (by omega)
    · rw [if_neg e]
      intro _
      exact e
theorem lm_sk {T : Nat → Nat} {L p0 : Nat} (hL : L ≤ 120) (hT : ∀ i, i < L → T i < 256) (hp : p0 ≤ L) (U : TS) : ∀ (d p n : Nat) (m : St), p + d = L → d < n → skF T d p = tkS T L p0 → BM m T L → m 0 12 = nI p → ∃ m', X4_next_L8 n (mst m U) = some (mst m' U) ∧ FT m m' ∧ KM m' T L p0 := by
  intro d
  have no : tkS T L p0 < L → T (tkS T L p0) ≠ 32 := fun z => skF_no T (L - p0) p0 (by
    have q : tkS T L p0 = skF T (L - p0) p0 := rfl
    omega)
  induction d with
  | zero =>
    intro p n m h1 h2 he hb h4
    obtain ⟨n, rfl⟩ : ∃ k, n = k + 1 := ⟨n - 1, by omega⟩
    exact lm_8e hL hT hp U hb (by rw [h4, ← he]; rfl) no
  | succ d ih =>
    intro p n m h1 h2 he hb h4
    obtain ⟨n, rfl⟩ : ∃ k, n = k + 1 := ⟨n - 1, by omega⟩
    have tp := hT p (by omega)
    unfold skF at he
    by_cases e : T p = 32
    · rw [if_pos e] at he
      unfold X4_next_L8
      rw [show mst m U 0 12 = nI p from h4, ba_n hL hb (by omega), bd_some, if_pos (show p < L by omega), if_pos (show nI (T p) = 32 from congrArg nI e), bd_some, show nI p + 1 = nI (p + 1) from (nI_succ p).symm, mst_u _ _ _ (by decide) (by decide)]
      obtain ⟨m', s1, s2, s3⟩ := ih (p + 1) n (ups m 0 12 (nI (p + 1))) (by omega) (by omega) he (bm_u hb _ (by decide)) (by rw [ups_s, if_pos rfl])
      exact ⟨m', s1, ft_tr (ft_u m _ (by omega)) s2, s3⟩
    · rw [if_neg e] at he
      exact lm_8e hL hT hp U hb (by rw [h4, ← he]) no
theorem X4_next_n {T : Nat → Nat} {L p : Nat} (hL : L ≤ 120) (hT : ∀ i, i < L → T i < 256) (hp : p ≤ L) (U : TS) {m : St} (hb : BM m T L) (h4 : m 0 13 = nI p) : ∃ m', X4_next (mst m U) = some (mst m' U) ∧ FT m m' ∧ KM m' T L p := by
  have hF : L - p < FU := Nat.lt_of_le_of_lt (show L - p ≤ 120 by omega) (by decide)
  obtain ⟨m', s1, s2, s3⟩ := lm_sk hL hT hp U (L - p) p FU (ups m 0 12 (nI p)) (by omega) hF rfl (bm_u hb _ (by decide)) (by rw [ups_s, if_pos rfl])
  unfold X4_next
  rw [show mst m U 0 13 = nI p from h4, mst_u _ _ _ (by decide) (by decide), bd_some]
  exact ⟨m', s1, ft_tr (ft_u m _ (by omega)) s2, s3⟩
/-- must -/
theorem must_bad {m : St} (U : TS) {a : Int32} (h : m 0 16 = 1 ∨ (m 0 16 = 0 ∧ a = 0)) : X4_must a (mst m U) = some (mst (ups m 0 16 1) U) := by
  have l : X4_must_L12 (mst m U) = some (mst (ups m 0 16 1) U) := by
    unfold X4_must_L12 X4_must_L17
    rw [show bl 1 = some 1 from rfl, bd_some, bd_some, mst_u _ _ _ (by decide) (by decide), if_neg (show ¬ mst (ups m 0 16 1) U 0 16 = 0 from (by decide : ¬ (1 : Int32) = 0))]
  unfold X4_must
  rcases h with h | ⟨h, h2⟩
  · rw [if_neg (show ¬ mst m U 0 16 = 0 by rw [show mst m U 0 16 = 1 from h]; decide), l]
  · rw [if_pos (show mst m U 0 16 = 0 from h), if_pos h2, l]
theorem must_ok {T : Nat → Nat} {L p : Nat} (hL : L ≤ 120) (hT : ∀ i, i < L → T i < 256) (hp : p ≤ L) (U : TS) {m : St} (hb : BM m T L) (h4 : m 0 13 = nI p) (h16 : m 0 16 = 0) {a : Int32} (ha : ¬ a = 0) : ∃ m', X4_must a (mst m U) = some (mst m' U) ∧ FT m m' ∧ KM m' T L p := by
  have hm : ups m 0 16 0 = m := by
    funext i j
    unfold ups
    by_cases e : i = 0
    · subst e
      by_cases e2 : j = 16
      · rw [if_pos rfl, if_pos e2, e2, h16]
      · rw [if_pos rfl, if_neg e2]
    · rw [if_neg e]
  obtain ⟨m', s1, s2, s3⟩ := X4_next_n hL hT hp U hb h4
  refine ⟨m', ?_, s2, s3⟩
  unfold X4_must
  rw [if_pos (show mst m U 0 16 = 0 from h16), if_neg ha]
  unfold X4_must_L17
  rw [show bl 0 = some 0 from rfl, bd_some, bd_some, mst_u _ _ _ (by decide) (by decide), hm, if_pos (show mst m U 0 16 = 0 from h16), s1, bd_some]
