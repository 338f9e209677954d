/-! PURE 51: items -/
def isF (what v : Nat) (A : AS) : AS := if 10 ≤ what then u2 A 5 (what - 10) v else if v < 100 then putA (mtA A what) (A 0 6) (v / 10 * 6 + v % 10) else mtA A what
def apF (W : Nat → Nat) : Nat → AS → AS
  | 0, A => A
  | j + 1, A => isF (W (2 * j)) (W (2 * j + 1)) (apF W j A)
def vdF (what v : Nat) (B : AS) : Prop := (10 ≤ what ∧ ((what - 10 = 0 ∧ v ≤ 60) ∨ (what - 10 = 1 ∧ 1 ≤ v ∧ v ≤ 6) ∨ (what - 10 = 2 ∧ v ≤ 3))) ∨ (what < 7 ∧ B 0 6 < 24 ∧ (v = 100 ∨ ∃ c r, c < 7 ∧ r < 6 ∧ v = 10 * c + r ∧ B 3 (c * 6 + r) < 4))
theorem IA_isF {A : AS} (hA : IA A) {what v : Nat} (h : vdF what v A) : IA (isF what v A) ∧ isF what v A 0 7 = A 0 7 := by
  unfold isF
  rcases h with ⟨h1, h2⟩ | ⟨h1, h2, h3⟩
  · rw [if_pos h1]
    exact ⟨IA_set hA h2, rfl⟩
  · have hm := IA_mint hA h1 h2
    rw [if_neg (by omega)]
    rcases h3 with rfl | ⟨c, r, hc, hr, rfl, hh⟩
    · rw [if_neg (by decide)]
      exact ⟨hm, rfl⟩
    · rw [if_pos (by omega), show (10 * c + r) / 10 * 6 + (10 * c + r) % 10 = c * 6 + r by omega]
      have hp : mtA A what 2 (A 0 6) = 100 := by
        show (if A 0 6 = A 0 6 then 100 else A 2 (A 0 6)) = 100
        rw [if_pos rfl]
      exact ⟨IA_put hm (show A 0 6 < A 0 6 + 1 by omega) hp (by omega) hh, rfl⟩
theorem apF_c {W V : Nat → Nat} {A : AS} : ∀ j, (∀ i, i < 2 * j → W i = V i) → apF W j A = apF V j A := by
  intro j
  induction j with
  | zero => intro _; rfl
  | succ j ih =>
    intro h
    unfold apF
    rw [h (2 * j) (by omega), h (2 * j + 1) (by omega), ih (fun i hi => h i (by omega))]
def PM (m : St) (T : Nat → Nat) (L p : Nat) (B : AS) (j : Nat) (A : AS) : Prop := (KM m T L p ∧ m 0 16 = 0) ∧ (m 0 20 = nI j ∧ m 0 21 = nI (B 0 6) ∧ ∀ q, q < 42 → m 9 q = nI (B 3 q)) ∧ ∃ W : Nat → Nat, (∀ i, i < 2 * j → m 8 i = nI (W i)) ∧ apF W j A = B ∧ ∀ k, k < j → vdF (W (2 * k)) (W (2 * k + 1)) (apF W k A)
def FXR (y y' : St) : Prop := ∀ k, (k < 15 ∨ 22 ≤ k) → k ≠ 23 → y' k = y k
theorem fx_id (y : St) : FXR y y := fun _ _ _ => rfl
theorem fx_tr {x y z : St} (h1 : FXR x y) (h2 : FXR y z) : FXR x z := fun k a b => (h2 k a b).trans (h1 k a b)
theorem fx_t (y S : St) (h : S 1 = y 24) : FXR y (put y 23 2 S) := by
  intro k hk h3
  by_cases e : k = 24
  · subst e
    rw [← h]
    exact put_in (j := 1) (by decide)
  · exact put_o (by omega)
theorem fx_s (y S : St) : FXR y (put y 15 7 S) := fun k hk _ => put_o (by omega)
def FMR (m m' : St) : Prop := (∀ k, k ≠ 0 → k ≠ 8 → k ≠ 9 → m' k = m k) ∧ m' 0 3 = m 0 3
theorem fm_tr {m n p : St} (h1 : FMR m n) (h2 : FMR n p) : FMR m p := ⟨fun k a b c => (h2.1 k a b c).trans (h1.1 k a b c), h2.2.trans h1.2⟩
theorem fm_ft {m n : St} (h : FT m n) : FMR m n := ⟨fun k a _ _ => h.1 k a, h.2 3 (by decide) (by decide) (by decide) (by decide)⟩
theorem fm_u0 (m : St) {j : Nat} (v : Int32) (h : j ≠ 3) : FMR m (ups m 0 j v) := ⟨fun k a _ _ => ups_o a, by rw [ups_s, if_neg (fun z => h z.symm)]⟩
theorem fm_u8 (m : St) (j : Nat) (v : Int32) : FMR m (ups m 8 j v) := ⟨fun k _ b _ => ups_o b, by rw [ups_o (by decide)]⟩
theorem fm_u9 (m : St) (j : Nat) (v : Int32) : FMR m (ups m 9 j v) := ⟨fun k _ _ c => ups_o c, by rw [ups_o (by decide)]⟩
theorem km_u0 {m : St} {T : Nat → Nat} {L p : Nat} (h : KM m T L p) {j : Nat} (v : Int32) (hj : 16 ≤ j) : KM (ups m 0 j v) T L p := by
  obtain ⟨h1, h2, h3, h4, h5⟩ := h
  refine ⟨bm_u h1 v (by omega), ?_, ?_, ?_, ?_⟩
  · rw [ups_s, if_neg (by omega)]
    exact h2
  · rw [ups_s, if_neg (by omega)]
    exact h3
  · rw [ups_s, if_neg (by omega)]
    exact h4
  · rw [ups_s, if_neg (by omega)]
    exact h5
theorem km_uk {m : St} {T : Nat → Nat} {L p : Nat} (h : KM m T L p) {k j : Nat} (v : Int32) (h0 : k ≠ 0) (h5 : k ≠ 5) : KM (ups m k j v) T L p := by
  obtain ⟨⟨h1, h2⟩, h3⟩ := h
  unfold KM BM
  rw [ups_o (show (0 : Nat) ≠ k from fun z => h0 z.symm), ups_o (show (5 : Nat) ≠ k from fun z => h5 z.symm)]
  exact ⟨⟨h1, h2⟩, h3⟩
theorem kx_put {y S : St} {T : Nat → Nat} {L p : Nat} (h : KX S T L p) : KX (blk (put y 23 2 S) 23) T L p := by
  have e0 : blk (put y 23 2 S) 23 0 = S 0 := put_in (j := 0) (by decide)
  have e1 : blk (put y 23 2 S) 23 1 = S 1 := put_in (j := 1) (by decide)
  unfold KX BX
  rw [e0, e1]
  exact h
theorem kx_s {y S : St} {T : Nat → Nat} {L p : Nat} (h : KX (blk y 23) T L p) : KX (blk (put y 15 7 S) 23) T L p := by
  have e0 : blk (put y 15 7 S) 23 0 = blk y 23 0 := put_o (by omega)
  have e1 : blk (put y 15 7 S) 23 1 = blk y 23 1 := put_o (by omega)
  unfold KX BX
  rw [e0, e1]
  exact h
theorem is_o2 {y S : St} {A : AS} (h : Is y 15 A) : Is (put y 23 2 S) 15 A := by
  intro k j hk
  rw [put_o (by omega)]
  exact h k j hk
theorem nx_y {T : Nat → Nat} {L p : Nat} (hL : L ≤ 120) (hT : ∀ i, i < L → T i < 256) (hp : p ≤ L) {y : St} (hk : KX (blk y 23) T L p) : ∃ S, X2_next (blk y 23) = some S ∧ KX (blk (put y 23 2 S) 23) T L (tkE T L p) ∧ FXR y (put y 23 2 S) ∧ tkE T L p ≤ L := by
  obtain ⟨t1, t2, t3, t4, t5, t6, t7⟩ := tk_le T hp
  obtain ⟨S, s1, s2, s3⟩ := X2_next_n hL hT t4 hk.1 hk.2.2.2.1
  exact ⟨S, s1, kx_put s3, fx_t y S s2, t4⟩
theorem kx_f {y : St} {T : Nat → Nat} {L p : Nat} (h : KX (blk y 23) T L p) : y 23 2 = nI (tkK T L p) ∧ y 23 3 = nI (tkS T L p) ∧ (tkK T L p = 2 → y 23 5 = nI (tkV T L p)) := ⟨h.2.1, h.2.2.1, h.2.2.2.2⟩
theorem e7_mt {A B : AS} (h : E7 A B) (k : Nat) : E7 (mtA A k) (mtA B k) := by
  unfold mtA
  rw [h 0 (by decide)]
  exact e7_u (e7_u (e7_u h _ _ _) _ _ _) _ _ _
theorem is_mint {y : St} {A : AS} (h : Is y 15 A) (hn : A 0 6 < 24) (k : Nat) : ∃ S, X1_mint (nI k) (blk y 15) = some (nI (A 0 6), S) ∧ ∀ z, Is (put z 15 7 S) 15 (mtA A k) := by
  obtain ⟨B, h1, h2⟩ := is_blk h
  refine ⟨rp (mtA B k), ?_, fun z => is_put z 15 (e7_mt h1 k)⟩
  rw [h2, X1_mint_n (by rw [← h1 0 (by decide)]; exact hn), h1 0 (by decide)]
theorem is_putc {y : St} {A : AS} (h : Is y 15 A) {c q : Nat} (hq : q < 42) (hh : A 3 q < 4) (hc : c < 24) : ∃ S, X1_put (nI c) (nI q) (blk y 15) = some S ∧ ∀ z, Is (put z 15 7 S) 15 (putA A c q) := by
  obtain ⟨B, h1, h2⟩ := is_blk h
  refine ⟨rp (putA B c q), ?_, fun z => is_put z 15 (e7_put h1 c q)⟩
  rw [h2, X1_put_n hq (by rw [← h1 3 (by decide)]; exact hh) hc]
theorem is_room {y : St} {A : AS} (h : Is y 15 A) (hA : IA A) {q : Nat} (hq : q < 42) : X1_hasRoom (nI q) (blk y 15) = some (nI (if A 3 q < 4 then 1 else 0)) := by
  obtain ⟨B, h1, h2⟩ := is_blk h
  rw [h2, X1_hasRoom_n (IA_eq h1 hA) hq, h1 3 (by decide)]
/-! the reference's small steps -/
theorem num_n {T : Nat → Nat} {L p lo hi : Nat} (hL : L ≤ 120) (hT : ∀ i, i < L → T i < 256) (hp : p ≤ L) (hlo : lo < 2147483648) (hhi : hi < 2147483648) (U : TS) {m : St} (hk : KM m T L p) (h16 : m 0 16 = 0) :
    if tkK T L p = 2 ∧ lo ≤ tkV T L p ∧ tkV T L p ≤ hi then ∃ m', X4_number (nI lo) (nI hi) (mst m U) = some (nI (tkV T L p), mst m' U) ∧ FT m m' ∧ KM m' T L (tkE T L p) else X4_number (nI lo) (nI hi) (mst m U) = some (nI (tkV T L p), mst (ups m 0 16 1) U) := by
  obtain ⟨t1, t2, t3, t4, t5, t6, t7⟩ := tk_le T hp
  obtain ⟨k1, k2, k3, k4, k5⟩ := hk
  have bad : X4_must 0 (mst m U) = some (mst (ups m 0 16 1) U) := must_bad U (Or.inr ⟨h16, rfl⟩)
  unfold X4_number
  rw [show mst m U 0 14 = nI (if tkK T L p = 4 then 3 else tkK T L p) from k4, show mst m U 0 15 = nI (tkV T L p) from k5, bad, bd_some]
  by_cases e : tkK T L p = 2
  · rw [if_neg (show ¬ tkK T L p = 4 by omega), if_pos (show nI (tkK T L p) = 2 from congrArg nI e)]
    unfold X4_within
    by_cases e1 : lo ≤ tkV T L p
    · rw [if_neg (ltN (show ¬ tkV T L p < lo by omega) (by omega))]
      by_cases e2 : tkV T L p ≤ hi
      · obtain ⟨m', s1, s2, s3⟩ := must_ok hL hT t4 U k1 k3 h16 (a := 1) (by decide)
        rw [if_neg (ltN (show ¬ hi < tkV T L p by omega) (by omega)), if_neg (show ¬ (1 : Int32) = 0 by decide), if_pos (show tkK T L p = 2 ∧ lo ≤ tkV T L p ∧ tkV T L p ≤ hi from ⟨e, e1, e2⟩), s1, bd_some]
        exact ⟨m', rfl, s2, s3⟩
      · rw [if_pos (ltY (show hi < tkV T L p by omega) (by omega)), if_pos (show (0 : Int32) = 0 from rfl), if_neg (show ¬ (tkK T L p = 2 ∧ lo ≤ tkV T L p ∧ tkV T L p ≤ hi) from fun z => e2 z.2.2)]
    · rw [if_pos (ltY (show tkV T L p < lo by omega) (by omega)), if_pos (show (0 : Int32) = 0 from rfl), if_neg (show ¬ (tkK T L p = 2 ∧ lo ≤ tkV T L p ∧ tkV T L p ≤ hi) from fun z => e1 z.2.1)]
  · rw [if_neg (show ¬ nI (if tkK T L p = 4 then 3 else tkK T L p) = 2 from eqN (b := 2) (by split <;> omega) (by split <;> omega) (by decide)), if_neg (show ¬ (tkK T L p = 2 ∧ lo ≤ tkV T L p ∧ tkV T L p ≤ hi) from fun z => e z.1)]
theorem num_bad (U : TS) {m : St} (h16 : m 0 16 = 1) (lo hi : Int32) : X4_number lo hi (mst m U) = some (m 0 15, mst (ups m 0 16 1) U) := by
  have bad : ∀ a, X4_must a (mst m U) = some (mst (ups m 0 16 1) U) := fun a => must_bad U (Or.inl h16)
  unfold X4_number
  rw [bad, bad, bd_some]
  by_cases e : mst m U 0 14 = 2
  · rw [if_pos e]
    by_cases e2 : X4_within (mst m U 0 15) lo hi = 0
    · rw [if_pos e2]
      rfl
    · rw [if_neg e2]
      rfl
  · rw [if_neg e]
    rfl
theorem item_n (U : TS) {m : St} {j : Nat} (hj : j < 120) (h : m 0 20 = nI j) (a b : Int32) : X4_item a b (mst m U) = some (mst (ups (ups (ups m 8 (2 * j) a) 8 (2 * j + 1) b) 0 20 (nI (j + 1))) U) := by
  unfold X4_item
  rw [show mst m U 0 20 = nI j from h, show (2 : Int32) = nI 2 from rfl, pk_mul, wr_i (show 2 * j < 240 by omega) (by decide), bd_some, mst_uk _ _ _ (by decide), show mst (ups m 8 (2 * j) a) U 0 20 = nI j from h, pk_mul, show (1 : Int32) = nI 1 from rfl, nI_add, wr_i (show 2 * j + 1 < 240 by omega) (by decide), bd_some, mst_uk _ _ _ (by decide), show mst (ups (ups m 8 (2 * j) a) 8 (2 * j + 1) b) U 0 20 = nI j from h, nI_add, mst_u _ _ _ (by decide) (by decide), bd_some]
theorem item_f (m : St) (j : Nat) (a b : Int32) : FMR m (ups (ups (ups m 8 (2 * j) a) 8 (2 * j + 1) b) 0 20 (nI (j + 1))) := fm_tr (fm_tr (fm_u8 m _ _) (fm_u8 _ _ _)) (fm_u0 _ _ (by decide))
/-- after an item -/
theorem pm_item {m : St} {T : Nat → Nat} {L p j what v : Nat} {A B : AS} (hk : KM m T L p) (h16 : m 0 16 = 0) (h21 : m 0 21 = nI (isF what v B 0 6)) (h9 : ∀ q, q < 42 → m 9 q = nI (isF what v B 3 q)) (hv : vdF what v B) {W : Nat → Nat} (w1 : ∀ i, i < 2 * j → m 8 i = nI (W i)) (w2 : apF W j A = B) (w3 : ∀ k, k < j → vdF (W (2 * k)) (W (2 * k + 1)) (apF W k A)) : PM (ups (ups (ups m 8 (2 * j) (nI what)) 8 (2 * j + 1) (nI v)) 0 20 (nI (j + 1))) T L p (isF what v B) (j + 1) A := by
  have c : ∀ k, k ≤ j → apF (fun i => if i = 2 * j then what else if i = 2 * j + 1 then v else W i) k A = apF W k A := fun k hk => apF_c k (fun i hi => by
    show (if i = 2 * j then what else if i = 2 * j + 1 then v else W i) = W i
    rw [if_neg (by omega), if_neg (by omega)])
  refine ⟨⟨km_u0 (km_uk (km_uk hk _ (by decide) (by decide)) _ (by decide) (by decide)) _ (by decide), ?_⟩, ⟨?_, ?_, fun q hq => ?_⟩, fun i => if i = 2 * j then what else if i = 2 * j + 1 then v else W i, fun i hi => ?_, ?_, fun k hk => ?_⟩
  · rw [ups_s, if_neg (by decide), ups_o (by decide), ups_o (by decide)]
    exact h16
  · rw [ups_s, if_pos rfl]
  · rw [ups_s, if_neg (by decide), ups_o (by decide), ups_o (by decide)]
    exact h21
  · rw [ups_o (by decide), ups_o (by decide), ups_o (by decide)]
    exact h9 q hq
  · rw [ups_o (by decide), ups_s, ups_s]
    show _ = nI (if i = 2 * j then what else if i = 2 * j + 1 then v else W i)
    by_cases e : i = 2 * j + 1
    · rw [if_pos e, if_neg (by omega), if_pos e]
    · rw [if_neg e]
      by_cases e2 : i = 2 * j
      · rw [if_pos e2, if_pos e2]
      · rw [if_neg e2, if_neg e2, if_neg e]
        exact w1 i (by omega)
  · show isF (if 2 * j = 2 * j then what else if 2 * j = 2 * j + 1 then v else W (2 * j)) (if 2 * j + 1 = 2 * j then what else if 2 * j + 1 = 2 * j + 1 then v else W (2 * j + 1)) (apF _ j A) = _
    rw [c j (Nat.le_refl j), w2, if_pos rfl, if_neg (by omega), if_pos rfl]
  · rw [c k (by omega)]
    show vdF (if 2 * k = 2 * j then what else if 2 * k = 2 * j + 1 then v else W (2 * k)) (if 2 * k + 1 = 2 * j then what else if 2 * k + 1 = 2 * j + 1 then v else W (2 * k + 1)) _
    by_cases e : k = j
    · subst e
      rw [if_pos rfl, if_neg (by omega), if_pos rfl, w2]
      exact hv
    · rw [if_neg (by omega), if_neg (by omega), if_neg (by omega), if_neg (by omega)]
      exact w3 k (by omega)
def RES (r3 : Option (Int32 × St)) (r4 : Option St) (y m : St) (U : TS) (T : Nat → Nat) (L p : Nat) (B : AS) (j : Nat) (A : AS) : Prop :=
  ∃ y' m', FXR y y' ∧ FMR m m' ∧ ((∃ what v p', vdF what v B ∧ r3 = some (1, y') ∧ r4 = some (mst m' U) ∧ KX (blk y' 23) T L p' ∧ Is y' 15 (isF what v B) ∧ PM m' T L p' (isF what v B) (j + 1) A ∧ p < p' ∧ p' ≤ L) ∨ (∃ s, s ≤ 120 ∧ r3 = some (0, y') ∧ r4 = some (mst m' U) ∧ y' 23 3 = nI s ∧ m' 0 16 = 1 ∧ m' 0 12 = nI s))
