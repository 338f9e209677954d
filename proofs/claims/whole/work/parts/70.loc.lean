/-! PURE 20: what a shelf's seven rows decide -/
def E7 (A B : AS) : Prop := ∀ k, k < 7 → A k = B k
theorem e7_u {A B : AS} (h : E7 A B) (k j v : Nat) : E7 (u2 A k j v) (u2 B k j v) := by
  intro i hi
  funext b
  unfold u2
  rw [h i hi]
theorem e7_put {A B : AS} (h : E7 A B) (c q : Nat) : E7 (putA A c q) (putA B c q) := by
  unfold putA
  rw [h 3 (by decide)]
  exact e7_u (e7_u (e7_u h _ _ _) _ _ _) _ _ _
theorem e7_top {A B : AS} (h : E7 A B) (q : Nat) : topA A q = topA B q := by
  unfold topA
  rw [h 3 (by decide), h 4 (by decide)]
theorem e7_pull {A B : AS} (h : E7 A B) (q : Nat) : E7 (pullA A q) (pullA B q) := by
  unfold pullA
  rw [h 3 (by decide), h 4 (by decide)]
  exact e7_u (e7_u h _ _ _) _ _ _
theorem e7_go {A B : AS} (h : E7 A B) (c col : Nat) : E7 (goA A c col) (goA B c col) := by
  unfold goA
  rw [h 5 (by decide)]
  exact e7_u h _ _ _
theorem e7_slide {A B : AS} (h : E7 A B) (q : Nat) : E7 (slideA A q) (slideA B q) := by
  unfold slideA
  rw [e7_top h]
  split
  · exact e7_go (e7_pull h q) _ _
  · exact e7_put (e7_pull h q) _ _
theorem e7_lean {A B : AS} (h : E7 A B) (q : Nat) : leanA A q = leanA B q := leanA_c (h 1 (by decide)) (h 3 (by decide)) (h 4 (by decide)) q
theorem e7_pm {A B : AS} (h : E7 A B) (c : Nat) : pmA A c = pmA B c := pmA_c (h 1 (by decide)) (h 3 (by decide)) (h 4 (by decide)) (h 5 (by decide)) c
theorem e7_rn {A B : AS} (h : E7 A B) (c : Nat) : ∀ d r, rnA A c d r = rnA B c d r := by
  intro d
  induction d with
  | zero => intro r; rfl
  | succ d ih =>
    intro r
    unfold rnA
    rw [h 3 (by decide), ih]
theorem e7_mvF (c row : Nat) : ∀ (d k : Nat) (A B : AS), E7 A B → E7 (mvF c row d k A) (mvF c row d k B) := by
  intro d
  induction d with
  | zero => intro k A B h; exact h
  | succ d ih =>
    intro k A B h
    unfold mvF
    refine ih (k + 1) _ _ ?_
    rw [h 4 (by decide)]
    split
    · exact e7_go h _ _
    · exact e7_put h _ _
theorem e7_mv {A B : AS} (h : E7 A B) (c row : Nat) : E7 (mvA A c row) (mvA B c row) := by
  unfold mvA
  rw [h 3 (by decide)]
  exact e7_u (e7_mvF c row _ 0 A B h) _ _ _
def E7T (T U : TS) : Prop := E7 T.1 U.1 ∧ T.2 = U.2
theorem e7_gn {T U : TS} (h : E7T T U) (c row : Nat) : E7T (gnT T c row) (gnT U c row) := by
  refine ⟨e7_mv h.1 c row, ?_⟩
  unfold gnT
  dsimp only
  rw [h.2, h.1 3 (by decide)]
theorem e7_pr (c : Nat) : ∀ (d : Nat) (T U : TS), E7T T U → E7T (prT c d T) (prT c d U) := by
  intro d
  induction d with
  | zero => intro T U h; exact h
  | succ d ih => intro T U h; exact ih _ _ (e7_gn h c d)
theorem e7_pa : ∀ (d c : Nat) (T U : TS), E7T T U → E7T (paT d c T) (paT d c U) := by
  intro d
  induction d with
  | zero => intro c T U h; exact h
  | succ d ih =>
    intro c T U h
    unfold paT
    refine ih (c + 1) _ _ ?_
    rw [e7_pm h.1, e7_rn h.1]
    split
    · exact e7_pr c _ T U h
    · exact h
theorem e7_sl {T U : TS} (h : E7T T U) (q : Nat) : E7T (slT T q) (slT U q) := by
  refine ⟨e7_slide h.1 q, ?_⟩
  unfold slT
  dsimp only
  rw [h.2]
theorem e7_sr (row : Nat) : ∀ (d c : Nat) (T U : TS), E7T T U → E7T (srT row d c T) (srT row d c U) := by
  intro d
  induction d with
  | zero => intro c T U h; exact h
  | succ d ih =>
    intro c T U h
    unfold srT
    refine ih (c + 1) _ _ ?_
    rw [e7_lean h.1]
    split
    · exact e7_sl h _
    · exact h
theorem e7_sa : ∀ (d : Nat) (T U : TS), E7T T U → E7T (saT d T) (saT d U) := by
  intro d
  induction d with
  | zero => intro T U h; exact h
  | succ d ih => intro T U h; exact ih _ _ (e7_sr d 7 0 T U h)
theorem e7_bt {T U : TS} (h : E7T T U) : E7T (btT T) (btT U) := by
  have h1 : E7T (btU T) (btU U) := by
    unfold btU
    refine e7_sa 6 _ _ ?_
    rw [h.1 0 (by decide), h.1 5 (by decide)]
    split
    · exact e7_pa 7 0 T U h
    · exact h
  rw [btT_eq, btT_eq]
  generalize btU T = V at h1
  generalize btU U = W at h1
  refine ⟨?_, ?_⟩
  · dsimp only
    rw [h1.1 0 (by decide)]
    exact e7_u h1.1 _ _ _
  · dsimp only
    rw [h1.2]
theorem e7_bn : ∀ (d : Nat) (T U : TS), E7T T U → E7T (bnT d T) (bnT d U) := by
  intro d
  induction d with
  | zero => intro T U h; exact h
  | succ d ih => intro T U h; exact ih _ _ (e7_bt h)
theorem e7_bnA {A B : AS} (h : E7 A B) (n : Nat) : E7 (bnA n A) (bnA n B) := (e7_bn n (A, 0, 0) (B, 0, 0) ⟨h, rfl⟩).1
theorem e7_fc {A B : AS} (h : E7 A B) (p : Nat) : ∀ d c, fcA A p d c = fcA B p d c := by
  intro d
  induction d with
  | zero => intro c; rfl
  | succ d ih =>
    intro c
    unfold fcA
    rw [h 3 (by decide), ih]
theorem e7_dpA {A B : AS} (h : E7 A B) (c col : Nat) : E7 (dpA A c col) (dpA B c col) := by
  unfold dpA
  dsimp only
  rw [e7_fc h, h 0 (by decide)]
  split
  · exact e7_u (e7_u h _ _ _) _ _ _
  · exact e7_put (e7_u h _ _ _) _ _
theorem e7_drA {A B : AS} (h : E7 A B) (c col : Nat) : E7 (drA A c col) (drA B c col) := by
  have h1 : E7T (dpT (A, 0, 0) c col) (dpT (B, 0, 0) c col) := e7_bt ⟨e7_dpA h c col, rfl⟩
  exact h1.1
/-! a block of a state that holds a shelf -/
def Is (y : St) (b : Nat) (A : AS) : Prop := ∀ k j, k < 7 → y (b + k) j = nI (A k j)
theorem is_blk {y : St} {b : Nat} {A : AS} (h : Is y b A) : ∃ B, E7 A B ∧ blk y b = rp B := ⟨jnA A (blk y b), jn_in A _, jn_rp h⟩
theorem is_put {A B : AS} (x : St) (b : Nat) (h : E7 A B) : Is (put x b 7 (rp B)) b A := by
  intro k j hk
  rw [put_in hk, h k hk]
  rfl
theorem is_oth {y S : St} {b b2 : Nat} {A : AS} (h : Is y b A) (hd : b + 7 ≤ b2 ∨ b2 + 7 ≤ b) : Is (put y b2 7 S) b A := by
  intro k j hk
  rw [put_o (by omega)]
  exact h k j hk
theorem is_cpy {y : St} {b b2 : Nat} {A : AS} (h : Is y b A) : Is (put y b2 7 (blk y b)) b2 A := by
  intro k j hk
  rw [put_in hk]
  exact h k j hk
theorem is_adv {y : St} {b : Nat} {A : AS} (h : Is y b A) (hA : IA A) {N : Nat} (hN : N < 900) (hb : A 0 7 + N < 1000000) : ∃ S, X1_advance (nI N) (blk y b) = some S ∧ ∀ z, Is (put z b 7 S) b (bnA N A) := by
  obtain ⟨B, h1, h2⟩ := is_blk h
  refine ⟨rp (bnA N B), ?_, fun z => is_put z b (e7_bnA h1 N)⟩
  rw [h2, X1_advance_a hN (IA_eq h1 hA) (by rw [← h1 0 (by decide)]; exact hb)]
theorem is_rel {y : St} {b : Nat} {A : AS} (h : Is y b A) (hA : IA A) {c col : Nat} (hc : c < A 0 6) (hp : A 2 c = 100) (hl : col < 7) (hb : A 0 7 < 100000) : ∃ S, X1_release (nI c) (nI col) (blk y b) = some S ∧ ∀ z, Is (put z b 7 S) b (drA A c col) := by
  obtain ⟨B, h1, h2⟩ := is_blk h
  refine ⟨rp (drA B c col), ?_, fun z => is_put z b (e7_drA h1 c col)⟩
  rw [h2, X1_release_a (IA_eq h1 hA) (by rw [← h1 0 (by decide)]; exact hc) (by rw [← h1 2 (by decide)]; exact hp) hl (by rw [← h1 0 (by decide)]; exact hb)]
theorem is_gain {y : St} {b : Nat} {A : AS} (h : Is y b A) (hA : IA A) : X1_gain (blk y b) = some (gI A) := by
  obtain ⟨B, h1, h2⟩ := is_blk h
  rw [h2, X1_gain_n (IA_eq h1 hA), gI_eq h1]
theorem gv_eq {A B : AS} (h : E7 A B) : gvA A = gvA B := by
  unfold gvA
  rw [h 0 (by decide)]
  exact cn_eq _ 0 (fun x _ _ => ov_eq (by rw [h 2 (by decide)]))
theorem shm_eq {A B : AS} (h : E7 A B) : shm A = shm B := by
  unfold shm
  rw [h 0 (by decide), h 2 (by decide)]
theorem wot_eq {A B : AS} (h : E7 A B) (s : Nat) : wot A s = wot B s := by
  unfold wot
  rw [h 0 (by decide), wo_eq (h 1 (by decide))]
theorem is_worthAt {y : St} {b : Nat} {A : AS} (h : Is y b A) (hA : IA A) {p : Nat} (hp : p < 1000) : X1_worthAt (nI p) (blk y b) = some (nI (wot A (msk A p))) := by
  obtain ⟨B, h1, h2⟩ := is_blk h
  rw [h2, X1_worthAt_n (IA_eq h1 hA) hp, wot_eq h1, msk_eq (h1 0 (by decide)) (h1 2 (by decide))]
theorem is_bitsAt {y : St} {b : Nat} {A : AS} (h : Is y b A) (hA : IA A) {p : Nat} (hp : p < 1000) : X1_bitsAt (nI p) (blk y b) = some (nI (msk A p)) := by
  obtain ⟨B, h1, h2⟩ := is_blk h
  rw [h2, X1_bitsAt_n (IA_eq h1 hA) hp, msk_eq (h1 0 (by decide)) (h1 2 (by decide))]
theorem is_shelf {y : St} {b : Nat} {A : AS} (h : Is y b A) (hA : IA A) : X1_bitsOnShelf (blk y b) = some (nI (shm A)) := by
  obtain ⟨B, h1, h2⟩ := is_blk h
  rw [h2, X1_bitsOnShelf_n (IA_eq h1 hA), shm_eq h1]
theorem is_on {y : St} {b : Nat} {A : AS} (h : Is y b A) (hA : IA A) {c : Nat} (hc : c < A 0 6) : X1_isOnShelf (nI c) (blk y b) = some (nI (if A 2 c < 42 then 1 else 0)) := by
  obtain ⟨B, h1, h2⟩ := is_blk h
  rw [h2, X1_isOnShelf_n (IA_eq h1 hA) (by rw [← h1 0 (by decide)]; exact hc), h1 2 (by decide)]
/-! over, counted -/
theorem pcr_cn (s : Nat) : ∀ m c, pcr m (s / 2 ^ c) = cnF (fun i => s.testBit i) m c := by
  intro m
  induction m with
  | zero => intro c; rfl
  | succ m ih =>
    intro c
    show s / 2 ^ c % 2 + pcr m (s / 2 ^ c / 2) = (if s.testBit c = true then 1 else 0) + cnF (fun i => s.testBit i) m (c + 1)
    rw [Nat.div_div_eq_div_mul, show 2 ^ c * 2 = 2 ^ (c + 1) from rfl, ih (c + 1), Nat.testBit_eq_decide_div_mod_eq]
    by_cases e : s / 2 ^ c % 2 = 1
    · rw [if_pos (decide_eq_true e), e]
    · rw [if_neg (by rw [decide_eq_true_eq]; exact e)]
      have := Nat.mod_lt (s / 2 ^ c) (show 2 > 0 by decide)
      omega
theorem cn_add (f : Nat → Bool) (b : Nat) : ∀ a c, cnF f (a + b) c = cnF f a c + cnF f b (c + a) := by
  intro a
  induction a with
  | zero =>
    intro c
    rw [Nat.zero_add]
    show _ = 0 + _
    rw [Nat.zero_add, Nat.add_zero]
  | succ a ih =>
    intro c
    rw [show a + 1 + b = (a + b) + 1 by omega]
    show (if f c = true then 1 else 0) + cnF f (a + b) (c + 1) = (if f c = true then 1 else 0) + cnF f a (c + 1) + _
    rw [ih, show c + 1 + a = c + (a + 1) by omega]
    omega
theorem gv_pcr {A : AS} (hn : A 0 6 ≤ 24) : pcr 24 (msk A 101 ||| msk A 102) = gvA A := by
  have e := pcr_cn (msk A 101 ||| msk A 102) 24 0
  rw [Nat.pow_zero, Nat.div_one] at e
  rw [e, show 24 = A 0 6 + (24 - A 0 6) by omega, cn_add, cn_no (24 - A 0 6) _ (fun x h1 h2 => ?_), Nat.add_zero]
  · refine cn_eq _ 0 (fun x _ hx => ?_)
    rw [Nat.testBit_or, msk_bit, msk_bit, decide_eq_true (show x < A 0 6 by omega), Bool.true_and, Bool.true_and]
    rfl
  · rw [Nat.testBit_or, msk_bit, msk_bit, decide_eq_false (show ¬ x < A 0 6 by omega), Bool.false_and, Bool.false_and]
    rfl
theorem X1_goneOver_n {A : AS} (h : IA A) : X1_goneOver (rp A) = some (nI (gvA A)) := by
  unfold X1_goneOver
  have hn := ia_n h
  rw [show (101 : Int32) = nI 101 from rfl, X1_bitsAt_n h (by decide), bd_some, show (102 : Int32) = nI 102 from rfl, X1_bitsAt_n h (by decide), bd_some, or_n, bc_n (Nat.or_lt_two_pow (n := 24) (msk_lt hn 101) (msk_lt hn 102)), gv_pcr hn]
theorem is_over {y : St} {b : Nat} {A : AS} (h : Is y b A) (hA : IA A) : X1_goneOver (blk y b) = some (nI (gvA A)) := by
  obtain ⟨B, h1, h2⟩ := is_blk h
  rw [h2, X1_goneOver_n (IA_eq h1 hA), gv_eq h1]
theorem bn_cnt {A : AS} (h : IA A) (n : Nat) : gvA (bnA n A) = gvA A + ovA n A ∧ bnA n A 0 6 = A 0 6 ∧ (∀ c, c < A 0 6 → ¬ A 2 c < 42 → bnA n A 2 c = A 2 c) ∧ bnA n A 1 = A 1 := by
  obtain ⟨h1, h2, h3⟩ := bl_bn n (A, 0, 0) h
  exact ⟨h1, h2, h3, bnT_r n (A, 0, 0) (by decide) (by decide) (by decide) (by decide)⟩
theorem gv_le {A : AS} (h : IA A) : gvA A ≤ 24 := Nat.le_trans (cn_le _ _ _) (ia_n h)
