/-! PURE 8: drops, sets and sums of the class's Shelf -/
theorem IA_over {A : AS} (h : IA A) {c p : Nat} (hp : A 2 c = 100) (hv : p = 101 ∨ p = 102) : IA (u2 A 2 c p) := by
  have r0 : u2 A 2 c p 0 = A 0 := u2_row _ _ _ (by decide)
  have r1 : u2 A 2 c p 1 = A 1 := u2_row _ _ _ (by decide)
  have r3 : u2 A 2 c p 3 = A 3 := u2_row _ _ _ (by decide)
  have r4 : u2 A 2 c p 4 = A 4 := u2_row _ _ _ (by decide)
  have r5 : u2 A 2 c p 5 = A 5 := u2_row _ _ _ (by decide)
  have r6 : u2 A 2 c p 6 = A 6 := u2_row _ _ _ (by decide)
  have r2 : ∀ x, u2 A 2 c p 2 x = if x = c then p else A 2 x := fun x => by simp only [u2, ↓reduceIte, Nat.reduceEqDiff, Nat.zero_ne_one, Nat.one_ne_zero]
  unfold IA
  rw [r0, r1, r3, r4, r5, r6]
  refine ⟨⟨h.1.1, h.1.2.1, fun x hx => ?_⟩, ⟨h.2.1.1, fun q' i hq' hi => ?_, h.2.1.2.2.1, fun x hx hx2 => ?_⟩, h.2.2.1, h.2.2.2⟩
  · rw [r2]
    split
    · omega
    · exact ia_p h hx
  · obtain ⟨h1, h2⟩ := ia_s h hq' hi
    rw [r2, if_neg ?_]
    · exact ⟨h1, h2⟩
    · intro e
      rw [e, hp] at h2
      omega
  · rw [r2] at hx2 ⊢
    by_cases e : x = c
    · rw [if_pos e] at hx2
      omega
    · rw [if_neg e] at hx2 ⊢
      exact ia_o h hx hx2
theorem fcA_col {A : AS} (hh : ∀ q, q < 42 → A 3 q ≤ 4) {p : Nat} (hp : p < 2) : ∀ d c, c + d = 7 → fcA A p d c ≤ 7 ∧ (fcA A p d c ≠ 7 → A 3 (fcA A p d c * 6 + p) < 4) := by
  intro d
  induction d with
  | zero => intro c hc; exact ⟨by show c ≤ 7; omega, fun z => absurd (show c = 7 by omega) z⟩
  | succ d ih =>
    intro c hc
    have hb := hh (c * 6 + p) (by omega)
    unfold fcA
    split
    · exact ih (c + 1) (by omega)
    · exact ⟨by omega, fun _ => by omega⟩
theorem putA_u0 (A : AS) (c q j v : Nat) : putA (u2 A 0 j v) c q = u2 (putA A c q) 0 j v := by
  funext a b
  unfold putA
  rw [u2_row A _ _ (show (3 : Nat) ≠ 0 by decide)]
  unfold u2
  by_cases h0 : a = 0
  · simp only [h0, ↓reduceIte, Nat.reduceEqDiff, Nat.zero_ne_one, Nat.one_ne_zero]
  · simp only [h0, if_false]
theorem u2_comm (A : AS) {k k2 : Nat} (j v j2 v2 : Nat) (h : k ≠ k2) : u2 (u2 A k j v) k2 j2 v2 = u2 (u2 A k2 j2 v2) k j v := by
  funext a b
  unfold u2
  by_cases h0 : a = k
  · subst h0
    rw [if_neg h, if_pos rfl, if_pos rfl]
    simp only [h, if_false]
  · simp only [h0, if_false]
theorem dpA_IA {A : AS} (h : IA A) {c col : Nat} (hc : c < A 0 6) (hp : A 2 c = 100) (hl : col < 7) : IA (dpA A c col) ∧ dpA A c col 0 7 = A 0 7 := by
  have h1 : IA (u2 A 0 8 (A 0 8 + 1)) := IA_u0 h (by decide)
  have hm := Nat.mod_lt (A 0 7) (show 2 > 0 by decide)
  obtain ⟨f1, f2⟩ := fcA_col h.2.1.1 hm (7 - col) col (by omega)
  have e2 : u2 A 0 8 (A 0 8 + 1) 2 = A 2 := u2_row _ _ _ (by decide)
  have e3 : u2 A 0 8 (A 0 8 + 1) 3 = A 3 := u2_row _ _ _ (by decide)
  have e0 : u2 A 0 8 (A 0 8 + 1) 0 6 = A 0 6 := u2_ne _ _ (by decide)
  have e7 : u2 A 0 8 (A 0 8 + 1) 0 7 = A 0 7 := u2_ne _ _ (by decide)
  unfold dpA
  dsimp only
  split
  · exact ⟨IA_over h1 (by rw [e2]; exact hp) (Or.inr rfl), by rw [u2_row _ _ _ (show (0 : Nat) ≠ 2 by decide)]; exact e7⟩
  · rename_i e
    refine ⟨IA_put h1 (by rw [e0]; exact hc) (by rw [e2]; exact hp) (by omega) (by rw [e3]; exact f2 e), ?_⟩
    rw [putA_r _ _ _ (by decide) (by decide) (by decide)]
    exact e7
theorem dpT_IA {T : TS} (h : IA T.1) {c col : Nat} (hc : c < T.1 0 6) (hp : T.1 2 c = 100) (hl : col < 7) : IA (dpT T c col).1 ∧ T.2.1 ≤ (dpT T c col).2.1 ∧ T.2.2 ≤ (dpT T c col).2.2 ∧ (dpT T c col).1 0 7 = T.1 0 7 + 1 := by
  obtain ⟨h1, h2⟩ := dpA_IA h hc hp hl
  have h3 := btT_IA (T := (dpA T.1 c col, T.2.1, T.2.2)) h1
  have h4 := btT_beat (dpA T.1 c col, T.2.1, T.2.2)
  unfold dpT
  exact ⟨h3.1, h3.2.1, h3.2.2, by rw [h4]; dsimp only; rw [h2]⟩
theorem X1_release_n {T : TS} (h : IA T.1) {c col : Nat} (hc : c < T.1 0 6) (hp : T.1 2 c = 100) (hl : col < 7) (hb : T.1 0 7 < 100000) : X1_release (nI c) (nI col) (rp T.1) = some (rp (dpT T c col).1) := by
  have h0 := ia_n h
  have hm := Nat.mod_lt (T.1 0 7) (show 2 > 0 by decide)
  obtain ⟨d1, d2⟩ := dpA_IA h hc hp hl
  have tail : ∀ B : AS, u2 B 0 8 (B 0 8 + 1) = dpA T.1 c col → X1_release_L62 (rp B) = some (rp (dpT T c col).1) := by
    intro B e
    have hpb := X1_passBeat_n (T := (dpA T.1 c col, T.2.1, T.2.2)) d1 (by show dpA T.1 c col 0 7 < _; omega)
    unfold X1_release_L62
    simp only [bd_some, rp_at, lit, nI_add, rp_u2, e]
    rw [hpb]
    rfl
  have fin : ∀ x, x = fcA T.1 (T.1 0 7 % 2) (7 - col) col → X1_release_L39 (nI c) (nI (x * 6 + T.1 0 7 % 2)) (rp T.1) = some (rp (dpT T c col).1) := by
    intro x hx
    obtain ⟨f1, f2⟩ := fcA_col h.2.1.1 hm (7 - col) col (by omega)
    rw [← hx] at f1 f2
    unfold X1_release_L39
    simp (disch := omega) only [lit, le_n]
    by_cases e : x = 7
    · rw [if_pos (by omega), wr_n (by omega) (by decide)]
      simp only [bd_some]
      refine tail _ ?_
      unfold dpA
      dsimp only
      rw [← hx, if_pos e, u2_comm _ _ _ _ _ (show (2 : Nat) ≠ 0 by decide)]
      rfl
    · rw [if_neg (by omega), X1_put_n (by omega) (f2 e) (by omega)]
      simp only [bd_some]
      refine tail _ ?_
      unfold dpA
      dsimp only
      rw [← hx, if_neg e, putA_u0]
      rfl
  have loop : ∀ d x n, x + d = 7 → d < n → fcA T.1 (T.1 0 7 % 2) d x = fcA T.1 (T.1 0 7 % 2) (7 - col) col → X1_release_L17 n (nI c) (nI (x * 6 + T.1 0 7 % 2)) (rp T.1) = some (rp (dpT T c col).1) := by
    intro d
    induction d with
    | zero =>
      intro x n hx hn he
      obtain ⟨m, rfl⟩ : ∃ m, n = m + 1 := ⟨n - 1, by omega⟩
      rw [X1_release_L17]
      simp (disch := omega) only [lit, le_n]
      rw [if_pos (by omega)]
      exact fin x he
    | succ d ih =>
      intro x n hx hn he
      obtain ⟨m, rfl⟩ : ∃ m, n = m + 1 := ⟨n - 1, by omega⟩
      have hb2 := ia_h h (show x * 6 + T.1 0 7 % 2 < 42 by omega)
      rw [X1_release_L17]
      simp (disch := omega) only [rd_n, wr_n, bd_some, lit, nI_add, pk_mul, rp_at, le_n, lt_n, eq_n, sub_n, div_n, irm_n, mn_n, ↓reduceIte, Nat.reduceEqDiff, Nat.zero_ne_one, Nat.one_ne_zero]
      rw [if_neg (by omega)]
      have hex : fcA T.1 (T.1 0 7 % 2) (d + 1) x = if T.1 3 (x * 6 + T.1 0 7 % 2) = 4 then fcA T.1 (T.1 0 7 % 2) d (x + 1) else x := rfl
      rw [hex] at he
      by_cases e : T.1 3 (x * 6 + T.1 0 7 % 2) = 4
      · rw [if_neg (by omega)]
        rw [if_pos e] at he
        have := ih (x + 1) m (by omega) (by omega) he
        rw [show (x + 1) * 6 + T.1 0 7 % 2 = x * 6 + T.1 0 7 % 2 + 6 from by omega] at this
        exact this
      · rw [if_pos (by omega)]
        rw [if_neg e] at he
        exact fin x he
  unfold X1_release
  rw [if_pos (nI_pos' (by omega))]
  simp (disch := omega) only [lit, rp_at, irm_n, pk_mul, nI_add]
  exact loop (7 - col) col FU (by omega) (by unfold FU; omega) rfl
/-! sets -/
theorem mkP_lt (f : Nat → Bool) : ∀ d c b, b < 2 ^ c → mkP f d c b < 2 ^ (c + d) := by
  intro d
  induction d with
  | zero => intro c b h; exact h
  | succ d ih =>
    intro c b h
    unfold mkP
    have h2 : (if f c then b ||| 2 ^ c else b) < 2 ^ (c + 1) := by
      have h3 : (2 : Nat) ^ c < 2 ^ (c + 1) := Nat.pow_lt_pow_right (by decide) (by omega)
      split
      · exact Nat.or_lt_two_pow (by omega) h3
      · omega
    have := ih (c + 1) _ h2
    rwa [show c + 1 + d = c + (d + 1) from by omega] at this
theorem mkP_bit (f : Nat → Bool) : ∀ d c b i, b < 2 ^ c → (mkP f d c b).testBit i = (b.testBit i || (decide (c ≤ i) && (decide (i < c + d) && f i))) := by
  intro d
  induction d with
  | zero =>
    intro c b i h
    show b.testBit i = _
    have : (decide (c ≤ i) && (decide (i < c + 0) && f i)) = false := by
      by_cases e : c ≤ i
      · simp [Nat.not_lt.mpr e]
      · simp [e]
    rw [this, Bool.or_false]
  | succ d ih =>
    intro c b i h
    unfold mkP
    have h3 : (2 : Nat) ^ c < 2 ^ (c + 1) := Nat.pow_lt_pow_right (by decide) (by omega)
    rw [ih (c + 1) _ i (by split; exact Nat.or_lt_two_pow (by omega) h3; omega)]
    by_cases e : i = c
    · subst e
      have hz : b.testBit i = false := Nat.testBit_lt_two_pow h
      cases hf : f i
      · simp [hz]
      · simp [hz, Nat.testBit_or, Nat.testBit_two_pow]
    · have h4 : (if f c then b ||| 2 ^ c else b).testBit i = b.testBit i := by
        split
        · rw [Nat.testBit_or, Nat.testBit_two_pow]
          simp [Ne.symm e]
        · rfl
      rw [h4]
      have h5 : decide (c + 1 ≤ i) = decide (c ≤ i) := by
        apply decide_eq_decide.mpr
        omega
      rw [h5, show c + 1 + d = c + (d + 1) from by omega]
theorem msk_bit (A : AS) (p i : Nat) : (msk A p).testBit i = (decide (i < A 0 6) && decide (A 2 i = p)) := by
  unfold msk
  rw [mkP_bit _ _ _ _ _ (by decide)]
  simp
theorem shm_bit (A : AS) (i : Nat) : (shm A).testBit i = (decide (i < A 0 6) && decide (A 2 i < 42)) := by
  unfold shm
  rw [mkP_bit _ _ _ _ _ (by decide)]
  simp
theorem msk_lt {A : AS} (h : A 0 6 ≤ 24) (p : Nat) : msk A p < 16777216 := by
  have h1 := mkP_lt (fun c => decide (A 2 c = p)) (A 0 6) 0 0 (by decide)
  have h2 : (2 : Nat) ^ (0 + A 0 6) ≤ 2 ^ 24 := Nat.pow_le_pow_right (by decide) (by omega)
  unfold msk
  exact Nat.lt_of_lt_of_le h1 h2
theorem shm_lt {A : AS} (h : A 0 6 ≤ 24) : shm A < 16777216 := by
  have h1 := mkP_lt (fun c => decide (A 2 c < 42)) (A 0 6) 0 0 (by decide)
  have h2 : (2 : Nat) ^ (0 + A 0 6) ≤ 2 ^ 24 := Nat.pow_le_pow_right (by decide) (by omega)
  unfold shm
  exact Nat.lt_of_lt_of_le h1 h2
theorem lp_bitsAt {A : AS} (h : IA A) {p : Nat} (hp : p < 1000) : ∀ (d c b n : Nat), c + d = A 0 6 → d < n → X1_bitsAt_L4 n (nI p) (nI b) (nI c) (rp A) = some (nI (mkP (fun c => decide (A 2 c = p)) d c b)) := by
  have h0 := ia_n h
  intro d
  induction d with
  | zero =>
    intro c b n hc hn
    obtain ⟨m, rfl⟩ : ∃ m, n = m + 1 := ⟨n - 1, by omega⟩
    rw [X1_bitsAt_L4]
    simp (disch := omega) only [rd_n, wr_n, bd_some, lit, nI_add, pk_mul, rp_at, le_n, lt_n, eq_n, sub_n, div_n, irm_n, mn_n, ↓reduceIte, Nat.reduceEqDiff, Nat.zero_ne_one, Nat.one_ne_zero]
    rw [if_pos (by omega)]
    rfl
  | succ d ih =>
    intro c b n hc hn
    obtain ⟨m, rfl⟩ : ∃ m, n = m + 1 := ⟨n - 1, by omega⟩
    have h1 := ia_p2 h (show c < A 0 6 by omega)
    rw [X1_bitsAt_L4]
    simp (disch := omega) only [rd_n, wr_n, bd_some, lit, nI_add, pk_mul, rp_at, le_n, lt_n, eq_n, sub_n, div_n, irm_n, mn_n, ↓reduceIte, Nat.reduceEqDiff, Nat.zero_ne_one, Nat.one_ne_zero, shl_n, or_n]
    rw [if_neg (by omega)]
    unfold mkP
    by_cases e : A 2 c = p
    · rw [if_pos e]
      simp only [e, decide_true, if_true]
      exact ih (c + 1) _ m (by omega) (by omega)
    · rw [if_neg e]
      simp only [e, decide_false, if_false, Bool.false_eq_true]
      exact ih (c + 1) _ m (by omega) (by omega)
theorem X1_bitsAt_n {A : AS} (h : IA A) {p : Nat} (hp : p < 1000) : X1_bitsAt (nI p) (rp A) = some (nI (msk A p)) := by
  unfold X1_bitsAt
  exact lp_bitsAt h hp (A 0 6) 0 0 FU (by omega) (by have := ia_n h; unfold FU; omega)
theorem lp_bitsSh {A : AS} (h : IA A) : ∀ (d c b n : Nat), c + d = A 0 6 → d < n → X1_bitsOnShelf_L4 n (nI b) (nI c) (rp A) = some (nI (mkP (fun c => decide (A 2 c < 42)) d c b)) := by
  have h0 := ia_n h
  intro d
  induction d with
  | zero =>
    intro c b n hc hn
    obtain ⟨m, rfl⟩ : ∃ m, n = m + 1 := ⟨n - 1, by omega⟩
    rw [X1_bitsOnShelf_L4]
    simp (disch := omega) only [rd_n, wr_n, bd_some, lit, nI_add, pk_mul, rp_at, le_n, lt_n, eq_n, sub_n, div_n, irm_n, mn_n, ↓reduceIte, Nat.reduceEqDiff, Nat.zero_ne_one, Nat.one_ne_zero]
    rw [if_pos (by omega)]
    rfl
  | succ d ih =>
    intro c b n hc hn
    obtain ⟨m, rfl⟩ : ∃ m, n = m + 1 := ⟨n - 1, by omega⟩
    rw [X1_bitsOnShelf_L4, X1_isOnShelf_n h (show c < A 0 6 by omega)]
    simp (disch := omega) only [rd_n, wr_n, bd_some, lit, nI_add, pk_mul, rp_at, le_n, lt_n, eq_n, sub_n, div_n, irm_n, mn_n, ↓reduceIte, Nat.reduceEqDiff, Nat.zero_ne_one, Nat.one_ne_zero, shl_n, or_n]
    rw [if_neg (by omega)]
    unfold mkP
    by_cases e : A 2 c < 42
    · simp only [e, decide_true, if_true]
      rw [if_neg (show ¬ nI 1 = nI 0 from by decide)]
      exact ih (c + 1) _ m (by omega) (by omega)
    · simp only [e, decide_false, if_false, Bool.false_eq_true, if_true]
      exact ih (c + 1) _ m (by omega) (by omega)
theorem X1_bitsOnShelf_n {A : AS} (h : IA A) : X1_bitsOnShelf (rp A) = some (nI (shm A)) := by
  unfold X1_bitsOnShelf
  exact lp_bitsSh h (A 0 6) 0 0 FU (by omega) (by have := ia_n h; unfold FU; omega)
theorem bit_n {s c : Nat} (hs : s < 4294967296) (hc : c < 32) : (ush32 (nI s) (nI c) &&& 1 = 1) = (s.testBit c = true) := by
  have e1 : (1 : Int32) = nI 1 := rfl
  rw [ush_n hs hc, e1, and_n, Nat.and_one_is_mod]
  have h2 : s / 2 ^ c % 2 < 2 := Nat.mod_lt _ (by decide)
  rw [eq_n (by omega) (by decide)]
  apply propext
  rw [Nat.testBit_eq_decide_div_mod_eq]
  simp
theorem lp_worth {A : AS} (h : IA A) {s : Nat} (hs : s < 4294967296) : ∀ (d c w n : Nat), c + d = A 0 6 → d < n → X1_worthOf_L4 n (nI s) (nI w) (nI c) (rp A) = some (nI (woA A s d c w)) := by
  have h0 := ia_n h
  intro d
  induction d with
  | zero =>
    intro c w n hc hn
    obtain ⟨m, rfl⟩ : ∃ m, n = m + 1 := ⟨n - 1, by omega⟩
    rw [X1_worthOf_L4]
    simp (disch := omega) only [rd_n, wr_n, bd_some, lit, nI_add, pk_mul, rp_at, le_n, lt_n, eq_n, sub_n, div_n, irm_n, mn_n, ↓reduceIte, Nat.reduceEqDiff, Nat.zero_ne_one, Nat.one_ne_zero]
    rw [if_pos (by omega)]
    rfl
  | succ d ih =>
    intro c w n hc hn
    obtain ⟨m, rfl⟩ : ∃ m, n = m + 1 := ⟨n - 1, by omega⟩
    have h1 := ia_k h (show c < A 0 6 by omega)
    rw [X1_worthOf_L4]
    simp only [bit_n hs (show c < 32 by omega)]
    simp (disch := omega) only [rd_n, wr_n, bd_some, lit, nI_add, pk_mul, rp_at, le_n, lt_n, eq_n, sub_n, div_n, irm_n, mn_n, ↓reduceIte, Nat.reduceEqDiff, Nat.zero_ne_one, Nat.one_ne_zero, rdc_n, stC1]
    rw [if_neg (by omega)]
    unfold woA
    by_cases e : s.testBit c = true
    · simp only [e, if_true]
      exact ih (c + 1) _ m (by omega) (by omega)
    · simp only [e, if_false, Bool.false_eq_true]
      exact ih (c + 1) _ m (by omega) (by omega)
theorem X1_worthOf_n {A : AS} (h : IA A) {s : Nat} (hs : s < 4294967296) : X1_worthOf (nI s) (rp A) = some (nI (wot A s)) := by
  unfold X1_worthOf
  exact lp_worth h hs (A 0 6) 0 0 FU (by omega) (by have := ia_n h; unfold FU; omega)
theorem X1_worthAt_n {A : AS} (h : IA A) {p : Nat} (hp : p < 1000) : X1_worthAt (nI p) (rp A) = some (nI (wot A (msk A p))) := by
  have h1 := msk_lt (ia_n h) p
  unfold X1_worthAt
  rw [X1_bitsAt_n h hp]
  simp only [bd_some]
  rw [X1_worthOf_n h (by omega)]
  rfl
theorem X1_gain_n {A : AS} (h : IA A) : X1_gain (rp A) = some (gI A) := by
  have e := X1_worthAt_n h (show 101 < 1000 by decide)
  rw [show nI 101 = (101 : Int32) from rfl] at e
  unfold X1_gain
  rw [e]
  rfl
theorem lp_lih {A : AS} (h : IA A) : ∀ (d c n : Nat), c + d = A 0 6 → d < n → X1_leastInHand_L2 n (nI c) (rp A) = some (if lhA A d c < A 0 6 then nI (lhA A d c) else -1) := by
  have h0 := ia_n h
  intro d
  induction d with
  | zero =>
    intro c n hc hn
    obtain ⟨m, rfl⟩ : ∃ m, n = m + 1 := ⟨n - 1, by omega⟩
    have e1 : lhA A 0 c = c := rfl
    rw [X1_leastInHand_L2, e1, if_neg (show ¬ c < A 0 6 by omega), rp_at, if_pos (nI_le (by omega) (by omega))]
  | succ d ih =>
    intro c n hc hn
    obtain ⟨m, rfl⟩ : ∃ m, n = m + 1 := ⟨n - 1, by omega⟩
    have h1 := ia_p2 h (show c < A 0 6 by omega)
    rw [X1_leastInHand_L2, rp_at, if_neg (by rw [le_n (by omega) (by omega)]; omega), rd_n (by omega) (by decide)]
    simp only [bd_some]
    unfold lhA
    by_cases e : A 2 c = 100
    · rw [if_pos (by rw [e]; rfl), if_pos e, if_pos (show c < A 0 6 by omega)]
    · rw [if_neg (by rw [lit, eq_n (by omega) (by decide)]; exact e), if_neg e]
      have := ih (c + 1) m (by omega) (by omega)
      rw [nI_succ] at this
      exact this
theorem X1_leastInHand_n {A : AS} (h : IA A) : X1_leastInHand (rp A) = some (if lih A < A 0 6 then nI (lih A) else -1) := by
  unfold X1_leastInHand
  exact lp_lih h (A 0 6) 0 FU (by omega) (by have := ia_n h; unfold FU; omega)
theorem lhA_hand (A : AS) : ∀ d c, c + d = A 0 6 → lhA A d c ≤ A 0 6 ∧ (lhA A d c < A 0 6 → A 2 (lhA A d c) = 100) := by
  intro d
  induction d with
  | zero => intro c hc; exact ⟨by show c ≤ _; omega, fun z => absurd z (by show ¬ c < _; omega)⟩
  | succ d ih =>
    intro c hc
    unfold lhA
    split
    · rename_i e
      exact ⟨by omega, fun _ => e⟩
    · exact ih (c + 1) (by omega)
theorem lih_hand (A : AS) : lih A ≤ A 0 6 ∧ (lih A < A 0 6 → A 2 (lih A) = 100) := lhA_hand A (A 0 6) 0 (by omega)
