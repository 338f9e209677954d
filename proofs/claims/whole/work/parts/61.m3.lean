/-! PURE 11: what the counters don't change; the reference's beats, drops, sets, sums, rows kept aside -/
theorem gn_irr (c row : Nat) {T U : TS} (h : T.1 = U.1) : (gnT T c row).1 = (gnT U c row).1 := by
  unfold gnT
  dsimp only
  rw [h]
theorem gn_cnt (c row : Nat) {T U : TS} (h : T.1 = U.1) : (gnT T c row).2.1 + U.2.1 = (gnT U c row).2.1 + T.2.1 := by
  unfold gnT
  dsimp only
  rw [h]
  omega
theorem pr_irr (c : Nat) : ∀ (d : Nat) (T U : TS), T.1 = U.1 → (prT c d T).1 = (prT c d U).1 ∧ (prT c d T).2.1 + U.2.1 = (prT c d U).2.1 + T.2.1 := by
  intro d
  induction d with
  | zero => intro T U h; exact ⟨h, Nat.add_comm _ _⟩
  | succ d ih =>
    intro T U h
    have h2 := ih (gnT T c d) (gnT U c d) (gn_irr c d h)
    have h3 := gn_cnt c d h
    unfold prT
    exact ⟨h2.1, by omega⟩
theorem pa_irr : ∀ (d c : Nat) (T U : TS), T.1 = U.1 → (paT d c T).1 = (paT d c U).1 ∧ (paT d c T).2.1 + U.2.1 = (paT d c U).2.1 + T.2.1 := by
  intro d
  induction d with
  | zero => intro c T U h; exact ⟨h, Nat.add_comm _ _⟩
  | succ d ih =>
    intro c T U h
    unfold paT
    rw [h]
    split
    · have h2 := pr_irr c (rnA U.1 c 6 0) T U h
      have h3 := ih (c + 1) _ _ h2.1
      exact ⟨h3.1, by omega⟩
    · exact ih (c + 1) T U h
theorem sl_irr (q : Nat) {T U : TS} (h : T.1 = U.1) : (slT T q).1 = (slT U q).1 ∧ (slT T q).2.1 + U.2.1 = (slT U q).2.1 + T.2.1 := by
  unfold slT
  dsimp only
  rw [h]
  exact ⟨rfl, by omega⟩
theorem sr_irr (row : Nat) : ∀ (d c : Nat) (T U : TS), T.1 = U.1 → (srT row d c T).1 = (srT row d c U).1 ∧ (srT row d c T).2.1 + U.2.1 = (srT row d c U).2.1 + T.2.1 := by
  intro d
  induction d with
  | zero => intro c T U h; exact ⟨h, Nat.add_comm _ _⟩
  | succ d ih =>
    intro c T U h
    unfold srT
    rw [h]
    split
    · have h2 := sl_irr (c * 6 + row) h
      have h3 := ih (c + 1) _ _ h2.1
      exact ⟨h3.1, by omega⟩
    · exact ih (c + 1) T U h
theorem sa_irr : ∀ (d : Nat) (T U : TS), T.1 = U.1 → (saT d T).1 = (saT d U).1 ∧ (saT d T).2.1 + U.2.1 = (saT d U).2.1 + T.2.1 := by
  intro d
  induction d with
  | zero => intro T U h; exact ⟨h, Nat.add_comm _ _⟩
  | succ d ih =>
    intro T U h
    have h2 := sr_irr d 7 0 T U h
    have h3 := ih _ _ h2.1
    unfold saT
    exact ⟨h3.1, by omega⟩
theorem bt_irr {T U : TS} (h : T.1 = U.1) : (btT T).1 = (btT U).1 ∧ (btT T).2.1 + U.2.1 = (btT U).2.1 + T.2.1 := by
  have key : (btU T).1 = (btU U).1 ∧ (btU T).2.1 + U.2.1 = (btU U).2.1 + T.2.1 := by
    unfold btU
    rw [h]
    split
    · have h2 := pa_irr 7 0 T U h
      have h3 := sa_irr 6 _ _ h2.1
      exact ⟨h3.1, by omega⟩
    · exact sa_irr 6 T U h
  rw [btT_eq, btT_eq]
  dsimp only
  rw [key.1]
  exact ⟨rfl, key.2⟩
theorem bn_irr : ∀ (d : Nat) (T U : TS), T.1 = U.1 → (bnT d T).1 = (bnT d U).1 ∧ (bnT d T).2.1 + U.2.1 = (bnT d U).2.1 + T.2.1 := by
  intro d
  induction d with
  | zero => intro T U h; exact ⟨h, Nat.add_comm _ _⟩
  | succ d ih =>
    intro T U h
    have h2 := bt_irr h
    have h3 := ih _ _ h2.1
    unfold bnT
    exact ⟨h3.1, by omega⟩
def bnA (n : Nat) (A : AS) : AS := (bnT n (A, 0, 0)).1
def ovA (n : Nat) (A : AS) : Nat := (bnT n (A, 0, 0)).2.1
def drA (A : AS) (c col : Nat) : AS := (dpT (A, 0, 0) c col).1
theorem bnT_1 (n : Nat) (T : TS) : (bnT n T).1 = bnA n T.1 := (bn_irr n T (T.1, 0, 0) rfl).1
theorem bnT_o (n : Nat) (T : TS) : (bnT n T).2.1 = T.2.1 + ovA n T.1 := by
  have h := (bn_irr n T (T.1, 0, 0) rfl).2
  unfold ovA
  dsimp only at h
  omega
theorem dpT_1 (T : TS) (c col : Nat) : (dpT T c col).1 = drA T.1 c col := by
  unfold drA dpT
  exact (bt_irr (T := (dpA T.1 c col, T.2.1, T.2.2)) (U := (dpA T.1 c col, 0, 0)) rfl).1
theorem bnA_IA {A : AS} (n : Nat) (h : IA A) : IA (bnA n A) ∧ bnA n A 0 7 = A 0 7 + n := by
  have h1 := bnT_IA n (A, 0, 0) h
  exact ⟨h1.1, h1.2.2.2⟩
theorem drA_IA {A : AS} (h : IA A) {c col : Nat} (hc : c < A 0 6) (hp : A 2 c = 100) (hl : col < 7) : IA (drA A c col) ∧ drA A c col 0 7 = A 0 7 + 1 := by
  have h1 := dpT_IA (T := (A, 0, 0)) h hc hp hl
  exact ⟨h1.1, h1.2.2.2⟩
theorem X1_advance_a {N : Nat} (hN : N < 900) {A : AS} (h : IA A) (hb : A 0 7 + N < 1000000) : X1_advance (nI N) (rp A) = some (rp (bnA N A)) := X1_advance_n (T := (A, 0, 0)) hN h hb
theorem X1_release_a {A : AS} (h : IA A) {c col : Nat} (hc : c < A 0 6) (hp : A 2 c = 100) (hl : col < 7) (hb : A 0 7 < 100000) : X1_release (nI c) (nI col) (rp A) = some (rp (drA A c col)) := X1_release_n (T := (A, 0, 0)) h hc hp hl hb
/-! the reference -/
theorem lm_bg {mm : St} {N o0 : Nat} (hN : N < 2000) : ∀ (d i n : Nat) (T : TS), i + d = N → d < n → IA T.1 → T.1 0 7 + d < 1000000 → o0 ≤ T.2.1 → X4_beatsGo_L7 n (nI N) (nI o0) (nI i) (mst mm T) = some (nI ((bnT d T).2.1 - o0), mst mm (bnT d T)) := by
  intro d
  induction d with
  | zero =>
    intro i n T hi hn h hb ho
    obtain ⟨m, rfl⟩ : ∃ m, n = m + 1 := ⟨n - 1, by omega⟩
    have e0 : bnT 0 T = T := rfl
    rw [X4_beatsGo_L7, if_pos (nI_le (by omega) (by omega)), mst_o, sub_n ho, e0]
  | succ d ih =>
    intro i n T hi hn h hb ho
    obtain ⟨m, rfl⟩ : ∃ m, n = m + 1 := ⟨n - 1, by omega⟩
    have h2 := btT_IA h
    have h3 := btT_beat T
    rw [X4_beatsGo_L7, if_neg (nI_ge (by omega) (by omega)), X4_beat_n h (by omega), bd_some]
    rw [show nI i + 1 = nI (i + 1) from (nI_succ i).symm]
    exact ih (i + 1) m (btT T) (by omega) (by omega) h2.1 (by omega) (by omega)
theorem X4_beatsGo_n {mm : St} {N : Nat} (hN : N < 900) {T : TS} (h : IA T.1) (hb : T.1 0 7 + N < 1000000) : X4_beatsGo (nI N) (mst mm T) = some (nI (ovA N T.1), mst mm (bnT N T)) := by
  have e := lm_bg (mm := mm) (show N < 2000 by omega) N 0 FU T (by omega) (by unfold FU; omega) h hb (Nat.le_refl _)
  rw [show nI 0 = (0 : Int32) from rfl, bnT_o, show T.2.1 + ovA N T.1 - T.2.1 = ovA N T.1 from by omega] at e
  unfold X4_beatsGo
  rw [mst_o]
  exact e
theorem X4_dropped_n {mm : St} {T : TS} (h : IA T.1) {c col : Nat} (hc : c < T.1 0 6) (hp : T.1 2 c = 100) (hl : col < 7) (hb : T.1 0 7 < 100000) : X4_dropped (nI c) (nI col) (mst mm T) = some (mst mm (dpT T c col)) := by
  have h0 := ia_n h
  have hm := Nat.mod_lt (T.1 0 7) (show 2 > 0 by decide)
  obtain ⟨d1, d2⟩ := dpA_IA h hc hp hl
  have hbt := X4_beat_n (mm := mm) (T := (dpA T.1 c col, T.2.1, T.2.2)) d1 (by show dpA T.1 c col 0 7 < _; omega)
  have w5 : wr (mst mm T) 1 275 5 (nI (T.1 0 8 + 1)) = some (mst mm (u2 T.1 0 8 (T.1 0 8 + 1), T.2)) := mw (i := 5) (by decide) (fun j => by rw [encu_0 (by decide) (by decide)]; rfl)
  have r5 : rd (mst mm T) 1 275 5 = some (nI (T.1 0 8)) := md (i := 5) (by decide)
  have fin : ∀ x, x = fcA T.1 (T.1 0 7 % 2) (7 - col) col → X4_dropped_L39 (nI c) (nI (T.1 0 7 % 2)) (nI x) (mst mm T) = some (mst mm (dpT T c col)) := by
    intro x hx
    obtain ⟨f1, f2⟩ := fcA_col h.2.1.1 hm (7 - col) col (by omega)
    rw [← hx] at f1 f2
    have hdp : dpA T.1 c col = if x = 7 then u2 (u2 T.1 0 8 (T.1 0 8 + 1)) 2 c 102 else putA (u2 T.1 0 8 (T.1 0 8 + 1)) c (x * 6 + T.1 0 7 % 2) := by
      rw [hx]
      rfl
    have hdT : dpT T c col = btT (dpA T.1 c col, T.2.1, T.2.2) := rfl
    unfold X4_dropped_L39
    rw [r5, bd_some, show nI (T.1 0 8) + 1 = nI (T.1 0 8 + 1) from (nI_succ _).symm, w5, bd_some]
    by_cases e : x = 7
    · rw [if_pos e] at hdp
      have w2 : wr (mst mm (u2 T.1 0 8 (T.1 0 8 + 1), T.2)) 1 275 (nI (41 + c)) (nI 102) = some (mst mm (u2 (u2 T.1 0 8 (T.1 0 8 + 1)) 2 c 102, T.2)) := mw (by omega) (fun j => encu_w (by omega) j)
      rw [if_pos (show nI x = 7 by rw [e]; rfl), show (41 : Int32) + nI c = nI (41 + c) from nI_add 41 c, show (102 : Int32) = nI 102 from rfl, w2, bd_some, ← hdp, hdT]
      rw [show mst mm (dpA T.1 c col, T.2) = mst mm (dpA T.1 c col, T.2.1, T.2.2) from rfl, hbt]
      rfl
    · rw [if_neg e] at hdp
      have e3 : u2 T.1 0 8 (T.1 0 8 + 1) 3 = T.1 3 := u2_row _ _ _ (by decide)
      rw [if_neg (show ¬ nI x = 7 by rw [lit, eq_n (by omega) (by decide)]; exact e), X4_cellOf_n, X4_comesOn_n (by omega) (by omega) (by dsimp only; rw [e3]; exact f2 e), bd_some]
      dsimp only
      rw [← hdp, hdT]
      rw [show mst mm (dpA T.1 c col, T.2) = mst mm (dpA T.1 c col, T.2.1, T.2.2) from rfl, hbt]
      rfl
  have loop : ∀ d x n, x + d = 7 → d < n → fcA T.1 (T.1 0 7 % 2) d x = fcA T.1 (T.1 0 7 % 2) (7 - col) col → X4_dropped_L12 n (nI c) (nI (T.1 0 7 % 2)) (nI x) (mst mm T) = some (mst mm (dpT T c col)) := by
    intro d
    induction d with
    | zero =>
      intro x n hx hn he
      obtain ⟨m, rfl⟩ : ∃ m, n = m + 1 := ⟨n - 1, by omega⟩
      rw [X4_dropped_L12, if_pos (show (7 : Int32) ≤ nI x from nI_le (a := 7) (by omega) (by omega))]
      exact fin x he
    | succ d ih =>
      intro x n hx hn he
      obtain ⟨m, rfl⟩ : ∃ m, n = m + 1 := ⟨n - 1, by omega⟩
      have hb2 := ia_h h (show x * 6 + T.1 0 7 % 2 < 42 by omega)
      rw [X4_dropped_L12, if_neg (show ¬ (7 : Int32) ≤ nI x from nI_ge (b := 7) (by omega) (by decide)), X4_cellOf_n, X4_highOf_n (by omega), bd_some]
      have hex : fcA T.1 (T.1 0 7 % 2) (d + 1) x = if T.1 3 (x * 6 + T.1 0 7 % 2) = 4 then fcA T.1 (T.1 0 7 % 2) d (x + 1) else x := rfl
      rw [hex] at he
      by_cases e : T.1 3 (x * 6 + T.1 0 7 % 2) = 4
      · rw [if_pos (show nI (T.1 3 (x * 6 + T.1 0 7 % 2)) = 4 by rw [e]; rfl), show nI x + 1 = nI (x + 1) from (nI_succ x).symm]
        rw [if_pos e] at he
        exact ih (x + 1) m (by omega) (by omega) he
      · rw [if_neg (show ¬ nI (T.1 3 (x * 6 + T.1 0 7 % 2)) = 4 by rw [lit, eq_n (by omega) (by decide)]; exact e)]
        rw [if_neg e] at he
        exact fin x he
  have r0 : rd (mst mm T) 1 275 0 = some (nI (T.1 0 7)) := md (i := 0) (by decide)
  unfold X4_dropped
  rw [r0, bd_some, show (2 : Int32) = nI 2 from rfl, irm_n (by omega) (by decide) (by decide)]
  exact loop (7 - col) col FU (by omega) (by unfold FU; omega) rfl
theorem lm_set {mm : St} {T : TS} (h : IA T.1) {p : Nat} (hp1 : 100 ≤ p) (hp : p < 1000) : ∀ (d c b n : Nat), c + d = T.1 0 6 → d < n → X4_setOf_L4 n (nI p) (nI b) (nI c) (mst mm T) = some (nI (mkP (fun c => decide (T.1 2 c = p)) d c b)) := by
  have h0 := ia_n h
  have r4 : rd (mst mm T) 1 275 4 = some (nI (T.1 0 6)) := md (i := 4) (by decide)
  intro d
  induction d with
  | zero =>
    intro c b n hc hn
    obtain ⟨m, rfl⟩ : ∃ m, n = m + 1 := ⟨n - 1, by omega⟩
    rw [X4_setOf_L4, r4, bd_some, if_pos (nI_le (by omega) (by omega))]
    rfl
  | succ d ih =>
    intro c b n hc hn
    obtain ⟨m, rfl⟩ : ∃ m, n = m + 1 := ⟨n - 1, by omega⟩
    have h1 := ia_p2 h (show c < T.1 0 6 by omega)
    have h2 := ia_p h (show c < T.1 0 6 by omega)
    have h3 := tp_lt h1
    rw [X4_setOf_L4, r4, bd_some, if_neg (nI_ge (by omega) (by omega)), show (41 : Int32) + nI c = nI (41 + c) from nI_add 41 c, md (by omega), enc_w (by omega), bd_some]
    rw [show nI c + 1 = nI (c + 1) from (nI_succ c).symm, show (1 : Int32) = nI 1 from rfl, show (0 : Int32) = nI 0 from rfl, shl_n (by omega), or_n, or_n, Nat.or_zero]
    unfold mkP
    have e9 : (nI (tp (T.1 2 c)) = nI p) = (T.1 2 c = p) := by
      rw [eq_n (by omega) (by omega), tp_eq (by omega) hp1]
    by_cases e : T.1 2 c = p
    · rw [if_pos (e9.mpr e)]
      simp only [e, decide_true, if_true]
      exact ih (c + 1) _ m (by omega) (by omega)
    · rw [if_neg (fun z => e (e9.mp z))]
      simp only [e, decide_false, if_false, Bool.false_eq_true]
      exact ih (c + 1) _ m (by omega) (by omega)
theorem X4_setOf_n {mm : St} {T : TS} (h : IA T.1) {p : Nat} (hp1 : 100 ≤ p) (hp : p < 1000) : X4_setOf (nI p) (mst mm T) = some (nI (msk T.1 p)) := by
  unfold X4_setOf
  exact lm_set h hp1 hp (T.1 0 6) 0 0 FU (by omega) (by have := ia_n h; unfold FU; omega)
theorem bitm_n {s c : Nat} (hs : s < 2147483648) (hc : c < 32) : (shr32 (nI s) (nI c) &&& 1 = 1) = (s.testBit c = true) := by
  have e1 : (1 : Int32) = nI 1 := rfl
  rw [shr_n hs hc, e1, and_n, Nat.and_one_is_mod]
  have h2 : s / 2 ^ c % 2 < 2 := Nat.mod_lt _ (by decide)
  rw [eq_n (by omega) (by decide)]
  apply propext
  rw [Nat.testBit_eq_decide_div_mod_eq]
  simp
theorem lm_worth {mm : St} {T : TS} (h : IA T.1) {s : Nat} (hs : s < 2147483648) : ∀ (d c w n : Nat), c + d = T.1 0 6 → d < n → X4_worthOf_L4 n (nI s) (nI w) (nI c) (mst mm T) = some (nI (woA T.1 s d c w)) := by
  have h0 := ia_n h
  have r4 : rd (mst mm T) 1 275 4 = some (nI (T.1 0 6)) := md (i := 4) (by decide)
  intro d
  induction d with
  | zero =>
    intro c w n hc hn
    obtain ⟨m, rfl⟩ : ∃ m, n = m + 1 := ⟨n - 1, by omega⟩
    rw [X4_worthOf_L4, r4, bd_some, if_pos (nI_le (by omega) (by omega))]
    rfl
  | succ d ih =>
    intro c w n hc hn
    obtain ⟨m, rfl⟩ : ∃ m, n = m + 1 := ⟨n - 1, by omega⟩
    have h1 := ia_k h (show c < T.1 0 6 by omega)
    rw [X4_worthOf_L4, r4, bd_some, if_neg (nI_ge (by omega) (by omega)), X4_worth_n (by omega) h1, bd_some]
    rw [show nI c + 1 = nI (c + 1) from (nI_succ c).symm, show (0 : Int32) = nI 0 from rfl, nI_add, nI_add, Nat.add_zero]
    unfold woA
    by_cases e : s.testBit c = true
    · rw [if_pos ((bitm_n hs (by omega)).mpr e), if_pos e]
      exact ih (c + 1) _ m (by omega) (by omega)
    · rw [if_neg (fun z => e ((bitm_n hs (by omega)).mp z)), if_neg e]
      exact ih (c + 1) _ m (by omega) (by omega)
theorem X4_worthOf_n {mm : St} {T : TS} (h : IA T.1) {s : Nat} (hs : s < 2147483648) : X4_worthOf (nI s) (mst mm T) = some (nI (wot T.1 s)) := by
  unfold X4_worthOf
  exact lm_worth h hs (T.1 0 6) 0 0 FU (by omega) (by have := ia_n h; unfold FU; omega)
theorem X4_gain_n {mm : St} {T : TS} (h : IA T.1) : X4_gain (mst mm T) = some (gI T.1) := by
  have h1 := msk_lt (ia_n h) 101
  have r5 : rd (mst mm T) 1 275 5 = some (nI (T.1 0 8)) := md (i := 5) (by decide)
  unfold X4_gain
  rw [show (101 : Int32) = nI 101 from rfl, X4_setOf_n h (by decide) (by decide), bd_some, X4_worthOf_n h (by omega), bd_some, r5]
  rfl
theorem X4_isInHand_n {mm : St} {T : TS} (h : IA T.1) {c : Nat} (hc : c < T.1 0 6) : X4_isInHand (nI c) (mst mm T) = some (if T.1 2 c = 100 then 1 else 0) := by
  have h0 := ia_n h
  have h1 := ia_p2 h hc
  have h2 := ia_p h hc
  have h3 := tp_lt h1
  unfold X4_isInHand
  rw [show (41 : Int32) + nI c = nI (41 + c) from nI_add 41 c, md (by omega), enc_w (by omega), bd_some]
  have e9 : (nI (tp (T.1 2 c)) = 100) = (T.1 2 c = 100) := by
    rw [show (100 : Int32) = nI 100 from rfl, eq_n (by omega) (by omega), tp_eq (by omega) (by decide)]
  by_cases e : T.1 2 c = 100
  · rw [if_pos (e9.mpr e), if_pos e]
  · rw [if_neg (fun z => e (e9.mp z)), if_neg e]
theorem lm_lih {mm : St} {T : TS} (h : IA T.1) : ∀ (d c n : Nat), c + d = T.1 0 6 → d < n → X4_leastInHand_L2 n (nI c) (mst mm T) = some (nI (lhA T.1 d c)) := by
  have h0 := ia_n h
  have r4 : rd (mst mm T) 1 275 4 = some (nI (T.1 0 6)) := md (i := 4) (by decide)
  intro d
  induction d with
  | zero =>
    intro c n hc hn
    obtain ⟨m, rfl⟩ : ∃ m, n = m + 1 := ⟨n - 1, by omega⟩
    rw [X4_leastInHand_L2, r4, bd_some, if_pos (nI_le (by omega) (by omega))]
    rfl
  | succ d ih =>
    intro c n hc hn
    obtain ⟨m, rfl⟩ : ∃ m, n = m + 1 := ⟨n - 1, by omega⟩
    rw [X4_leastInHand_L2, r4, bd_some, if_neg (nI_ge (by omega) (by omega)), X4_isInHand_n h (by omega), bd_some]
    unfold lhA
    by_cases e : T.1 2 c = 100
    · rw [if_pos e, if_neg (by decide), if_pos e]
    · rw [if_neg e, if_pos rfl, if_neg e, show nI c + 1 = nI (c + 1) from (nI_succ c).symm]
      exact ih (c + 1) m (by omega) (by omega)
theorem X4_leastInHand_n {mm : St} {T : TS} (h : IA T.1) : X4_leastInHand (mst mm T) = some (nI (lih T.1)) := by
  unfold X4_leastInHand
  exact lm_lih h (T.1 0 6) 0 FU (by omega) (by have := ia_n h; unfold FU; omega)
/-! rows copied -/
def isRow (a : Nat) : Prop := a = 1 ∨ a = 2 ∨ a = 3
theorem lm_cp {a b : Nat} (ha : isRow a) (hb : isRow b) (hab : a ≠ b) (S : St) : ∀ (d k n : Nat), k + d = 275 → d < n → X4_copyRow_L2 a b n (nI k) (setr S b (fun i => if i < k then S a i else S b i)) = some (setr S b (fun i => if i < 275 then S a i else S b i)) := by
  have ea : alM a = 275 := by rcases ha with rfl | rfl | rfl <;> rfl
  have eb : alM b = 275 := by rcases hb with rfl | rfl | rfl <;> rfl
  intro d
  induction d with
  | zero =>
    intro k n hk hn
    obtain ⟨m, rfl⟩ : ∃ m, n = m + 1 := ⟨n - 1, by omega⟩
    have e : k = 275 := by omega
    subst e
    rw [X4_copyRow_L2, if_pos (show (275 : Int32) ≤ nI 275 by decide)]
  | succ d ih =>
    intro k n hk hn
    obtain ⟨m, rfl⟩ : ∃ m, n = m + 1 := ⟨n - 1, by omega⟩
    have h2 : k < 2 ^ 31 := by omega
    have r1 : rd (setr S b (fun i => if i < k then S a i else S b i)) a 275 (nI k) = some (S a k) := by
      unfold rd
      rw [if_neg (by rw [nI_clamp h2]; exact fun q => q.elim (nI_pos h2) (by omega)), nI_clamp h2, setr_other _ _ hab]
    have w1 : wr (setr S b (fun i => if i < k then S a i else S b i)) b 275 (nI k) (S a k) = some (setr S b (fun i => if i < k + 1 then S a i else S b i)) := by
      unfold wr
      rw [if_neg (by rw [nI_clamp h2]; exact fun q => q.elim (nI_pos h2) (by omega)), nI_clamp h2]
      refine congrArg some ?_
      funext x y
      unfold ups setr
      by_cases e : x = b
      · subst e
        simp only [if_true]
        by_cases e2 : y = k
        · subst e2
          rw [if_pos rfl, if_pos (by omega)]
        · rw [if_neg e2]
          by_cases e3 : y < k
          · rw [if_pos e3, if_pos (by omega)]
          · rw [if_neg e3, if_neg (by omega)]
      · simp only [e, if_false]
    rw [X4_copyRow_L2, if_neg (show ¬ (275 : Int32) ≤ nI k from nI_ge (b := 275) (by omega) (by decide)), ea, r1, bd_some, eb, w1, bd_some, show nI k + 1 = nI (k + 1) from (nI_succ k).symm]
    exact ih (k + 1) m (by omega) (by omega)
theorem X4_copyRow_n {a b : Nat} (ha : isRow a) (hb : isRow b) (hab : a ≠ b) (S : St) : X4_copyRow a b S = some (setr S b (fun i => if i < 275 then S a i else S b i)) := by
  have e := lm_cp ha hb hab S 275 0 FU rfl (by decide)
  have e2 : setr S b (fun i => if i < 0 then S a i else S b i) = S := by
    funext x y
    unfold setr
    split
    · rename_i z
      rw [z]
      rfl
    · rfl
  rw [e2] at e
  unfold X4_copyRow
  exact e
/-- what lies aside is A -/
def AsE (mm : St) (A : AS) : Prop := ∀ i, i < 275 → mm 3 i = nI (enc A i)
def cpm (mm : St) (A : AS) : St := setr mm 3 (fun i => if i < 275 then nI (enc A i) else mm 3 i)
theorem cpm_as (mm : St) (A : AS) : AsE (cpm mm A) A := by
  intro i hi
  unfold cpm
  rw [setr_same]
  simp only [hi, if_true]
theorem X4_aside_n (mm : St) (T : TS) : X4_copyRow 1 3 (mst mm T) = some (mst (cpm mm T.1) T) := by
  rw [X4_copyRow_n (Or.inl rfl) (Or.inr (Or.inr rfl)) (by decide)]
  refine congrArg some ?_
  funext k j
  unfold cpm setr mst
  by_cases e : k = 3
  · subst e
    simp only [if_true, ↓reduceIte, Nat.reduceEqDiff, Nat.zero_ne_one, Nat.one_ne_zero]
  · simp only [e, if_false, ↓reduceIte, Nat.reduceEqDiff, Nat.zero_ne_one, Nat.one_ne_zero]
theorem enc_out (A : AS) {i : Nat} (h : ¬ i < 275) : enc A i = 0 := by
  unfold enc
  rw [if_neg (by omega), if_neg (by omega), if_neg (by omega), if_neg (by omega), if_neg (by omega), if_neg (by omega), if_neg (by omega), if_neg (by omega), if_neg (by omega), if_neg (by omega)]
theorem X4_putBack_n {mm : St} {A : AS} (h : AsE mm A) (T : TS) (v : Int32) : X4_putBack v (mst mm T) = some (v, mst mm (A, T.2)) := by
  unfold X4_putBack
  rw [X4_copyRow_n (Or.inr (Or.inr rfl)) (Or.inl rfl) (by decide), bd_some]
  refine congrArg some (congrArg (Prod.mk v) ?_)
  funext k j
  unfold setr mst
  by_cases e : k = 1
  · subst e
    simp only [if_true, ↓reduceIte, Nat.reduceEqDiff, Nat.zero_ne_one, Nat.one_ne_zero]
    by_cases e2 : j < 275
    · rw [if_pos e2]
      exact h j e2
    · rw [if_neg e2, enc_out _ e2, enc_out _ e2]
  · simp only [e, if_false, ↓reduceIte, Nat.reduceEqDiff, Nat.zero_ne_one, Nat.one_ne_zero, show ¬ (0 : Nat) = 3 from by decide]
