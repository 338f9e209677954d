/-! PURE 6: the class's beat, in the words of the spec -/
theorem lp_run {A : AS} {c : Nat} (hh : ∀ q, q < 42 → A 3 q ≤ 4) (hc : c < 7) : ∀ (d r n : Nat), r + d = 6 → d < n → X1_runRows_L2 n (nI c) (nI r) (rp A) = some (nI (rnA A c d r)) := by
  intro d
  induction d with
  | zero =>
    intro r n hr hn
    obtain ⟨m, rfl⟩ : ∃ m, n = m + 1 := ⟨n - 1, by omega⟩
    rw [X1_runRows_L2]
    simp (disch := omega) only [rd_n, wr_n, bd_some, lit, nI_add, pk_mul, rp_at, le_n, lt_n, eq_n, sub_n, div_n, irm_n, mn_n, ↓reduceIte, Nat.reduceEqDiff, Nat.zero_ne_one, Nat.one_ne_zero]
    rw [if_pos (by omega)]
    rfl
  | succ d ih =>
    intro r n hr hn
    obtain ⟨m, rfl⟩ : ∃ m, n = m + 1 := ⟨n - 1, by omega⟩
    have hb := hh (c * 6 + r) (by omega)
    rw [X1_runRows_L2]
    simp (disch := omega) only [rd_n, wr_n, bd_some, lit, nI_add, pk_mul, rp_at, le_n, lt_n, eq_n, sub_n, div_n, irm_n, mn_n, ↓reduceIte, Nat.reduceEqDiff, Nat.zero_ne_one, Nat.one_ne_zero]
    rw [if_neg (by omega)]
    unfold rnA
    by_cases e : A 3 (c * 6 + r) = 0
    · rw [if_pos (by omega), if_pos e]
    · rw [if_neg (by omega), if_neg e]
      exact ih (r + 1) m (by omega) (by omega)
theorem X1_runRows_n {A : AS} {c : Nat} (hh : ∀ q, q < 42 → A 3 q ≤ 4) (hc : c < 7) : X1_runRows (nI c) (rp A) = some (nI (rnA A c 6 0)) := by
  unfold X1_runRows
  exact lp_run hh hc 6 0 FU rfl (by decide)
theorem rnA_le (A : AS) (c : Nat) : ∀ d r, rnA A c d r ≤ r + d := by
  intro d
  induction d with
  | zero => intro r; exact Nat.le_refl _
  | succ d ih =>
    intro r
    unfold rnA
    split
    · omega
    · have := ih (r + 1)
      omega
theorem wsA_le (A : AS) (q : Nat) : ∀ d k w, w + d ≤ wsA A q d k w ∧ wsA A q d k w ≤ w + 5 * d := by
  intro d
  induction d with
  | zero => intro k w; exact ⟨Nat.le_refl _, Nat.le_refl _⟩
  | succ d ih =>
    intro k w
    have h := ih (k + 1) (w + WEI (A 1 (A 4 (q * 4 + k))))
    have h2 := WEI_pos (A 1 (A 4 (q * 4 + k)))
    unfold wsA
    omega
theorem wcA_le {A : AS} (hh : ∀ q, q < 42 → A 3 q ≤ 4) {c : Nat} (hc : c < 7) : ∀ d r w, r + d = 6 → w ≤ wcA A c d r w ∧ wcA A c d r w ≤ w + 20 * d := by
  intro d
  induction d with
  | zero => intro r w _; exact ⟨Nat.le_refl _, Nat.le_refl _⟩
  | succ d ih =>
    intro r w hr
    have hb := hh (c * 6 + r) (by omega)
    have h := ih (r + 1) (wsA A (c * 6 + r) (A 3 (c * 6 + r)) 0 w) (by omega)
    have h2 := wsA_le A (c * 6 + r) (A 3 (c * 6 + r)) 0 w
    unfold wcA
    split <;> omega
theorem wcA_pos {A : AS} (hh : ∀ q, q < 42 → A 3 q ≤ 4) {c : Nat} (hc : c < 7) : 0 < wcA A c 6 0 0 ↔ ¬ A 3 (c * 6 + 0) = 0 := by
  have h := wcA_le hh hc 5 (0 + 1) (wsA A (c * 6 + 0) (A 3 (c * 6 + 0)) 0 0) rfl
  have h2 := wsA_le A (c * 6 + 0) (A 3 (c * 6 + 0)) 0 0
  unfold wcA
  by_cases e : A 3 (c * 6 + 0) = 0
  · rw [if_pos e]
    omega
  · rw [if_neg e]
    exact ⟨fun _ => e, fun _ => Nat.lt_of_lt_of_le (show 0 < wsA A (c * 6 + 0) (A 3 (c * 6 + 0)) 0 0 by omega) h.1⟩
theorem lp_ws {A : AS} (h : IA A) {q : Nat} (hq : q < 42) (c r : Nat) (k4 : Int32 → Int32 → Int32 → St → Option Int32) : ∀ (d k w n : Nat), k + d = A 3 q → d < n → X1_runWeight_L34 k4 n (nI c) (nI w) (nI r) (nI q) (nI k) (rp A) = k4 (nI c) (nI (wsA A q d k w)) (nI (r + 1)) (rp A) := by
  intro d
  induction d with
  | zero =>
    intro k w n hk hn
    obtain ⟨m, rfl⟩ : ∃ m, n = m + 1 := ⟨n - 1, by omega⟩
    have hb := ia_h h hq
    rw [X1_runWeight_L34]
    simp (disch := omega) only [rd_n, wr_n, bd_some, lit, nI_add, pk_mul, rp_at, le_n, lt_n, eq_n, sub_n, div_n, irm_n, mn_n, ↓reduceIte, Nat.reduceEqDiff, Nat.zero_ne_one, Nat.one_ne_zero]
    rw [if_pos (by omega)]
    rfl
  | succ d ih =>
    intro k w n hk hn
    obtain ⟨m, rfl⟩ : ∃ m, n = m + 1 := ⟨n - 1, by omega⟩
    have hb := ia_h h hq
    have h0 := ia_n h
    have h1 := (ia_s h hq (show k < A 3 q by omega)).1
    have h2 := ia_k h h1
    rw [X1_runWeight_L34]
    simp (disch := omega) only [rd_n, wr_n, bd_some, lit, nI_add, pk_mul, rp_at, le_n, lt_n, eq_n, sub_n, div_n, irm_n, mn_n, ↓reduceIte, Nat.reduceEqDiff, Nat.zero_ne_one, Nat.one_ne_zero, rdc_n, stC2]
    rw [if_neg (by omega)]
    exact ih (k + 1) _ m (by omega) (by omega)
theorem lp_wc {A : AS} (h : IA A) {c : Nat} (hc : c < 7) : ∀ (d r w n : Nat), r + d = 6 → d < n → X1_runWeight_L4 n (nI c) (nI w) (nI r) (rp A) = some (nI (wcA A c d r w)) := by
  intro d
  induction d with
  | zero =>
    intro r w n hr hn
    obtain ⟨m, rfl⟩ : ∃ m, n = m + 1 := ⟨n - 1, by omega⟩
    rw [X1_runWeight_L4]
    simp (disch := omega) only [rd_n, wr_n, bd_some, lit, nI_add, pk_mul, rp_at, le_n, lt_n, eq_n, sub_n, div_n, irm_n, mn_n, ↓reduceIte, Nat.reduceEqDiff, Nat.zero_ne_one, Nat.one_ne_zero]
    rw [if_pos (by omega)]
    rfl
  | succ d ih =>
    intro r w n hr hn
    obtain ⟨m, rfl⟩ : ∃ m, n = m + 1 := ⟨n - 1, by omega⟩
    have hq : c * 6 + r < 42 := by omega
    have hb := ia_h h hq
    rw [X1_runWeight_L4]
    simp (disch := omega) only [rd_n, wr_n, bd_some, lit, nI_add, pk_mul, rp_at, le_n, lt_n, eq_n, sub_n, div_n, irm_n, mn_n, ↓reduceIte, Nat.reduceEqDiff, Nat.zero_ne_one, Nat.one_ne_zero]
    rw [if_neg (by omega)]
    unfold wcA
    by_cases e : A 3 (c * 6 + r) = 0
    · rw [if_pos e, if_pos e]
    · rw [if_neg e, if_neg e]
      have e2 := lp_ws h hq c r (X1_runWeight_L4 m) (A 3 (c * 6 + r)) 0 w FU (by omega) (by unfold FU; omega)
      rw [show nI 0 = (0 : Int32) from rfl] at e2
      rw [show nI 0 = (0 : Int32) from rfl, e2]
      exact ih (r + 1) _ m (by omega) (by omega)
theorem X1_runWeight_n {A : AS} (h : IA A) {c : Nat} (hc : c < 7) : X1_runWeight (nI c) (rp A) = some (nI (wcA A c 6 0 0)) := by
  unfold X1_runWeight
  exact lp_wc h hc 6 0 0 FU rfl (by decide)
theorem X1_pushMoves_n {A : AS} (h : IA A) {c : Nat} (hc : c < 7) : X1_pushMoves (nI c) (rp A) = some (nI (if pmA A c then 1 else 0)) := by
  have h1 := (wcA_le h.2.1.1 hc 6 0 0 rfl).2
  have h2 := (ia_set h).1
  unfold X1_pushMoves
  rw [X1_runWeight_n h hc]
  simp (disch := omega) only [rd_n, wr_n, bd_some, lit, nI_add, pk_mul, rp_at, le_n, lt_n, eq_n, sub_n, div_n, irm_n, mn_n, ↓reduceIte, Nat.reduceEqDiff, Nat.zero_ne_one, Nat.one_ne_zero]
  unfold pmA
  by_cases e : 0 < wcA A c 6 0 0
  · rw [if_neg (by omega)]
    by_cases e2 : wcA A c 6 0 0 ≤ A 5 0
    · rw [if_neg (by omega)]
      simp only [e, e2, decide_true, Bool.and_self, if_true]
    · rw [if_pos (by omega)]
      simp only [e, e2, decide_true, decide_false, Bool.and_false, if_false, Bool.false_eq_true]
  · rw [if_pos (by omega)]
    simp only [e, decide_false, Bool.false_and, if_false, Bool.false_eq_true]
theorem lp_mv {c row : Nat} (hc : c < 7) (hr : row < 6) (k8 : Int32 → Int32 → St → Option St) {hgt : Nat} (hg : hgt ≤ 4) : ∀ (d k n : Nat) (B : AS), k + d = hgt → d < n → B 3 (c * 6 + row) = hgt → (row ≠ 5 → B 3 (c * 6 + row + 1) = k) → (∀ i, i < hgt → B 4 ((c * 6 + row) * 4 + i) < 24) → B 5 2 ≤ 3 →
    X1_pushRun_L22 k8 n (nI c) (nI row) (nI (c * 6 + row)) (nI k) (rp B) = k8 (nI c) (nI row + (-1)) (rp (u2 (mvF c row d k B) 3 (c * 6 + row) 0)) := by
  intro d
  induction d with
  | zero =>
    intro k n B hk hn h3 h3' h4 h5
    obtain ⟨m, rfl⟩ : ∃ m, n = m + 1 := ⟨n - 1, by omega⟩
    rw [X1_pushRun_L22]
    simp (disch := omega) only [rd_n, wr_n, bd_some, lit, nI_add, pk_mul, rp_at, le_n, lt_n, eq_n, sub_n, div_n, irm_n, mn_n, ↓reduceIte, Nat.reduceEqDiff, Nat.zero_ne_one, Nat.one_ne_zero]
    rw [if_pos (by omega)]
    rfl
  | succ d ih =>
    intro k n B hk hn h3 h3' h4 h5
    obtain ⟨m, rfl⟩ : ∃ m, n = m + 1 := ⟨n - 1, by omega⟩
    have hv := h4 k (by omega)
    rw [X1_pushRun_L22]
    simp (disch := omega) only [rd_n, wr_n, bd_some, lit, nI_add, pk_mul, rp_at, le_n, lt_n, eq_n, sub_n, div_n, irm_n, mn_n, ↓reduceIte, Nat.reduceEqDiff, Nat.zero_ne_one, Nat.one_ne_zero]
    rw [if_neg (by omega)]
    unfold mvF
    by_cases e5 : row = 5
    · rw [if_pos e5, if_pos e5, X1_goOver_n h5 hv hc]
      simp only [bd_some]
      exact ih (k + 1) m _ (by omega) (by omega) (by rw [goA_r _ _ _ (by decide)]; exact h3) (fun z => absurd e5 z) (fun i hi => by rw [goA_r _ _ _ (by decide)]; exact h4 i hi) (by rw [goA_r _ _ _ (by decide)]; exact h5)
    · rw [if_neg e5, if_neg e5, X1_put_n (by omega) (by rw [h3' e5]; omega) hv]
      simp only [bd_some]
      refine ih (k + 1) m _ (by omega) (by omega) ?_ (fun _ => ?_) (fun i hi => ?_) ?_
      · rw [putA_3, if_neg (by omega)]
        exact h3
      · rw [putA_3, if_pos rfl, h3' e5]
      · rw [putA_4, if_neg (by omega)]
        exact h4 i hi
      · rw [putA_r _ _ _ (by decide) (by decide) (by decide)]
        exact h5
/-- rows from d - 1 down to 0 are a run, and the row behind them is empty -/
def colR (A : AS) (c d : Nat) : Prop := (∀ r, r < d → 0 < A 3 (c * 6 + r)) ∧ (d < 6 → A 3 (c * 6 + d) = 0)
theorem rnA_col (A : AS) (c : Nat) : ∀ d r, r + d = 6 → (∀ i, i < r → 0 < A 3 (c * 6 + i)) → colR A c (rnA A c d r) := by
  intro d
  induction d with
  | zero =>
    intro r hr h
    exact ⟨h, fun z => absurd z (by show ¬ r < 6; omega)⟩
  | succ d ih =>
    intro r hr h
    unfold rnA
    split
    · rename_i e
      exact ⟨h, fun _ => e⟩
    · rename_i e
      refine ih (r + 1) (by omega) (fun i hi => ?_)
      by_cases e2 : i = r
      · subst e2
        omega
      · exact h i (by omega)
theorem colR_mv {A : AS} (h : IA A) {c d : Nat} (hc : c < 7) (hd : d < 6) (hr : colR A c (d + 1)) : colR (mvA A c d) c d ∧ (d ≠ 5 → A 3 (c * 6 + d + 1) = 0) := by
  have hz : d ≠ 5 → A 3 (c * 6 + d + 1) = 0 := fun e => hr.2 (by omega)
  obtain ⟨g1, g2, g3, g4⟩ := mvA_form h hc hd hz
  refine ⟨⟨fun r hr2 => ?_, fun _ => ?_⟩, hz⟩
  · rw [g2, if_neg (by omega), if_neg (by omega)]
    exact hr.1 r (by omega)
  · rw [g2, if_pos rfl]
theorem prT_IA {c : Nat} (hc : c < 7) : ∀ (d : Nat) (T : TS), d ≤ 6 → IA T.1 → colR T.1 c d → IA (prT c d T).1 := by
  intro d
  induction d with
  | zero => intro T _ h _; exact h
  | succ d ih =>
    intro T hd h hr
    obtain ⟨h1, h2⟩ := colR_mv h hc (by omega) hr
    exact ih (gnT T c d) (by omega) (IA_mv h hc (by omega) h2) h1
theorem lp_pr {c : Nat} (hc : c < 7) : ∀ (d n : Nat) (T : TS), d ≤ 6 → d < n → IA T.1 → colR T.1 c d → X1_pushRun_L8 n (nI c) (nI d + (-1)) (rp T.1) = some (rp (prT c d T).1) := by
  intro d
  induction d with
  | zero =>
    intro n T _ hn h hr
    obtain ⟨m, rfl⟩ : ∃ m, n = m + 1 := ⟨n - 1, by omega⟩
    rw [X1_pushRun_L8, if_pos (by decide)]
    rfl
  | succ d ih =>
    intro n T hd hn h hr
    obtain ⟨m, rfl⟩ : ∃ m, n = m + 1 := ⟨n - 1, by omega⟩
    obtain ⟨h1, h2⟩ := colR_mv h hc (by omega) hr
    have hb := ia_h h (show c * 6 + d < 42 by omega)
    have h0 := ia_n h
    rw [X1_pushRun_L8]
    simp only [mn_n]
    simp (disch := omega) only [rd_n, wr_n, bd_some, lit, nI_add, pk_mul, rp_at, le_n, lt_n, eq_n, sub_n, div_n, irm_n, mn_n, ↓reduceIte, Nat.reduceEqDiff, Nat.zero_ne_one, Nat.one_ne_zero]
    rw [if_neg (by omega)]
    have e2 := lp_mv hc (show d < 6 by omega) (X1_pushRun_L8 m) hb (T.1 3 (c * 6 + d)) 0 FU T.1 (by omega) (by unfold FU; omega) rfl h2 (fun i hi => by have := (ia_s h (show c * 6 + d < 42 by omega) hi).1; omega) (ia_set h).2.2.2
    rw [show nI 0 = (0 : Int32) from rfl] at e2
    rw [show nI 0 = (0 : Int32) from rfl, e2]
    exact ih m (gnT T c d) (by omega) (by omega) (IA_mv h hc (by omega) h2) h1
theorem X1_pushRun_n {c : Nat} (hc : c < 7) {T : TS} (h : IA T.1) : X1_pushRun (nI c) (rp T.1) = some (rp (prT c (rnA T.1 c 6 0) T).1) := by
  have h1 := rnA_le T.1 c 6 0
  unfold X1_pushRun
  rw [X1_runRows_n h.2.1.1 hc]
  simp only [bd_some]
  rw [show nI (rnA T.1 c 6 0) - 1 = nI (rnA T.1 c 6 0) + (-1) from Int32.sub_eq_add_neg ..]
  exact lp_pr hc _ FU T (by omega) (by unfold FU; omega) h (rnA_col T.1 c 6 0 rfl (fun i hi => absurd hi (by omega)))
/-! all columns, all slides, the beat -/
theorem prT_mono (c : Nat) : ∀ (d : Nat) (T : TS), T.2.1 ≤ (prT c d T).2.1 ∧ T.2.2 ≤ (prT c d T).2.2 := by
  intro d
  induction d with
  | zero => intro T; exact ⟨Nat.le_refl _, Nat.le_refl _⟩
  | succ d ih =>
    intro T
    have h := ih (gnT T c d)
    have h1 : (gnT T c d).2.1 = T.2.1 + (if d = 5 then T.1 3 (c * 6 + d) else 0) := rfl
    have h2 : (gnT T c d).2.2 = T.2.2 + T.1 3 (c * 6 + d) := rfl
    unfold prT
    omega
theorem pmA_run {A : AS} (hh : ∀ q, q < 42 → A 3 q ≤ 4) {c : Nat} (hc : c < 7) (h : pmA A c = true) : 0 < rnA A c 6 0 := by
  have h1 : 0 < wcA A c 6 0 0 := by
    unfold pmA at h
    simp at h
    exact h.1
  have h2 := (wcA_pos hh hc).mp h1
  unfold rnA
  rw [if_neg h2]
  have key : ∀ d r, r ≤ rnA A c d r := by
    intro d
    induction d with
    | zero => intro r; exact Nat.le_refl _
    | succ d ih =>
      intro r
      unfold rnA
      split
      · exact Nat.le_refl _
      · have := ih (r + 1)
        omega
  exact key 5 (0 + 1)
theorem prT_strict {c : Nat} (hc : c < 7) {T : TS} (hh : ∀ q, q < 42 → T.1 3 q ≤ 4) (h : pmA T.1 c = true) : T.2.2 < (prT c (rnA T.1 c 6 0) T).2.2 := by
  have h1 := pmA_run hh hc h
  have h2 := (rnA_col T.1 c 6 0 rfl (fun i hi => absurd hi (by omega))).1
  have h3 := rnA_le T.1 c 6 0
  obtain ⟨d, e⟩ : ∃ d, rnA T.1 c 6 0 = d + 1 := ⟨rnA T.1 c 6 0 - 1, by omega⟩
  rw [e] at h2 ⊢
  have h4 := h2 d (by omega)
  have h5 := (prT_mono c d (gnT T c d)).2
  have h6 : (gnT T c d).2.2 = T.2.2 + T.1 3 (c * 6 + d) := rfl
  unfold prT
  omega
theorem colR0 (A : AS) (c : Nat) : colR A c (rnA A c 6 0) := rnA_col A c 6 0 rfl (fun i hi => absurd hi (by omega))
theorem paT_IA : ∀ (d c : Nat) (T : TS), c + d = 7 → IA T.1 → IA (paT d c T).1 ∧ T.2.1 ≤ (paT d c T).2.1 ∧ T.2.2 ≤ (paT d c T).2.2 := by
  intro d
  induction d with
  | zero => intro c T _ h; exact ⟨h, Nat.le_refl _, Nat.le_refl _⟩
  | succ d ih =>
    intro c T hc h
    unfold paT
    by_cases e : pmA T.1 c = true
    · rw [if_pos e]
      have h1 := rnA_le T.1 c 6 0
      have h2 := prT_IA (show c < 7 by omega) _ T (by omega) h (colR0 T.1 c)
      have h3 := prT_mono c (rnA T.1 c 6 0) T
      have h4 := ih (c + 1) _ (by omega) h2
      exact ⟨h4.1, by omega, by omega⟩
    · rw [if_neg e]
      exact ih (c + 1) T (by omega) h
theorem lp_pa : ∀ (d c n fl : Nat) (T : TS), c + d = 7 → d < n → IA T.1 → fl < 2 →
    X1_pushAll_L4 n (nI fl) (nI c) (rp T.1) = some (nI (if fl = 1 ∨ T.2.2 < (paT d c T).2.2 then 1 else 0), rp (paT d c T).1) := by
  intro d
  induction d with
  | zero =>
    intro c n fl T hc hn h hf
    obtain ⟨m, rfl⟩ : ∃ m, n = m + 1 := ⟨n - 1, by omega⟩
    rw [X1_pushAll_L4]
    simp (disch := omega) only [rd_n, wr_n, bd_some, lit, nI_add, pk_mul, rp_at, le_n, lt_n, eq_n, sub_n, div_n, irm_n, mn_n, ↓reduceIte, Nat.reduceEqDiff, Nat.zero_ne_one, Nat.one_ne_zero]
    rw [if_pos (by omega)]
    unfold paT
    rcases (show fl = 0 ∨ fl = 1 by omega) with rfl | rfl
    · rw [if_neg (by omega)]
      rfl
    · rw [if_pos (by omega)]
      rfl
  | succ d ih =>
    intro c n fl T hc hn h hf
    obtain ⟨m, rfl⟩ : ∃ m, n = m + 1 := ⟨n - 1, by omega⟩
    rw [X1_pushAll_L4]
    rw [X1_pushMoves_n h (by omega)]
    simp (disch := omega) only [rd_n, wr_n, bd_some, lit, nI_add, pk_mul, rp_at, le_n, lt_n, eq_n, sub_n, div_n, irm_n, mn_n, ↓reduceIte, Nat.reduceEqDiff, Nat.zero_ne_one, Nat.one_ne_zero]
    rw [if_neg (by omega)]
    unfold paT
    by_cases e : pmA T.1 c = true
    · have h1 := rnA_le T.1 c 6 0
      have h2 := prT_IA (show c < 7 by omega) _ T (by omega) h (colR0 T.1 c)
      have h3 := prT_strict (show c < 7 by omega) h.2.1.1 e
      have h4 := (paT_IA d (c + 1) _ (by omega) h2).2.2
      simp only [e, if_true]
      rw [if_neg (show ¬ nI 1 = nI 0 from by decide)]
      rw [X1_pushRun_n (show c < 7 by omega) h]
      simp only [bd_some]
      rw [ih (c + 1) m 1 _ (by omega) (by omega) h2 (by decide), if_pos (Or.inl rfl), if_pos (Or.inr (by omega))]
    · simp only [e, ↓reduceIte, Nat.reduceEqDiff, Nat.zero_ne_one, Nat.one_ne_zero, if_false, Bool.false_eq_true]
      exact ih (c + 1) m fl T (by omega) (by omega) h hf
theorem X1_pushAll_n {T : TS} (h : IA T.1) : X1_pushAll (rp T.1) = some (nI (if T.2.2 < (paT 7 0 T).2.2 then 1 else 0), rp (paT 7 0 T).1) := by
  unfold X1_pushAll
  have e := lp_pa 7 0 FU 0 T rfl (by decide) h (by decide)
  rw [show nI 0 = (0 : Int32) from rfl] at e
  rw [e]
  simp only [Nat.zero_ne_one, false_or]
theorem lean_pre {A : AS} (h : IA A) {q : Nat} (hq : q < 42) (hl : leanA A q = true) : 0 < A 3 q ∧ (q % 6 ≠ 5 → A 3 (q + 1) < 4) := by
  have hb := ia_h h hq
  unfold leanA nxA at hl
  simp at hl
  split at hl
  · rename_i e
    exact ⟨by omega, fun z => absurd e z⟩
  · exact ⟨by omega, fun _ => by omega⟩
theorem srT_IA {row : Nat} (hr : row < 6) : ∀ (d c : Nat) (T : TS), c + d = 7 → IA T.1 → IA (srT row d c T).1 ∧ T.2.1 ≤ (srT row d c T).2.1 ∧ T.2.2 ≤ (srT row d c T).2.2 := by
  intro d
  induction d with
  | zero => intro c T _ h; exact ⟨h, Nat.le_refl _, Nat.le_refl _⟩
  | succ d ih =>
    intro c T hc h
    unfold srT
    by_cases e : leanA T.1 (c * 6 + row) = true
    · rw [if_pos e]
      obtain ⟨h1, h2⟩ := lean_pre h (show c * 6 + row < 42 by omega) e
      have h3 := ih (c + 1) (slT T (c * 6 + row)) (by omega) (IA_slide h (by omega) h1 h2)
      have h4 : (slT T (c * 6 + row)).2.1 = T.2.1 + (if (c * 6 + row) % 6 = 5 then 1 else 0) := rfl
      have h5 : (slT T (c * 6 + row)).2.2 = T.2.2 + 1 := rfl
      exact ⟨h3.1, by omega, by omega⟩
    · rw [if_neg e]
      exact ih (c + 1) T (by omega) h
theorem saT_IA : ∀ (d : Nat) (T : TS), d ≤ 6 → IA T.1 → IA (saT d T).1 ∧ T.2.1 ≤ (saT d T).2.1 ∧ T.2.2 ≤ (saT d T).2.2 := by
  intro d
  induction d with
  | zero => intro T _ h; exact ⟨h, Nat.le_refl _, Nat.le_refl _⟩
  | succ d ih =>
    intro T hd h
    unfold saT
    have h1 := srT_IA (show d < 6 by omega) 7 0 T rfl h
    have h2 := ih _ (by omega) h1.1
    exact ⟨h2.1, by omega, by omega⟩
theorem flag_tr {a b c fl : Nat} (h1 : a ≤ b) (h2 : b ≤ c) : (if (if fl = 1 ∨ a < b then 1 else 0) = 1 ∨ b < c then 1 else 0) = if fl = 1 ∨ a < c then 1 else 0 := by
  by_cases x : fl = 1 ∨ a < b
  · rw [if_pos x, if_pos (Or.inl rfl), if_pos (by omega)]
  · rw [if_neg x]
    by_cases y : b < c
    · rw [if_pos (Or.inr y), if_pos (by omega)]
    · rw [if_neg (by omega), if_neg (by omega)]
theorem lp_sr {row : Nat} (hr : row < 6) (k4 : Int32 → Int32 → St → Option (Int32 × St)) : ∀ (d c n fl : Nat) (T : TS) (rm : Int32), rm = nI row + (-1) → c + d = 7 → d < n → IA T.1 → fl < 2 →
    X1_slideAll_L10 k4 n (nI fl) (nI row) (nI (c * 6 + row)) (rp T.1) = k4 (nI (if fl = 1 ∨ T.2.2 < (srT row d c T).2.2 then 1 else 0)) rm (rp (srT row d c T).1) := by
  intro d
  induction d with
  | zero =>
    intro c n fl T rm hrm hc hn h hf
    obtain ⟨m, rfl⟩ : ∃ m, n = m + 1 := ⟨n - 1, by omega⟩
    rw [X1_slideAll_L10]
    rw [← hrm]
    simp (disch := omega) only [lit, le_n]
    rw [if_pos (by omega)]
    unfold srT
    rcases (show fl = 0 ∨ fl = 1 by omega) with rfl | rfl
    · rw [if_neg (by omega)]
    · rw [if_pos (by omega)]
  | succ d ih =>
    intro c n fl T rm hrm hc hn h hf
    obtain ⟨m, rfl⟩ : ∃ m, n = m + 1 := ⟨n - 1, by omega⟩
    have hq : c * 6 + row < 42 := by omega
    rw [X1_slideAll_L10, ← hrm, X1_leans_n h hq]
    simp (disch := omega) only [rd_n, wr_n, bd_some, lit, nI_add, pk_mul, rp_at, le_n, lt_n, eq_n, sub_n, div_n, irm_n, mn_n, ↓reduceIte, Nat.reduceEqDiff, Nat.zero_ne_one, Nat.one_ne_zero]
    rw [if_neg (by omega)]
    unfold srT
    by_cases e : leanA T.1 (c * 6 + row) = true
    · obtain ⟨h1, h2⟩ := lean_pre h hq e
      have h3 := IA_slide h hq h1 h2
      have h4 := (srT_IA hr d (c + 1) (slT T (c * 6 + row)) (by omega) h3).2.2
      have h5 : (slT T (c * 6 + row)).2.2 = T.2.2 + 1 := rfl
      simp only [e, if_true]
      rw [if_neg (show ¬ nI 1 = nI 0 from by decide)]
      rw [X1_slideTop_n h hq h1 h2]
      simp only [bd_some]
      have e2 := ih (c + 1) m 1 (slT T (c * 6 + row)) rm hrm (by omega) (by omega) h3 (by decide)
      rw [show (c + 1) * 6 + row = c * 6 + row + 6 from by omega, if_pos (Or.inl rfl)] at e2
      rw [show rp (slideA T.1 (c * 6 + row)) = rp (slT T (c * 6 + row)).1 from rfl, e2, if_pos (Or.inr (by omega))]
    · simp only [e, ↓reduceIte, Nat.reduceEqDiff, Nat.zero_ne_one, Nat.one_ne_zero, if_false, Bool.false_eq_true]
      have e2 := ih (c + 1) m fl T rm hrm (by omega) (by omega) h hf
      rw [show (c + 1) * 6 + row = c * 6 + row + 6 from by omega] at e2
      exact e2
theorem lp_sa : ∀ (d n fl : Nat) (T : TS), d ≤ 6 → d < n → IA T.1 → fl < 2 →
    X1_slideAll_L4 n (nI fl) (nI d + (-1)) (rp T.1) = some (nI (if fl = 1 ∨ T.2.2 < (saT d T).2.2 then 1 else 0), rp (saT d T).1) := by
  intro d
  induction d with
  | zero =>
    intro n fl T _ hn h hf
    obtain ⟨m, rfl⟩ : ∃ m, n = m + 1 := ⟨n - 1, by omega⟩
    rw [X1_slideAll_L4, if_pos (by decide)]
    unfold saT
    rcases (show fl = 0 ∨ fl = 1 by omega) with rfl | rfl
    · rw [if_neg (by omega)]
      rfl
    · rw [if_pos (by omega)]
      rfl
  | succ d ih =>
    intro n fl T hd hn h hf
    obtain ⟨m, rfl⟩ : ∃ m, n = m + 1 := ⟨n - 1, by omega⟩
    rw [X1_slideAll_L4]
    simp only [mn_n]
    rw [if_neg (nI_pos (by omega))]
    have e := lp_sr (show d < 6 by omega) (X1_slideAll_L4 m) 7 0 FU fl T _ rfl rfl (by decide) h hf
    rw [Nat.zero_mul, Nat.zero_add] at e
    have h1 := srT_IA (show d < 6 by omega) 7 0 T rfl h
    have h2 := saT_IA d _ (by omega) h1.1
    rw [e, ih m _ (srT d 7 0 T) (by omega) (by omega) h1.1 (by split <;> decide)]
    rw [flag_tr h1.2.2 h2.2.2]
    rfl
theorem X1_slideAll_n {T : TS} (h : IA T.1) : X1_slideAll (rp T.1) = some (nI (if T.2.2 < (saT 6 T).2.2 then 1 else 0), rp (saT 6 T).1) := by
  unfold X1_slideAll
  have e := lp_sa 6 FU 0 T (by decide) (by decide) h (by decide)
  rw [show nI 0 = (0 : Int32) from rfl, show nI 6 + (-1) = (5 : Int32) from by decide] at e
  rw [e]
  simp only [Nat.zero_ne_one, false_or]
