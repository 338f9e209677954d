/-! PURE 10: the reference's beat, in the words of the spec -/
theorem X4_cellOf_n (c r : Nat) : X4_cellOf (nI c) (nI r) = nI (c * 6 + r) := by
  unfold X4_cellOf
  rw [lit, pk_mul, nI_add, Nat.mul_comm]
theorem lm_run {mm : St} {T : TS} (hh : ∀ q, q < 42 → T.1 3 q ≤ 4) {c : Nat} (hc : c < 7) : ∀ (d r n : Nat), r + d = 6 → d < n → X4_runOf_L2 n (nI c) (nI r) (mst mm T) = some (nI (rnA T.1 c d r)) := by
  intro d
  induction d with
  | zero =>
    intro r n hr hn
    obtain ⟨m, rfl⟩ : ∃ m, n = m + 1 := ⟨n - 1, by omega⟩
    rw [X4_runOf_L2]
    simp (disch := omega) only [lit, le_n]
    rw [if_pos (by omega)]
    rfl
  | succ d ih =>
    intro r n hr hn
    obtain ⟨m, rfl⟩ : ∃ m, n = m + 1 := ⟨n - 1, by omega⟩
    have hb := hh (c * 6 + r) (by omega)
    rw [X4_runOf_L2, X4_cellOf_n, X4_highOf_n (by omega)]
    simp (disch := omega) only [bd_some, lit, le_n, nI_add]
    rw [if_neg (by omega)]
    unfold rnA
    by_cases e : T.1 3 (c * 6 + r) = 0
    · rw [if_pos (by omega), if_pos e]
    · rw [if_neg (by omega), if_neg e]
      exact ih (r + 1) m (by omega) (by omega)
theorem X4_runOf_n {mm : St} {T : TS} (hh : ∀ q, q < 42 → T.1 3 q ≤ 4) {c : Nat} (hc : c < 7) : X4_runOf (nI c) (mst mm T) = some (nI (rnA T.1 c 6 0)) := by
  unfold X4_runOf
  exact lm_run hh hc 6 0 FU rfl (by decide)
theorem lm_ws {mm : St} {T : TS} (h : IA T.1) {q : Nat} (hq : q < 42) (c r : Nat) (k4 : Int32 → Int32 → Int32 → St → Option Int32) : ∀ (d k w n : Nat), k + d = T.1 3 q → d < n → X4_weightOf_L23 k4 n (nI c) (nI w) (nI r) (nI q) (nI k) (mst mm T) = k4 (nI c) (nI (wsA T.1 q d k w)) (nI (r + 1)) (mst mm T) := by
  have hb := ia_h h hq
  have h0 := ia_n h
  intro d
  induction d with
  | zero =>
    intro k w n hk hn
    obtain ⟨m, rfl⟩ : ∃ m, n = m + 1 := ⟨n - 1, by omega⟩
    rw [X4_weightOf_L23, X4_highOf_n hq]
    simp (disch := omega) only [bd_some, lit, le_n, nI_add]
    rw [if_pos (by omega)]
    rfl
  | succ d ih =>
    intro k w n hk hn
    obtain ⟨m, rfl⟩ : ∃ m, n = m + 1 := ⟨n - 1, by omega⟩
    have h1 := (ia_s h hq (show k < T.1 3 q by omega)).1
    have h2 := ia_k h h1
    rw [X4_weightOf_L23, X4_highOf_n hq]
    simp (disch := omega) only [bd_some, lit, le_n, nI_add]
    rw [if_neg (by omega), X4_coinAt_n hq (by omega)]
    simp only [bd_some]
    rw [X4_weighs_n (by omega) h2]
    simp only [bd_some, nI_add]
    exact ih (k + 1) _ m (by omega) (by omega)
theorem lm_wc {mm : St} {T : TS} (h : IA T.1) {c : Nat} (hc : c < 7) : ∀ (d r w n : Nat), r + d = 6 → d < n → rnA T.1 c 6 0 = rnA T.1 c d r → X4_weightOf_L4 n (nI c) (nI w) (nI r) (mst mm T) = some (nI (wcA T.1 c d r w)) := by
  have hrl := rnA_le T.1 c 6 0
  intro d
  induction d with
  | zero =>
    intro r w n hr hn he
    obtain ⟨m, rfl⟩ : ∃ m, n = m + 1 := ⟨n - 1, by omega⟩
    have he2 : rnA T.1 c 0 r = r := rfl
    rw [X4_weightOf_L4, X4_runOf_n h.2.1.1 hc]
    simp (disch := omega) only [bd_some, le_n]
    rw [if_pos (by omega)]
    rfl
  | succ d ih =>
    intro r w n hr hn he
    obtain ⟨m, rfl⟩ : ∃ m, n = m + 1 := ⟨n - 1, by omega⟩
    have hq : c * 6 + r < 42 := by omega
    have hb := ia_h h hq
    have hx : rnA T.1 c (d + 1) r = if T.1 3 (c * 6 + r) = 0 then r else rnA T.1 c d (r + 1) := rfl
    rw [X4_weightOf_L4, X4_runOf_n h.2.1.1 hc]
    simp (disch := omega) only [bd_some, le_n]
    unfold wcA
    by_cases e : T.1 3 (c * 6 + r) = 0
    · rw [hx, if_pos e] at he
      rw [if_pos (by omega), if_pos e]
    · rw [hx, if_neg e] at he
      have hlow : ∀ d r, r ≤ rnA T.1 c d r := by
        intro d
        induction d with
        | zero => intro r; exact Nat.le_refl _
        | succ d ih =>
          intro r
          unfold rnA
          split
          · exact Nat.le_refl _
          · have := ih (r + 1)
            omega
      have := hlow d (r + 1)
      rw [if_neg (by omega), if_neg e, X4_cellOf_n]
      have e2 := lm_ws (mm := mm) h hq c r (X4_weightOf_L4 m) (T.1 3 (c * 6 + r)) 0 w FU (by omega) (by unfold FU; omega)
      rw [show nI 0 = (0 : Int32) from rfl] at e2
      rw [e2]
      exact ih (r + 1) _ m (by omega) (by omega) he
theorem X4_weightOf_n {mm : St} {T : TS} (h : IA T.1) {c : Nat} (hc : c < 7) : X4_weightOf (nI c) (mst mm T) = some (nI (wcA T.1 c 6 0 0)) := by
  unfold X4_weightOf
  exact lm_wc h hc 6 0 0 FU rfl (by decide) rfl
theorem X4_isMoved_n {mm : St} {T : TS} (h : IA T.1) {c : Nat} (hc : c < 7) : X4_isMoved (nI c) (mst mm T) = some (nI (if pmA T.1 c then 1 else 0)) := by
  have h1 := (wcA_le h.2.1.1 hc 6 0 0 rfl).2
  have h2 := (ia_set h).1
  have h3 := wcA_pos h.2.1.1 hc
  have h4 := rnA_le T.1 c 6 0
  have h5 : 0 < rnA T.1 c 6 0 ↔ 0 < wcA T.1 c 6 0 0 := by
    constructor
    · intro z
      refine h3.mpr (fun e => ?_)
      have : rnA T.1 c 6 0 = 0 := by
        show (if T.1 3 (c * 6 + 0) = 0 then 0 else _) = 0
        rw [if_pos e]
      omega
    · intro z
      have e := h3.mp z
      have hlow : ∀ d r, r ≤ rnA T.1 c d r := by
        intro d
        induction d with
        | zero => intro r; exact Nat.le_refl _
        | succ d ih =>
          intro r
          unfold rnA
          split
          · exact Nat.le_refl _
          · have := ih (r + 1)
            omega
      show 0 < (if T.1 3 (c * 6 + 0) = 0 then 0 else rnA T.1 c 5 (0 + 1))
      rw [if_neg e]
      exact hlow 5 (0 + 1)
  unfold X4_isMoved
  rw [X4_runOf_n h.2.1.1 hc, X4_weightOf_n h hc]
  simp only [lit]
  rw [md (by decide), enc_1]
  simp (disch := omega) only [bd_some, le_n, lt_n]
  unfold pmA
  by_cases e : 0 < wcA T.1 c 6 0 0
  · rw [if_neg (by omega)]
    by_cases e2 : wcA T.1 c 6 0 0 ≤ T.1 5 0
    · rw [if_neg (by omega)]
      simp only [e, e2, decide_true, Bool.and_self, if_true]
    · rw [if_pos (by omega)]
      simp only [e, e2, decide_true, decide_false, Bool.and_false, if_false, Bool.false_eq_true]
  · rw [if_pos (by omega)]
    simp only [e, decide_false, Bool.false_and, if_false, Bool.false_eq_true]
theorem mvF_u {c row : Nat} (hr : row < 6) : ∀ (d k : Nat) (B : AS), (row ≠ 5 → True) → mvF c row d k (u2 B 3 (c * 6 + row) 0) = u2 (mvF c row d k B) 3 (c * 6 + row) 0 := by
  intro d
  induction d with
  | zero => intro k B _; rfl
  | succ d ih =>
    intro k B hz
    unfold mvF
    rw [u2_row B _ _ (show (4 : Nat) ≠ 3 by decide)]
    by_cases e5 : row = 5
    · rw [if_pos e5, if_pos e5, ← ih (k + 1) _ hz]
      congr 1
      unfold goA
      rw [u2_row B _ _ (show (5 : Nat) ≠ 3 by decide), u2_comm _ _ _ _ _ (show (3 : Nat) ≠ 2 by decide)]
    · rw [if_neg e5, if_neg e5, ← ih (k + 1) _ hz]
      congr 1
      funext a b
      unfold putA
      rw [u2_ne B 0 (show ¬ ((3 : Nat) = 3 ∧ c * 6 + row + 1 = c * 6 + row) by omega)]
      unfold u2
      by_cases a2 : a = 2
      · subst a2
        simp only [↓reduceIte, Nat.reduceEqDiff, Nat.zero_ne_one, Nat.one_ne_zero]
      · by_cases a3 : a = 3
        · subst a3
          simp only [↓reduceIte, Nat.reduceEqDiff, Nat.zero_ne_one, Nat.one_ne_zero]
          by_cases b1 : b = c * 6 + row + 1
          · subst b1
            simp only [if_true]
            rw [if_neg (by omega)]
          · simp only [b1, if_false]
        · simp only [a2, a3, if_false]
theorem lm_mv {mm : St} {c row hgt : Nat} (hc : c < 7) (hr : row < 6) (hg : hgt ≤ 4) : ∀ (d k n : Nat) (T : TS), k + d = hgt → d < n → (row ≠ 5 → T.1 3 (c * 6 + row + 1) = k) → (∀ i, i < hgt → T.1 4 ((c * 6 + row) * 4 + i) < 24) → T.1 5 2 ≤ 3 →
    X4_goesOn_L26 n (nI c) (nI row) (nI (c * 6 + row)) (nI hgt) (nI k) (mst mm T) = some (mst mm (mvF c row d k T.1, T.2.1 + (if row = 5 then d else 0), T.2.2 + hgt)) := by
  intro d
  induction d with
  | zero =>
    intro k n T hk hn h3 h4 h5
    obtain ⟨m, rfl⟩ : ∃ m, n = m + 1 := ⟨n - 1, by omega⟩
    rw [X4_goesOn_L26, if_pos (nI_le (by omega) (by omega))]
    simp only [bd_some, mst_v, nI_add, mst_fv]
    have e : (if row = 5 then 0 else 0) = 0 := by split <;> rfl
    rw [e]
    rfl
  | succ d ih =>
    intro k n T hk hn h3 h4 h5
    obtain ⟨m, rfl⟩ : ∃ m, n = m + 1 := ⟨n - 1, by omega⟩
    have hv := h4 k (by omega)
    rw [X4_goesOn_L26, if_neg (by rw [le_n (by omega) (by omega)]; omega), X4_coinAt_n (by omega) (by omega)]
    simp (disch := omega) only [bd_some, lit, eq_n, nI_add]
    unfold mvF
    by_cases e5 : row = 5
    · rw [if_pos e5, if_pos e5, X4_goesOver_n hv hc h5]
      simp only [bd_some]
      rw [ih (k + 1) m _ (by omega) (by omega) (fun z => absurd e5 z) (fun i hi => by dsimp only; rw [goA_r _ _ _ (by decide)]; exact h4 i hi) (by dsimp only; rw [goA_r _ _ _ (by decide)]; exact h5)]
      simp only [e5, if_true]
      rw [show T.2.1 + 1 + d = T.2.1 + (d + 1) from by omega]
    · rw [if_neg e5, if_neg e5, X4_comesOn_n hv (by omega) (by rw [h3 e5]; omega)]
      simp only [bd_some]
      rw [ih (k + 1) m _ (by omega) (by omega) (fun _ => by dsimp only; rw [putA_3, if_pos rfl, h3 e5]) (fun i hi => by dsimp only; rw [putA_4, if_neg (by omega)]; exact h4 i hi) (by dsimp only; rw [putA_r _ _ _ (by decide) (by decide) (by decide)]; exact h5)]
      simp only [e5, if_false]
theorem X4_goesOn_n {mm : St} {T : TS} (h : IA T.1) {c row : Nat} (hc : c < 7) (hr : row < 6) (hz : row ≠ 5 → T.1 3 (c * 6 + row + 1) = 0) : X4_goesOn (nI c) (nI row) (mst mm T) = some (mst mm (gnT T c row)) := by
  have hq : c * 6 + row < 42 := by omega
  have hb := ia_h h hq
  have h0 := ia_n h
  unfold X4_goesOn
  rw [X4_cellOf_n, X4_highOf_n hq]
  simp only [bd_some, lit, nI_add]
  rw [mw (B := u2 T.1 3 (c * 6 + row) 0) (by omega) (encu_h hq)]
  simp only [bd_some]
  rw [lm_mv hc hr hb (T.1 3 (c * 6 + row)) 0 FU _ (by omega) (by unfold FU; omega) (fun e => by dsimp only; rw [u2_ne _ _ (by omega)]; exact hz e) (fun i hi => by dsimp only; rw [u2_row _ _ _ (by decide)]; have := (ia_s h hq hi).1; omega) (by dsimp only; rw [u2_row _ _ _ (by decide)]; exact (ia_set h).2.2.2)]
  unfold gnT mvA
  dsimp only
  rw [mvF_u hr _ _ _ (fun _ => trivial)]
theorem pull_go (A : AS) (q col : Nat) : goA (u2 A 3 q (A 3 q - 1)) (topA A q) col = goA (pullA A q) (topA A q) col := by
  unfold goA pullA topA
  rw [u2_row (u2 A 3 q (A 3 q - 1)) _ _ (show (5 : Nat) ≠ 2 by decide)]
  funext a b
  unfold u2
  by_cases a2 : a = 2
  · subst a2
    simp only [if_true]
    split
    · rfl
    · simp only [↓reduceIte, Nat.reduceEqDiff, Nat.zero_ne_one, Nat.one_ne_zero]
  · simp only [a2, if_false]
theorem pull_put (A : AS) (q q2 : Nat) : putA (u2 A 3 q (A 3 q - 1)) (topA A q) q2 = putA (pullA A q) (topA A q) q2 := by
  unfold putA pullA topA
  rw [u2_row (u2 A 3 q (A 3 q - 1)) _ _ (show (3 : Nat) ≠ 2 by decide)]
  funext a b
  unfold u2
  by_cases a2 : a = 2
  · subst a2
    simp only [↓reduceIte, Nat.reduceEqDiff, Nat.zero_ne_one, Nat.one_ne_zero]
    split
    · rfl
    · rfl
  · simp only [a2, if_false]
theorem X4_slidesOff_n {mm : St} {T : TS} (h : IA T.1) {c row : Nat} (hc : c < 7) (hr : row < 6) (hh : 0 < T.1 3 (c * 6 + row)) (hx : (c * 6 + row) % 6 ≠ 5 → T.1 3 (c * 6 + row + 1) < 4) : X4_slidesOff (nI c) (nI row) (mst mm T) = some (mst mm (slT T (c * 6 + row))) := by
  have hq : c * 6 + row < 42 := by omega
  have hb := ia_h h hq
  have h0 := ia_n h
  have h2 := (ia_top h hq hh).1
  unfold X4_slidesOff
  rw [X4_cellOf_n, X4_taken_n hq hh hb]
  simp (disch := omega) only [bd_some, lit, eq_n, nI_add]
  unfold slT slideA
  by_cases e5 : row = 5
  · have e6 : (c * 6 + row) % 6 = 5 := by omega
    rw [if_pos e5, if_pos e6, if_pos e6, X4_goesOver_n (by omega) hc (by dsimp only; rw [u2_row _ _ _ (by decide)]; exact (ia_set h).2.2.2)]
    simp only [bd_some, mst_v, nI_add, mst_fv]
    rw [pull_go, show (c * 6 + row) / 6 = c from by omega]
  · have e6 : ¬ (c * 6 + row) % 6 = 5 := by omega
    rw [if_neg e5, if_neg e6, if_neg e6, X4_cellOf_n, show c * 6 + (row + 1) = c * 6 + row + 1 from by omega, X4_comesOn_n (by omega) (by omega) (by dsimp only; rw [u2_ne _ _ (by omega)]; exact hx e6)]
    simp only [bd_some, mst_v, nI_add, mst_fv]
    rw [pull_put]
    rfl
theorem X4_isLeaning_n {mm : St} {T : TS} (h : IA T.1) {c row : Nat} (hc : c < 7) (hr : row < 6) : X4_isLeaning (nI c) (nI row) (mst mm T) = some (nI (if leanA T.1 (c * 6 + row) then 1 else 0)) := by
  have hq : c * 6 + row < 42 := by omega
  have hb := ia_h h hq
  have h0 := ia_n h
  have key : ∀ t, t ≤ 4 → t = nxA T.1 (c * 6 + row) → X4_isLeaning_L22 (nI (c * 6 + row)) (nI t) (mst mm T) = some (nI (if leanA T.1 (c * 6 + row) then 1 else 0)) := by
    intro t ht e
    unfold X4_isLeaning_L22
    rw [X4_highOf_n hq]
    simp (disch := omega) only [bd_some, lit, lt_n, nI_add]
    unfold leanA
    by_cases h2 : T.1 3 (c * 6 + row) < t + 3
    · rw [if_pos h2, if_neg (by rw [← e]; simp; omega)]
    · have hh : 0 < T.1 3 (c * 6 + row) := by omega
      have ht2 := (ia_top h hq hh).1
      have hk := ia_k h ht2
      rw [if_neg h2, X4_topOf_n hq hh hb]
      simp only [bd_some]
      rw [X4_slides_n (by omega) hk]
      have h5 : nxA T.1 (c * 6 + row) + 3 ≤ T.1 3 (c * 6 + row) := by omega
      have hS : SLI (T.1 1 (topA T.1 (c * 6 + row))) = 0 ∨ SLI (T.1 1 (topA T.1 (c * 6 + row))) = 1 := by
        have k2 : ∀ k, k < 7 → SLI k = 0 ∨ SLI k = 1 := by decide
        exact k2 _ hk
      simp only [bd_some]
      rcases hS with hS | hS
      · rw [hS, if_pos rfl]
        simp
      · rw [hS, if_neg (by decide)]
        simp [h5]
  unfold X4_isLeaning
  rw [X4_cellOf_n]
  simp (disch := omega) only [lit, eq_n, nI_add]
  by_cases e5 : row = 5
  · rw [if_pos e5]
    exact key 0 (by decide) (by unfold nxA; rw [if_pos (by omega)])
  · rw [if_neg e5, X4_highOf_n (by omega)]
    simp only [bd_some]
    exact key _ (ia_h h (by omega)) (by unfold nxA; rw [if_neg (by omega)])
theorem lm_pr {mm : St} {c : Nat} (hc : c < 7) (k2 : Int32 → St → Option St) : ∀ (d n : Nat) (T : TS), d ≤ 6 → d < n → IA T.1 → colR T.1 c d → X4_beat_L40 k2 n (nI c) (nI d + (-1)) (mst mm T) = k2 (nI (c + 1)) (mst mm (prT c d T)) := by
  intro d
  induction d with
  | zero =>
    intro n T _ hn h hr
    obtain ⟨m, rfl⟩ : ∃ m, n = m + 1 := ⟨n - 1, by omega⟩
    rw [X4_beat_L40, if_pos (by decide), nI_succ]
    rfl
  | succ d ih =>
    intro n T hd hn h hr
    obtain ⟨m, rfl⟩ : ∃ m, n = m + 1 := ⟨n - 1, by omega⟩
    obtain ⟨h1, h2⟩ := colR_mv h hc (by omega) hr
    rw [X4_beat_L40]
    simp only [mn_n]
    rw [if_neg (nI_pos (by omega)), X4_goesOn_n h hc (by omega) h2]
    simp only [bd_some]
    exact ih m (gnT T c d) (by omega) (by omega) (IA_mv h hc (by omega) h2) h1
theorem lm_ps {mm : St} {T : TS} {c m : Nat} (hc : c < 7) (h : IA T.1) (hb : T.1 0 7 < 1000000) (he : T.1 0 7 % T.1 5 1 = 0) : X4_beat_L2 (m + 1) (nI c) (mst mm T) = X4_beat_L2 m (nI (c + 1)) (mst mm (if pmA T.1 c then prT c (rnA T.1 c 6 0) T else T)) := by
  have hs := ia_set h
  have hm : rmn (nI (T.1 0 7)) (nI (T.1 5 1)) = some 0 := by
    unfold rmn
    rw [if_neg (nI_ne0 (by omega) (by omega))]
    rw [show nI (T.1 0 7) - nI (T.1 0 7) / nI (T.1 5 1) * nI (T.1 5 1) = irm (nI (T.1 0 7)) (nI (T.1 5 1)) from rfl, irm_n (by omega) (by omega) (by omega), he]
    rfl
  have m0 : rd (mst mm T) 1 275 0 = some (nI (T.1 0 7)) := md (i := 0) (by decide)
  have m2 : rd (mst mm T) 1 275 2 = some (nI (T.1 5 1)) := md (i := 2) (by decide)
  rw [X4_beat_L2]
  generalize X4_beat_L64 FU 5 (mst mm T) = Z
  rw [if_neg (show ¬ (7 : Int32) ≤ nI c from nI_ge hc (by decide)), m0, bd_some, m2, bd_some, hm, bd_some, if_pos (show (0 : Int32) = 0 from rfl), X4_isMoved_n h hc, bd_some]
  cases e : pmA T.1 c
  · rw [if_neg (show ¬ (false = true) from by decide), if_pos (show nI 0 = 0 from rfl), if_neg (show ¬ (false = true) from by decide), nI_succ]
  · have h1 := rnA_le T.1 c 6 0
    rw [if_pos (show true = true from rfl), if_neg (show ¬ nI 1 = 0 from by decide), if_pos (show true = true from rfl), X4_runOf_n h.2.1.1 hc, bd_some]
    rw [show nI (rnA T.1 c 6 0) - 1 = nI (rnA T.1 c 6 0) + (-1) from Int32.sub_eq_add_neg .., lm_pr hc (X4_beat_L2 m) _ FU T (by omega) (by unfold FU; omega) h (colR0 T.1 c)]
theorem lm_pa {mm : St} : ∀ (d c n : Nat) (T : TS), c + d = 7 → d < n → IA T.1 → T.1 0 7 < 1000000 → T.1 0 7 % T.1 5 1 = 0 → ∀ R : Option St, X4_beat_L64 FU 5 (mst mm (paT d c T)) = R → X4_beat_L2 n (nI c) (mst mm T) = R := by
  intro d
  induction d with
  | zero =>
    intro c n T hc hn h hb he R hR
    obtain ⟨m, rfl⟩ : ∃ m, n = m + 1 := ⟨n - 1, by omega⟩
    have e0 : paT 0 c T = T := rfl
    rw [e0] at hR
    rw [X4_beat_L2, if_pos (by rw [lit, le_n (by decide) (by omega)]; omega)]
    exact hR
  | succ d ih =>
    intro c n T hc hn h hb he R hR
    obtain ⟨m, rfl⟩ : ∃ m, n = m + 1 := ⟨n - 1, by omega⟩
    have e1 : paT (d + 1) c T = paT d (c + 1) (if pmA T.1 c then prT c (rnA T.1 c 6 0) T else T) := rfl
    rw [e1] at hR
    rw [lm_ps (by omega) h hb he]
    refine ih (c + 1) m _ (by omega) (by omega) ?_ ?_ ?_ R hR
    · split
      · exact prT_IA (show c < 7 by omega) _ T (by have := rnA_le T.1 c 6 0; omega) h (colR0 T.1 c)
      · exact h
    · split
      · rw [prT_r (by decide) (by decide) (by decide)]
        exact hb
      · exact hb
    · split
      · rw [prT_r (k := 0) (by decide) (by decide) (by decide), prT_r (k := 5) (by decide) (by decide) (by decide)]
        exact he
      · exact he
theorem lm_sr {mm : St} {row : Nat} (hr : row < 6) (k64 : Int32 → St → Option St) : ∀ (d c n : Nat) (T : TS), c + d = 7 → d < n → IA T.1 → X4_beat_L70 k64 n (nI row) (nI c) (mst mm T) = k64 (nI row + (-1)) (mst mm (srT row d c T)) := by
  intro d
  induction d with
  | zero =>
    intro c n T hc hn h
    obtain ⟨m, rfl⟩ : ∃ m, n = m + 1 := ⟨n - 1, by omega⟩
    rw [X4_beat_L70, if_pos (by rw [lit, le_n (by decide) (by omega)]; omega)]
    rfl
  | succ d ih =>
    intro c n T hc hn h
    obtain ⟨m, rfl⟩ : ∃ m, n = m + 1 := ⟨n - 1, by omega⟩
    have hq : c * 6 + row < 42 := by omega
    rw [X4_beat_L70, if_neg (by rw [lit, le_n (by decide) (by omega)]; omega), X4_isLeaning_n h (by omega) hr]
    simp only [bd_some]
    unfold srT
    rw [show nI c + 1 = nI (c + 1) from (nI_succ c).symm]
    by_cases e : leanA T.1 (c * 6 + row) = true
    · obtain ⟨h1, h2⟩ := lean_pre h hq e
      simp only [e, if_true]
      rw [if_neg (by decide), X4_slidesOff_n h (by omega) hr h1 h2]
      simp only [bd_some]
      exact ih (c + 1) m _ (by omega) (by omega) (IA_slide h hq h1 h2)
    · simp only [e, if_false, Bool.false_eq_true]
      rw [if_pos (by decide)]
      exact ih (c + 1) m T (by omega) (by omega) h
theorem lm_sa {mm : St} : ∀ (d n : Nat) (T : TS), d ≤ 6 → d < n → IA T.1 → X4_beat_L64 n (nI d + (-1)) (mst mm T) = some (mst mm (u2 (saT d T).1 0 7 ((saT d T).1 0 7 + 1), (saT d T).2)) := by
  intro d
  induction d with
  | zero =>
    intro n T _ hn h
    obtain ⟨m, rfl⟩ : ∃ m, n = m + 1 := ⟨n - 1, by omega⟩
    rw [X4_beat_L64, if_pos (by decide), show (0 : Int32) = nI 0 from rfl, md (by decide), enc_0]
    simp only [bd_some]
    rw [show nI (T.1 0 7) + 1 = nI (T.1 0 7 + 1) from (nI_succ _).symm, mw (B := u2 T.1 0 7 (T.1 0 7 + 1)) (by decide) (fun j => by rw [encu_0 (by decide) (by decide)]; rfl)]
    rfl
  | succ d ih =>
    intro n T hd hn h
    obtain ⟨m, rfl⟩ : ∃ m, n = m + 1 := ⟨n - 1, by omega⟩
    have h1 := srT_IA (show d < 6 by omega) 7 0 T rfl h
    rw [X4_beat_L64]
    simp only [mn_n]
    have e := lm_sr (mm := mm) (show d < 6 by omega) (X4_beat_L64 m) 7 0 FU T rfl (by decide) h
    rw [show nI 0 = (0 : Int32) from rfl] at e
    rw [if_neg (nI_pos (by omega)), e]
    exact ih m _ (by omega) (by omega) h1.1
theorem lm_fin {mm : St} {U : TS} (hU : IA U.1) : X4_beat_L64 FU 5 (mst mm U) = some (mst mm (u2 (saT 6 U).1 0 7 ((saT 6 U).1 0 7 + 1), (saT 6 U).2.1, (saT 6 U).2.2)) := by
  have e := lm_sa (mm := mm) 6 FU U (by decide) (by decide) hU
  rw [show nI 6 + (-1) = (5 : Int32) from by decide] at e
  rw [e]
theorem X4_beat_n {mm : St} {T : TS} (h : IA T.1) (hb : T.1 0 7 < 1000000) : X4_beat (mst mm T) = some (mst mm (btT T)) := by
  have hs := ia_set h
  rw [btT_eq]
  unfold X4_beat
  by_cases e : T.1 0 7 % T.1 5 1 = 0
  · have hU : btU T = saT 6 (paT 7 0 T) := by
      unfold btU
      rw [if_pos e]
    rw [hU]
    exact lm_pa (mm := mm) 7 0 FU T rfl (by decide) h hb e _ (lm_fin (paT_IA 7 0 T rfl h).1)
  · have hU : btU T = saT 6 T := by
      unfold btU
      rw [if_neg e]
    have hm : rmn (nI (T.1 0 7)) (nI (T.1 5 1)) = some (nI (T.1 0 7 % T.1 5 1)) := by
      unfold rmn
      rw [if_neg (nI_ne0 (by omega) (by omega))]
      exact congrArg some (irm_n (by omega) (by omega) (by omega))
    have hlt := Nat.mod_lt (T.1 0 7) (show T.1 5 1 > 0 by omega)
    have m0 : rd (mst mm T) 1 275 0 = some (nI (T.1 0 7)) := md (i := 0) (by decide)
    have m2 : rd (mst mm T) 1 275 2 = some (nI (T.1 5 1)) := md (i := 2) (by decide)
    rw [hU, ← lm_fin h, show X4_beat_L2 FU 0 (mst mm T) = X4_beat_L2 (999 + 1) 0 (mst mm T) from rfl, X4_beat_L2, if_neg (by decide), m0]
    simp only [bd_some]
    rw [m2]
    simp only [bd_some]
    rw [hm]
    simp only [bd_some]
    rw [if_neg (nI_ne0 (by omega) (by omega))]
