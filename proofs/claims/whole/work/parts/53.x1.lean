/-! PURE 3: the class's Shelf, method by method, in the words of the spec -/
theorem rp_at (A : AS) (k j : Nat) : rp A k j = nI (A k j) := rfl
theorem mn_n (a : Nat) : nI (a + 1) + (-1) = nI a := pk_m1 a
theorem ia_n {A : AS} (h : IA A) : A 0 6 ≤ 24 := h.1.1
theorem ia_k {A : AS} (h : IA A) {c : Nat} (hc : c < A 0 6) : A 1 c < 7 := h.1.2.1 c hc
theorem ia_p {A : AS} (h : IA A) {c : Nat} (hc : c < A 0 6) : A 2 c < 42 ∨ A 2 c = 100 ∨ A 2 c = 101 ∨ A 2 c = 102 := h.1.2.2 c hc
theorem ia_p2 {A : AS} (h : IA A) {c : Nat} (hc : c < A 0 6) : A 2 c < 103 := by have := ia_p h hc; omega
theorem ia_h {A : AS} (h : IA A) {q : Nat} (hq : q < 42) : A 3 q ≤ 4 := h.2.1.1 q hq
theorem ia_s {A : AS} (h : IA A) {q i : Nat} (hq : q < 42) (hi : i < A 3 q) : A 4 (q * 4 + i) < A 0 6 ∧ A 2 (A 4 (q * 4 + i)) = q := h.2.1.2.1 q i hq hi
theorem ia_d {A : AS} (h : IA A) {q i j : Nat} (hq : q < 42) (hi : i < j) (hj : j < A 3 q) : A 4 (q * 4 + i) ≠ A 4 (q * 4 + j) := h.2.1.2.2.1 q i j hq hi hj
theorem ia_o {A : AS} (h : IA A) {c : Nat} (hc : c < A 0 6) (hp : A 2 c < 42) : ∃ i, i < A 3 (A 2 c) ∧ A 4 (A 2 c * 4 + i) = c := h.2.1.2.2.2 c hc hp
theorem ia_set {A : AS} (h : IA A) : A 5 0 ≤ 60 ∧ 1 ≤ A 5 1 ∧ A 5 1 ≤ 6 ∧ A 5 2 ≤ 3 := h.2.2.1
theorem ia_top {A : AS} (h : IA A) {q : Nat} (hq : q < 42) (hh : 0 < A 3 q) : topA A q < A 0 6 ∧ A 2 (topA A q) = q := ia_s h hq (by omega)
theorem X1_hasRoom_n {A : AS} (h : IA A) {q : Nat} (hq : q < 42) : X1_hasRoom (nI q) (rp A) = some (nI (if A 3 q < 4 then 1 else 0)) := by
  have h1 := ia_h h hq
  unfold X1_hasRoom
  simp (disch := omega) only [rd_n, wr_n, bd_some, lit, nI_add, pk_mul, rp_at, le_n, lt_n, eq_n, sub_n, div_n, irm_n, mn_n, ↓reduceIte, Nat.reduceEqDiff, Nat.zero_ne_one, Nat.one_ne_zero]
  by_cases h2 : A 3 q < 4
  · rw [if_neg (by omega), if_pos h2]
  · rw [if_pos (by omega), if_neg h2]
theorem X1_isOnShelf_n {A : AS} (h : IA A) {c : Nat} (hc : c < A 0 6) : X1_isOnShelf (nI c) (rp A) = some (nI (if A 2 c < 42 then 1 else 0)) := by
  have h1 := ia_p2 h hc
  have h0 := ia_n h
  unfold X1_isOnShelf
  simp (disch := omega) only [rd_n, wr_n, bd_some, lit, nI_add, pk_mul, rp_at, le_n, lt_n, eq_n, sub_n, div_n, irm_n, mn_n, ↓reduceIte, Nat.reduceEqDiff, Nat.zero_ne_one, Nat.one_ne_zero]
  by_cases h2 : A 2 c < 42
  · rw [if_neg (by omega), if_pos h2]
  · rw [if_pos (by omega), if_neg h2]
theorem X1_pull_n {A : AS} (h : IA A) {q : Nat} (hq : q < 42) (hh : 0 < A 3 q) : X1_pull (nI q) (rp A) = some (nI (topA A q), rp (pullA A q)) := by
  have h1 := ia_h h hq
  have h0 := ia_n h
  have h2 := (ia_top h hq hh).1
  unfold topA at h2
  unfold X1_pull
  simp (disch := omega) only [rd_n, wr_n, bd_some, lit, nI_add, pk_mul, rp_at, le_n, lt_n, eq_n, sub_n, div_n, irm_n, mn_n, ↓reduceIte, Nat.reduceEqDiff, Nat.zero_ne_one, Nat.one_ne_zero]
  rw [if_neg (by omega)]
  simp (disch := omega) only [rd_n, wr_n, bd_some, lit, nI_add, pk_mul, rp_at, le_n, lt_n, eq_n, sub_n, div_n, irm_n, mn_n, sub_n, u2_eq]
  rw [show u2 A 3 q (A 3 q - 1) 4 = A 4 from u2_row _ _ _ (by decide)]
  simp (disch := omega) only [rd_n, wr_n, bd_some, lit, nI_add, pk_mul, rp_at, le_n, lt_n, eq_n, sub_n, div_n, irm_n, mn_n]
  rfl
theorem X1_goOver_n {A : AS} (h1 : A 5 2 ≤ 3) {c col : Nat} (hc : c < 24) (hl : col < 7) : X1_goOver (nI c) (nI col) (rp A) = some (rp (goA A c col)) := by
  unfold X1_goOver X1_goOver_L23 X1_goOver_L28
  simp (disch := omega) only [rd_n, wr_n, bd_some, lit, nI_add, pk_mul, rp_at, le_n, lt_n, eq_n, sub_n, div_n, irm_n, mn_n, ↓reduceIte, Nat.reduceEqDiff, Nat.zero_ne_one, Nat.one_ne_zero]
  unfold goA
  by_cases h2 : col < A 5 2
  · rw [if_pos h2, if_pos (Or.inl h2)]
  · rw [if_neg h2]
    by_cases h3 : col < 7 - A 5 2
    · rw [if_pos h3, if_neg (by omega)]
    · rw [if_neg h3, if_pos (by omega)]
theorem X1_topSlides_n {A : AS} (h : IA A) {q : Nat} (hq : q < 42) : X1_topSlides (nI q) (rp A) = some (nI (if 0 < A 3 q ∧ SLI (A 1 (topA A q)) = 1 then 1 else 0)) := by
  have h1 := ia_h h hq
  have h0 := ia_n h
  unfold X1_topSlides
  simp (disch := omega) only [rd_n, wr_n, bd_some, lit, nI_add, pk_mul, rp_at, le_n, lt_n, eq_n, sub_n, div_n, irm_n, mn_n, ↓reduceIte, Nat.reduceEqDiff, Nat.zero_ne_one, Nat.one_ne_zero]
  by_cases hh : 0 < A 3 q
  · have h2 := (ia_top h hq hh).1
    have h3 := ia_k h h2
    unfold topA at h2 h3
    rw [if_neg (by omega)]
    rw [show q * 4 + A 3 q - 1 = q * 4 + (A 3 q - 1) from by omega]
    simp (disch := omega) only [rd_n, wr_n, bd_some, lit, nI_add, pk_mul, rp_at, le_n, lt_n, eq_n, sub_n, div_n, irm_n, mn_n, rdc_n, stC3]
    have h4 : SLI (A 1 (A 4 (q * 4 + (A 3 q - 1)))) < 2 := by
      have key : ∀ k, k < 7 → SLI k < 2 := by decide
      exact key _ h3
    simp (disch := omega) only [eq_n]
    unfold topA
    by_cases h5 : SLI (A 1 (A 4 (q * 4 + (A 3 q - 1)))) = 1
    · rw [if_pos h5, if_pos ⟨hh, h5⟩]
    · rw [if_neg h5, if_neg (fun z => h5 z.2)]
  · rw [if_pos (by omega), if_neg (fun z => hh z.1)]
theorem X1_leans_n {A : AS} (h : IA A) {q : Nat} (hq : q < 42) : X1_leans (nI q) (rp A) = some (nI (if leanA A q then 1 else 0)) := by
  have h1 := ia_h h hq
  have key : ∀ t, t ≤ 4 → t = nxA A q → X1_leans_L27 (nI q) (nI (A 3 q)) (nI t) (rp A) = some (nI (if leanA A q then 1 else 0)) := by
    intro t ht e
    unfold X1_leans_L27
    simp (disch := omega) only [rd_n, wr_n, bd_some, lit, nI_add, pk_mul, rp_at, le_n, lt_n, eq_n, sub_n, div_n, irm_n, mn_n, X1_topSlides_n h hq]
    unfold leanA
    by_cases h2 : A 3 q < t + 3
    · rw [if_pos h2, if_neg (by rw [← e]; simp; omega)]
    · rw [if_neg h2]
      by_cases h3 : SLI (A 1 (topA A q)) = 1
      · have h4 : 0 < A 3 q := by omega
        have h5 : nxA A q + 3 ≤ A 3 q := by omega
        simp only [h3, h4, h5, and_self, decide_true, Bool.and_self, ↓reduceIte, Nat.reduceEqDiff, Nat.zero_ne_one, Nat.one_ne_zero]
        simp (disch := omega) only [rd_n, wr_n, bd_some, lit, nI_add, pk_mul, rp_at, le_n, lt_n, eq_n, sub_n, div_n, irm_n, mn_n, ↓reduceIte, Nat.reduceEqDiff, Nat.zero_ne_one, Nat.one_ne_zero]
      · simp only [h3, and_false, decide_false, Bool.and_false, ↓reduceIte, Nat.reduceEqDiff, Nat.zero_ne_one, Nat.one_ne_zero, Bool.false_eq_true]
  unfold X1_leans
  simp (disch := omega) only [rd_n, wr_n, bd_some, lit, nI_add, pk_mul, rp_at, le_n, lt_n, eq_n, sub_n, div_n, irm_n, mn_n, irm_n]
  by_cases h2 : q % 6 = 5
  · rw [h2, if_pos rfl]
    exact key 0 (by decide) (by unfold nxA; rw [if_pos h2])
  · rw [if_neg h2]
    have h3 : q + 1 < 42 := by omega
    exact key _ (ia_h h h3) (by unfold nxA; rw [if_neg h2])
theorem X1_slideTop_n {A : AS} (h : IA A) {q : Nat} (hq : q < 42) (hh : 0 < A 3 q) (hx : q % 6 ≠ 5 → A 3 (q + 1) < 4) : X1_slideTop (nI q) (rp A) = some (rp (slideA A q)) := by
  have h1 := ia_h h hq
  have h0 := ia_n h
  have h2 := (ia_top h hq hh).1
  unfold X1_slideTop
  rw [X1_pull_n h hq hh]
  simp (disch := omega) only [rd_n, wr_n, bd_some, lit, nI_add, pk_mul, rp_at, le_n, lt_n, eq_n, sub_n, div_n, irm_n, mn_n, irm_n, div_n]
  rw [if_pos (by omega)]
  unfold slideA
  by_cases h3 : q % 6 = 5
  · rw [h3, if_pos rfl, if_pos rfl]
    rw [X1_goOver_n (A := pullA A q) (ia_set h).2.2.2 (by omega) (by omega)]
    rfl
  · rw [if_neg h3, if_neg h3]
    rw [X1_put_n (by omega) (by unfold pullA; simp only [u2]; simp; omega) (by omega)]
    rfl
