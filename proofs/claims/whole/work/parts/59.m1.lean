/-! PURE 9: the reference's row in the words of the spec -/
def tp (p : Nat) : Nat := if p < 42 then 10 * (p / 6) + p % 6 else p
def enc (A : AS) (i : Nat) : Nat := if i = 0 then A 0 7 else if i < 4 then A 5 (i - 1) else if i = 4 then A 0 6 else if i = 5 then A 0 8 else if i = 6 then A 0 9 else if i < 17 then A 6 (i - 7) else if i < 41 then A 1 (i - 17) else if i < 65 then tp (A 2 (i - 41)) else if i < 107 then A 3 (i - 65) else if i < 275 then A 4 (i - 107) else 0
def mst (mm : St) (T : TS) : St := fun k => if k = 1 then (fun i => nI (enc T.1 i)) else if k = 0 then (fun j => if j = 5 then nI T.2.1 else if j = 6 then nI T.2.2 else mm 0 j) else mm k
theorem mst_1 (mm : St) (T : TS) : mst mm T 1 = fun i => nI (enc T.1 i) := rfl
theorem mst_o (mm : St) (T : TS) : mst mm T 0 5 = nI T.2.1 := rfl
theorem mst_v (mm : St) (T : TS) : mst mm T 0 6 = nI T.2.2 := rfl
theorem md {mm : St} {T : TS} {i : Nat} (h : i < 275) : rd (mst mm T) 1 275 (nI i) = some (nI (enc T.1 i)) := by
  have h2 : i < 2 ^ 31 := by omega
  unfold rd
  rw [if_neg (by rw [nI_clamp h2]; exact fun q => q.elim (nI_pos h2) (by omega)), nI_clamp h2]
  rfl
theorem mw {mm : St} {T : TS} {i v : Nat} {B : AS} (h : i < 275) (he : ∀ j, enc B j = if j = i then v else enc T.1 j) : wr (mst mm T) 1 275 (nI i) (nI v) = some (mst mm (B, T.2)) := by
  have h2 : i < 2 ^ 31 := by omega
  unfold wr
  rw [if_neg (by rw [nI_clamp h2]; exact fun q => q.elim (nI_pos h2) (by omega)), nI_clamp h2]
  refine congrArg some ?_
  funext k j
  unfold ups mst
  by_cases e : k = 1
  · subst e
    simp only [if_true]
    rw [he]
    split <;> rfl
  · simp only [e, if_false]
theorem enc_h {A : AS} {q : Nat} (h : q < 42) : enc A (65 + q) = A 3 q := by
  unfold enc
  rw [if_neg (by omega), if_neg (by omega), if_neg (by omega), if_neg (by omega), if_neg (by omega), if_neg (by omega), if_neg (by omega), if_neg (by omega), if_pos (by omega)]
  congr 1
  omega
theorem enc_s {A : AS} {i j : Nat} (h : j < 168) (e : i = 107 + j) : enc A i = A 4 j := by
  subst e
  unfold enc
  rw [if_neg (by omega), if_neg (by omega), if_neg (by omega), if_neg (by omega), if_neg (by omega), if_neg (by omega), if_neg (by omega), if_neg (by omega), if_neg (by omega), if_pos (by omega)]
  congr 1
  omega
theorem enc_w {A : AS} {c : Nat} (h : c < 24) : enc A (41 + c) = tp (A 2 c) := by
  unfold enc
  rw [if_neg (by omega), if_neg (by omega), if_neg (by omega), if_neg (by omega), if_neg (by omega), if_neg (by omega), if_neg (by omega), if_pos (by omega)]
  congr 2
  omega
theorem enc_k {A : AS} {c : Nat} (h : c < 24) : enc A (17 + c) = A 1 c := by
  unfold enc
  rw [if_neg (by omega), if_neg (by omega), if_neg (by omega), if_neg (by omega), if_neg (by omega), if_neg (by omega), if_pos (by omega)]
  congr 1
  omega
theorem enc_p {A : AS} {c : Nat} (h : c < 10) : enc A (7 + c) = A 6 c := by
  unfold enc
  rw [if_neg (by omega), if_neg (by omega), if_neg (by omega), if_neg (by omega), if_neg (by omega), if_pos (by omega)]
  congr 1
  omega
theorem enc_0 (A : AS) : enc A 0 = A 0 7 := rfl
theorem enc_1 (A : AS) : enc A 1 = A 5 0 := rfl
theorem enc_2 (A : AS) : enc A 2 = A 5 1 := rfl
theorem enc_3 (A : AS) : enc A 3 = A 5 2 := rfl
theorem enc_4 (A : AS) : enc A 4 = A 0 6 := rfl
theorem enc_5 (A : AS) : enc A 5 = A 0 8 := rfl
theorem enc_6 (A : AS) : enc A 6 = A 0 9 := rfl
/-- rows that are read for an index -/
theorem enc_cong {A B : AS} {i : Nat} (h : (i = 0 ∨ (4 ≤ i ∧ i < 7) → A 0 = B 0) ∧ (1 ≤ i → i < 4 → A 5 (i - 1) = B 5 (i - 1)) ∧ (7 ≤ i → i < 17 → A 6 (i - 7) = B 6 (i - 7)) ∧ (17 ≤ i → i < 41 → A 1 (i - 17) = B 1 (i - 17)) ∧ (41 ≤ i → i < 65 → A 2 (i - 41) = B 2 (i - 41)) ∧ (65 ≤ i → i < 107 → A 3 (i - 65) = B 3 (i - 65)) ∧ (107 ≤ i → i < 275 → A 4 (i - 107) = B 4 (i - 107))) : enc A i = enc B i := by
  obtain ⟨h0, h5, h6, h1, h2, h3, h4⟩ := h
  unfold enc
  split
  · rename_i e
    rw [h0 (Or.inl e)]
  · split
    · exact h5 (by omega) (by omega)
    · split
      · rw [h0 (by omega)]
      · split
        · rw [h0 (by omega)]
        · split
          · rw [h0 (by omega)]
          · split
            · exact h6 (by omega) (by omega)
            · split
              · exact h1 (by omega) (by omega)
              · split
                · rw [h2 (by omega) (by omega)]
                · split
                  · exact h3 (by omega) (by omega)
                  · split
                    · exact h4 (by omega) (by omega)
                    · rfl
theorem encu_h {A : AS} {q x : Nat} (h : q < 42) (j : Nat) : enc (u2 A 3 q x) j = if j = 65 + q then x else enc A j := by
  by_cases e : j = 65 + q
  · rw [if_pos e, e, enc_h h, u2_eq]
  · rw [if_neg e]
    refine enc_cong ⟨fun _ => u2_row _ _ _ (by decide), fun _ _ => by rw [u2_row _ _ _ (by decide)], fun _ _ => by rw [u2_row _ _ _ (by decide)], fun _ _ => by rw [u2_row _ _ _ (by decide)], fun _ _ => by rw [u2_row _ _ _ (by decide)], fun _ _ => u2_ne _ _ (by omega), fun _ _ => by rw [u2_row _ _ _ (by decide)]⟩
theorem encu_s {A : AS} {q x : Nat} (h : q < 168) (j : Nat) : enc (u2 A 4 q x) j = if j = 107 + q then x else enc A j := by
  by_cases e : j = 107 + q
  · rw [if_pos e, enc_s h e, u2_eq]
  · rw [if_neg e]
    refine enc_cong ⟨fun _ => u2_row _ _ _ (by decide), fun _ _ => by rw [u2_row _ _ _ (by decide)], fun _ _ => by rw [u2_row _ _ _ (by decide)], fun _ _ => by rw [u2_row _ _ _ (by decide)], fun _ _ => by rw [u2_row _ _ _ (by decide)], fun _ _ => by rw [u2_row _ _ _ (by decide)], fun _ _ => u2_ne _ _ (by omega)⟩
theorem encu_w {A : AS} {q x : Nat} (h : q < 24) (j : Nat) : enc (u2 A 2 q x) j = if j = 41 + q then tp x else enc A j := by
  by_cases e : j = 41 + q
  · rw [if_pos e, e, enc_w h, u2_eq]
  · rw [if_neg e]
    refine enc_cong ⟨fun _ => u2_row _ _ _ (by decide), fun _ _ => by rw [u2_row _ _ _ (by decide)], fun _ _ => by rw [u2_row _ _ _ (by decide)], fun _ _ => by rw [u2_row _ _ _ (by decide)], fun _ _ => u2_ne _ _ (by omega), fun _ _ => by rw [u2_row _ _ _ (by decide)], fun _ _ => by rw [u2_row _ _ _ (by decide)]⟩
theorem encu_k {A : AS} {q x : Nat} (h : q < 24) (j : Nat) : enc (u2 A 1 q x) j = if j = 17 + q then x else enc A j := by
  by_cases e : j = 17 + q
  · rw [if_pos e, e, enc_k h, u2_eq]
  · rw [if_neg e]
    refine enc_cong ⟨fun _ => u2_row _ _ _ (by decide), fun _ _ => by rw [u2_row _ _ _ (by decide)], fun _ _ => by rw [u2_row _ _ _ (by decide)], fun _ _ => u2_ne _ _ (by omega), fun _ _ => by rw [u2_row _ _ _ (by decide)], fun _ _ => by rw [u2_row _ _ _ (by decide)], fun _ _ => by rw [u2_row _ _ _ (by decide)]⟩
theorem encu_p {A : AS} {q x : Nat} (h : q < 10) (j : Nat) : enc (u2 A 6 q x) j = if j = 7 + q then x else enc A j := by
  by_cases e : j = 7 + q
  · rw [if_pos e, e, enc_p h, u2_eq]
  · rw [if_neg e]
    refine enc_cong ⟨fun _ => u2_row _ _ _ (by decide), fun _ _ => by rw [u2_row _ _ _ (by decide)], fun _ _ => u2_ne _ _ (by omega), fun _ _ => by rw [u2_row _ _ _ (by decide)], fun _ _ => by rw [u2_row _ _ _ (by decide)], fun _ _ => by rw [u2_row _ _ _ (by decide)], fun _ _ => by rw [u2_row _ _ _ (by decide)]⟩
theorem encu_t {A : AS} {q x : Nat} (h : q < 3) (j : Nat) : enc (u2 A 5 q x) j = if j = 1 + q then x else enc A j := by
  by_cases e : j = 1 + q
  · rw [if_pos e, e]
    rcases (show q = 0 ∨ q = 1 ∨ q = 2 by omega) with rfl | rfl | rfl
    · rw [show 1 + 0 = 1 from rfl, enc_1, u2_eq]
    · rw [show 1 + 1 = 2 from rfl, enc_2, u2_eq]
    · rw [show 1 + 2 = 3 from rfl, enc_3, u2_eq]
  · rw [if_neg e]
    refine enc_cong ⟨fun _ => u2_row _ _ _ (by decide), fun _ _ => u2_ne _ _ (by omega), fun _ _ => by rw [u2_row _ _ _ (by decide)], fun _ _ => by rw [u2_row _ _ _ (by decide)], fun _ _ => by rw [u2_row _ _ _ (by decide)], fun _ _ => by rw [u2_row _ _ _ (by decide)], fun _ _ => by rw [u2_row _ _ _ (by decide)]⟩
/-- which place of the row holds a number of row 0 -/
def e0 (j : Nat) : Nat := if j = 7 then 0 else if j = 6 then 4 else if j = 8 then 5 else 6
theorem encu_0 {A : AS} {q x : Nat} (h : 6 ≤ q) (h2 : q < 10) (j : Nat) : enc (u2 A 0 q x) j = if j = e0 q then x else enc A j := by
  rcases (show q = 6 ∨ q = 7 ∨ q = 8 ∨ q = 9 by omega) with rfl | rfl | rfl | rfl <;>
  · show _ = if j = _ then x else enc A j
    unfold e0 enc
    simp only [u2, ↓reduceIte, Nat.reduceEqDiff, Nat.zero_ne_one, Nat.one_ne_zero, Nat.reduceEqDiff]
    by_cases j0 : j = 0
    · subst j0; rfl
    · by_cases j4 : j = 4
      · subst j4; rfl
      · by_cases j5 : j = 5
        · subst j5; rfl
        · by_cases j6 : j = 6
          · subst j6; rfl
          · simp only [j0, j4, j5, j6, if_false]
theorem tp_lt {p : Nat} (h : p < 103) : tp p < 103 := by
  unfold tp
  split <;> omega
theorem tp_100 {p : Nat} (h : p < 103) (hp : p < 42 ∨ 100 ≤ p) : (100 ≤ tp p) = ¬ p < 42 := by
  apply propext
  unfold tp
  split <;> omega
theorem tp_eq {p x : Nat} (hp : p < 42 ∨ 100 ≤ p) (hx : 100 ≤ x) : (tp p = x) = (p = x) := by
  apply propext
  unfold tp
  split <;> omega
/-! the reference's small methods -/
theorem X4_highOf_n {mm : St} {T : TS} {q : Nat} (hq : q < 42) : X4_highOf (nI q) (mst mm T) = some (nI (T.1 3 q)) := by
  unfold X4_highOf
  rw [lit, nI_add, md (by omega), enc_h hq]
  rfl
theorem X4_coinAt_n {mm : St} {T : TS} {q k : Nat} (hq : q < 42) (hk : k < 4) : X4_coinAt (nI q) (nI k) (mst mm T) = some (nI (T.1 4 (q * 4 + k))) := by
  unfold X4_coinAt
  simp only [lit, nI_add, pk_mul]
  rw [md (by omega), enc_s (show q * 4 + k < 168 by omega) (by omega)]
  rfl
theorem X4_kindOf_n {mm : St} {T : TS} {c : Nat} (hc : c < 24) : X4_kindOf (nI c) (mst mm T) = some (nI (T.1 1 c)) := by
  unfold X4_kindOf
  rw [lit, nI_add, md (by omega), enc_k hc]
  rfl
theorem X4_topOf_n {mm : St} {T : TS} {q : Nat} (hq : q < 42) (hh : 0 < T.1 3 q) (h4 : T.1 3 q ≤ 4) : X4_topOf (nI q) (mst mm T) = some (nI (topA T.1 q)) := by
  unfold X4_topOf
  rw [X4_highOf_n hq]
  simp only [bd_some]
  rw [lit, sub_n (by omega), X4_coinAt_n hq (by omega)]
  rfl
theorem X4_isOnShelf_n {mm : St} {T : TS} (h : IA T.1) {c : Nat} (hc : c < T.1 0 6) : X4_isOnShelf (nI c) (mst mm T) = some (nI (if T.1 2 c < 42 then 1 else 0)) := by
  have h0 := ia_n h
  have h1 := ia_p2 h hc
  have h2 := ia_p h hc
  have h3 := tp_lt h1
  unfold X4_isOnShelf
  rw [lit, nI_add, md (by omega), enc_w (by omega)]
  simp (disch := omega) only [bd_some, lit, le_n, tp_100 h1 (by omega)]
  by_cases e : T.1 2 c < 42
  · rw [if_neg (fun z => z e), if_pos e]
  · rw [if_pos e, if_neg e]
theorem X4_comesOn_n {mm : St} {T : TS} {c q : Nat} (hc : c < 24) (hq : q < 42) (hh : T.1 3 q < 4) : X4_comesOn (nI c) (nI q) (mst mm T) = some (mst mm (putA T.1 c q, T.2)) := by
  obtain ⟨A, w⟩ := T
  dsimp only at hh ⊢
  have w1 : wr (mst mm (A, w)) 1 275 (nI (107 + 4 * q + A 3 q)) (nI c) = some (mst mm (u2 A 4 (q * 4 + A 3 q) c, w)) := by
    refine mw (by omega) (fun j => ?_)
    rw [encu_s (by omega), show 107 + 4 * q + A 3 q = 107 + (q * 4 + A 3 q) from by omega]
  have w2 : wr (mst mm (u2 A 4 (q * 4 + A 3 q) c, w)) 1 275 (nI (65 + q)) (nI (A 3 q + 1)) = some (mst mm (u2 (u2 A 4 (q * 4 + A 3 q) c) 3 q (A 3 q + 1), w)) := by
    refine mw (by omega) (fun j => ?_)
    rw [encu_h hq]
  have w3 : wr (mst mm (u2 (u2 A 4 (q * 4 + A 3 q) c) 3 q (A 3 q + 1), w)) 1 275 (nI (41 + c)) (nI (10 * (q / 6) + q % 6)) = some (mst mm (putA A c q, w)) := by
    refine mw (by omega) (fun j => ?_)
    unfold putA
    rw [encu_w hc]
    have e : tp q = 10 * (q / 6) + q % 6 := by
      unfold tp
      rw [if_pos hq]
    rw [e]
  have r1 : rd (mst mm (u2 A 4 (q * 4 + A 3 q) c, w)) 1 275 (nI (65 + q)) = some (nI (A 3 q)) := by
    rw [md (by omega), enc_h hq]
    rfl
  unfold X4_comesOn
  rw [X4_highOf_n hq]
  simp (disch := omega) only [bd_some, lit, nI_add, pk_mul, div_n, irm_n]
  rw [w1]
  simp only [bd_some]
  rw [r1]
  simp only [bd_some, nI_add]
  rw [w2]
  simp only [bd_some]
  rw [w3]
  rfl
theorem X4_taken_n {mm : St} {T : TS} {q : Nat} (hq : q < 42) (hh : 0 < T.1 3 q) (h4 : T.1 3 q ≤ 4) : X4_taken (nI q) (mst mm T) = some (nI (topA T.1 q), mst mm (u2 T.1 3 q (T.1 3 q - 1), T.2)) := by
  unfold X4_taken
  rw [X4_topOf_n hq hh h4]
  simp only [bd_some, lit, nI_add]
  rw [md (by omega), enc_h hq]
  simp only [bd_some]
  rw [sub_n (by omega), mw (B := u2 T.1 3 q (T.1 3 q - 1)) (by omega) (encu_h hq)]
  rfl
theorem mst_fo (mm : St) (T : TS) (x : Nat) : ups (mst mm T) 0 5 (nI x) = mst mm (T.1, x, T.2.2) := by
  funext k j
  unfold ups mst
  by_cases e : k = 0
  · subst e
    simp only [if_true, ↓reduceIte, Nat.reduceEqDiff, Nat.zero_ne_one, Nat.one_ne_zero]
    split <;> rfl
  · simp only [e, if_false]
theorem mst_fv (mm : St) (T : TS) (x : Nat) : ups (mst mm T) 0 6 (nI x) = mst mm (T.1, T.2.1, x) := by
  funext k j
  unfold ups mst
  by_cases e : k = 0
  · subst e
    simp only [if_true, ↓reduceIte, Nat.reduceEqDiff, Nat.zero_ne_one, Nat.one_ne_zero]
    by_cases e5 : j = 5
    · subst e5
      rfl
    · simp only [e5, if_false]
      split <;> rfl
  · simp only [e, if_false]
theorem X4_goesOver_n {mm : St} {T : TS} {c col : Nat} (hc : c < 24) (hl : col < 7) (hs : T.1 5 2 ≤ 3) : X4_goesOver (nI c) (nI col) (mst mm T) = some (mst mm (goA T.1 c col, T.2.1 + 1, T.2.2)) := by
  have w1 : wr (mst mm T) 1 275 (nI (41 + c)) (nI 101) = some (mst mm (u2 T.1 2 c 101, T.2)) := mw (by omega) (fun j => encu_w hc j)
  have w2 : wr (mst mm T) 1 275 (nI (41 + c)) (nI 102) = some (mst mm (u2 T.1 2 c 102, T.2)) := mw (by omega) (fun j => encu_w hc j)
  unfold X4_goesOver X4_goesOver_L31
  simp only [lit, nI_add]
  rw [md (by decide), enc_3, w1, w2]
  simp (disch := omega) only [bd_some, lt_n, sub_n, mst_o, nI_add, mst_fo]
  unfold goA
  by_cases h2 : col < T.1 5 2
  · rw [if_pos h2, if_pos (Or.inl h2)]
  · rw [if_neg h2]
    by_cases h3 : col < 7 - T.1 5 2
    · rw [if_pos h3, if_neg (by omega)]
    · rw [if_neg h3, if_pos (by omega)]
theorem und2 {k : Nat} (h : k < 7) : X4_isUnder (nI k) 2 = some (if k = 2 ∨ k = 4 then 1 else 0) := by
  have key : ∀ k, k < 7 → X4_isUnder (nI k) 2 = some (if k = 2 ∨ k = 4 then 1 else 0) := by decide +kernel
  exact key k h
theorem X4_weighs_n {mm : St} {T : TS} {c : Nat} (hc : c < 24) (hk : T.1 1 c < 7) : X4_weighs (nI c) (mst mm T) = some (nI (WEI (T.1 1 c))) := by
  unfold X4_weighs
  rw [X4_kindOf_n hc]
  simp only [bd_some]
  generalize T.1 1 c = k at hk
  have key : ∀ k, k < 7 → ((X4_isUnder (nI k) 2).bind fun r2 => if r2 = 0 then (if nI k = 1 then (some (1 + 1)) else (if nI k = 3 then (some (1 + 2)) else (if nI k = 6 then (some (1 + 2)) else (some (1 + 0))))) else (some (1 + 4))) = some (nI (WEI k)) := by decide +kernel
  exact key k hk
theorem X4_slides_n {mm : St} {T : TS} {c : Nat} (hc : c < 24) (hk : T.1 1 c < 7) : X4_slides (nI c) (mst mm T) = some (nI (SLI (T.1 1 c))) := by
  unfold X4_slides
  rw [X4_kindOf_n hc]
  simp only [bd_some]
  generalize T.1 1 c = k at hk
  have key : ∀ k, k < 7 → (if nI k = 2 then (some (0 : Int32)) else (if nI k = 6 then (some 0) else (some 1))) = some (nI (SLI k)) := by decide +kernel
  exact key k hk
theorem X4_worth_n {mm : St} {T : TS} {c : Nat} (hc : c < 24) (hk : T.1 1 c < 7) : X4_worth (nI c) (mst mm T) = some (nI (WOR (T.1 1 c))) := by
  unfold X4_worth
  rw [X4_kindOf_n hc]
  simp only [bd_some]
  generalize T.1 1 c = k at hk
  have key : ∀ k, k < 7 → (if nI k = 0 then (some (1 : Int32)) else (if nI k = 1 then (some 2) else (if nI k = 2 then (some 50) else (if nI k = 3 then (some 5) else (if nI k = 4 then (some 25) else (some 0)))))) = some (nI (WOR k)) := by decide +kernel
  exact key k hk
