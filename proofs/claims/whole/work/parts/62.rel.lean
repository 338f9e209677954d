/-! PURE 12: what holds between the two sides; the small methods -/
def offX (k : Nat) : Prop := k = 0 ∨ (8 ≤ k ∧ k < 15) ∨ (22 ≤ k ∧ k < 27) ∨ 48 ≤ k
def offM (k : Nat) : Prop := k = 2 ∨ k = 4 ∨ k = 5 ∨ k = 10 ∨ k = 11 ∨ k = 12
def KPR (x mm : St) : Prop := x 0 2 = mm 0 3 ∧ (x 0 2 ≠ 0 → ∃ K : AS, IA K ∧ K 0 7 ≤ 9999 ∧ (∀ k j, k < 7 → x (8 + k) j = nI (K k j)) ∧ ∀ i, i < 275 → mm 2 i = nI (enc K i))
def FIR (x mm : St) : Prop := (∀ i, i < 7 → x 26 i = mm 4 (i + 1)) ∧ mm 4 0 = x 26 0 + x 26 1 + x 26 2 + x 26 3 + x 26 4 + x 26 5 + x 26 6
def TAR (x mm : St) : Prop := ∃ L : Nat, L ≤ 120 ∧ x 23 1 = nI L ∧ mm 0 11 = nI L ∧ ∀ i, i < L → ∃ b : Nat, b < 256 ∧ x 24 i = nI b ∧ mm 5 i = nI b
def SHR (x mm : St) : Prop := ∀ s, s < 4 → ∃ z : Nat, z ≤ 40 ∧ x (48 + 2 * s) 2 = nI z ∧ mm 11 s = nI z ∧ x (48 + 2 * s) 1 = mm 10 s ∧ (x (48 + 2 * s) 1 = 0 ∨ x (48 + 2 * s) 1 = 8 ∨ x (48 + 2 * s) 1 = 16 ∨ x (48 + 2 * s) 1 = 32) ∧ ∀ j, j < 40 → x (49 + 2 * s) j = mm 12 (40 * s + j)
def RR (x mm : St) : Prop := (KPR x mm ∧ FIR x mm) ∧ (TAR x mm ∧ SHR x mm)
theorem RR_c {x mm y nn : St} (h : RR x mm) (hx : ∀ k, offX k → y k = x k) (h3 : nn 0 3 = mm 0 3) (h11 : nn 0 11 = mm 0 11) (hm : ∀ k, offM k → nn k = mm k) : RR y nn := by
  obtain ⟨⟨⟨k1, k2⟩, f1, f2⟩, ⟨L, t1, t2, t3, t4⟩, s1⟩ := h
  have x0 := hx 0 (Or.inl rfl)
  have x23 := hx 23 (Or.inr (Or.inr (Or.inl ⟨by decide, by decide⟩)))
  have x24 := hx 24 (Or.inr (Or.inr (Or.inl ⟨by decide, by decide⟩)))
  have x26 := hx 26 (Or.inr (Or.inr (Or.inl ⟨by decide, by decide⟩)))
  have m2 := hm 2 (Or.inl rfl)
  have m4 := hm 4 (Or.inr (Or.inl rfl))
  have m5 := hm 5 (Or.inr (Or.inr (Or.inl rfl)))
  have m10 := hm 10 (Or.inr (Or.inr (Or.inr (Or.inl rfl))))
  have m11 := hm 11 (Or.inr (Or.inr (Or.inr (Or.inr (Or.inl rfl)))))
  have m12 := hm 12 (Or.inr (Or.inr (Or.inr (Or.inr (Or.inr rfl)))))
  refine ⟨⟨⟨?_, ?_⟩, ?_, ?_⟩, ⟨L, t1, ?_, ?_, ?_⟩, ?_⟩
  · rw [x0, h3, k1]
  · intro n0
    rw [x0] at n0
    obtain ⟨K, K1, K2, K3, K4⟩ := k2 n0
    refine ⟨K, K1, K2, fun k j hk => ?_, fun i hi => ?_⟩
    · rw [hx (8 + k) (Or.inr (Or.inl ⟨by omega, by omega⟩))]
      exact K3 k j hk
    · rw [m2]
      exact K4 i hi
  · intro i hi
    rw [x26, m4]
    exact f1 i hi
  · rw [x26, m4]
    exact f2
  · rw [x23, t2]
  · rw [h11, t3]
  · intro i hi
    rw [x24, m5]
    exact t4 i hi
  · intro s hs
    rw [hx (48 + 2 * s) (Or.inr (Or.inr (Or.inr (by omega)))), hx (49 + 2 * s) (Or.inr (Or.inr (Or.inr (by omega)))), m10, m11, m12]
    exact s1 s hs
/-- the whole relation -/
def RLL (x mm : St) : Prop := ∃ (A : AS) (o v : Nat), (IA A ∧ A 0 7 ≤ 9999) ∧ (∀ k j, k < 7 → x (1 + k) j = nI (A k j)) ∧ (∃ m0 : St, mm = mst m0 (A, o, v)) ∧ RR x mm
theorem enc_eq {A B : AS} (h : ∀ k, k < 7 → A k = B k) : enc A = enc B := by
  funext i
  exact enc_cong ⟨fun _ => h 0 (by decide), fun _ _ => by rw [h 5 (by decide)], fun _ _ => by rw [h 6 (by decide)], fun _ _ => by rw [h 1 (by decide)], fun _ _ => by rw [h 2 (by decide)], fun _ _ => by rw [h 3 (by decide)], fun _ _ => by rw [h 4 (by decide)]⟩
theorem IA_eq {A B : AS} (h : ∀ k, k < 7 → A k = B k) (hA : IA A) : IA B := by
  unfold IA at hA ⊢
  rw [← h 0 (by decide), ← h 1 (by decide), ← h 2 (by decide), ← h 3 (by decide), ← h 4 (by decide), ← h 5 (by decide), ← h 6 (by decide)]
  exact hA
theorem mst_enc {m : St} {A B : AS} {o v : Nat} (h : enc A = enc B) : mst m (A, o, v) = mst m (B, o, v) := by
  funext k
  unfold mst
  rw [show enc (A, o, v).1 = enc (B, o, v).1 from h]
/-- a state of numbers that is the block itself -/
def jnA (A : AS) (S : St) : AS := fun k j => if k < 7 then A k j else un S k j
theorem jn_rp {A : AS} {x : St} {b : Nat} (h : ∀ k j, k < 7 → x (b + k) j = nI (A k j)) : blk x b = rp (jnA A (blk x b)) := by
  funext k j
  unfold rp jnA
  by_cases e : k < 7
  · rw [if_pos e]
    exact h k j e
  · rw [if_neg e]
    exact (nI_un _).symm
theorem jn_in (A : AS) (S : St) : ∀ k, k < 7 → A k = jnA A S k := by
  intro k hk
  funext j
  unfold jnA
  rw [if_pos hk]
theorem RLL_st {x mm : St} (h : RLL x mm) : ∃ (A : AS) (o v : Nat) (m0 : St), IA A ∧ A 0 7 ≤ 9999 ∧ blk x 1 = rp A ∧ mm = mst m0 (A, o, v) ∧ RR x mm := by
  obtain ⟨A, o, v, ⟨h1, h2⟩, h3, ⟨m0, h4⟩, h5⟩ := h
  refine ⟨jnA A (blk x 1), o, v, m0, IA_eq (jn_in A _) h1, ?_, jn_rp h3, ?_, h5⟩
  · rw [← jn_in A (blk x 1) 0 (by decide)]
    exact h2
  · rw [h4]
    exact mst_enc (enc_eq (jn_in A _))
theorem put_o {x S : St} {b n k : Nat} (h : k < b ∨ b + n ≤ k) : put x b n S k = x k := put_other h
/-- after a change of the shelf -/
theorem RLL_put {x m0 m1 : St} {T T0 : TS} (h : IA T.1) (hb : T.1 0 7 ≤ 9999) (hr : RR x (mst m0 T0)) (h3 : m1 0 3 = m0 0 3) (h11 : m1 0 11 = m0 0 11) (hm : ∀ k, offM k → m1 k = m0 k) {y : St} (hy : ∀ k, offX k → y k = x k) : RLL (put y 1 7 (rp T.1)) (mst m1 T) := by
  refine ⟨T.1, T.2.1, T.2.2, ⟨h, hb⟩, ?_, ⟨m1, rfl⟩, ?_⟩
  · intro k j hk
    rw [put_in hk]
    rfl
  · refine RR_c hr (fun k hk => ?_) h3 h11 (fun k hk => ?_)
    · unfold offX at hk
      rw [put_o (by omega)]
      exact hy k hk
    · have e1 : ¬ k = 1 := by unfold offM at hk; omega
      have e0 : ¬ k = 0 := by unfold offM at hk; omega
      unfold mst
      rw [if_neg e1, if_neg e0, if_neg e1, if_neg e0]
      exact hm k hk
/-- after no change of the shelf -/
theorem RLL_stay {x m0 m1 : St} {T T0 : TS} (h : IA T.1) (hb : T.1 0 7 ≤ 9999) {y : St} (hs : ∀ k j, k < 7 → y (1 + k) j = nI (T.1 k j)) (hr : RR x (mst m0 T0)) (h3 : m1 0 3 = m0 0 3) (h11 : m1 0 11 = m0 0 11) (hm : ∀ k, offM k → m1 k = m0 k) (hy : ∀ k, offX k → y k = x k) : RLL y (mst m1 T) := by
  refine ⟨T.1, T.2.1, T.2.2, ⟨h, hb⟩, hs, ⟨m1, rfl⟩, ?_⟩
  refine RR_c hr hy h3 h11 (fun k hk => ?_)
  have e1 : ¬ k = 1 := by unfold offM at hk; omega
  have e0 : ¬ k = 0 := by unfold offM at hk; omega
  unfold mst
  rw [if_neg e1, if_neg e0, if_neg e1, if_neg e0]
  exact hm k hk
/-- both sides answer alike, and what holds between them holds again -/
def OPR {α : Type} (f g : St → Option (α × St)) : Prop := ∀ x mm, RLL x mm → ∃ r x' mm', f x = some (r, x') ∧ g mm = some (r, mm') ∧ RLL x' mm'
theorem rd_i {x : St} {k n i : Nat} (h : i < n) (hn : n < 2147483648) : rd x k n (nI i) = some (x k i) := by
  have h2 : i < 2 ^ 31 := by omega
  unfold rd
  rw [if_neg (by rw [nI_clamp h2]; exact fun q => q.elim (nI_pos h2) (by omega)), nI_clamp h2]
theorem wr_i {x : St} {k n i : Nat} {v : Int32} (h : i < n) (hn : n < 2147483648) : wr x k n (nI i) v = some (ups x k i v) := by
  have h2 : i < 2 ^ 31 := by omega
  unfold wr
  rw [if_neg (by rw [nI_clamp h2]; exact fun q => q.elim (nI_pos h2) (by omega)), nI_clamp h2]
def FNC (k : Nat) : Int32 := (-1000001) - nI k
theorem fnc_i {k : Nat} (h : k < 7) : ((-1000001) - FNC k) + 1 = nI (k + 1) := by
  have key : ∀ k, k < 7 → ((-1000001) - FNC k) + 1 = nI (k + 1) := by decide +kernel
  exact key k h
theorem fi_sum (f g : Nat → Int32) (k : Nat) (h : k < 7) (hg : ∀ i, g i = if i = k then f i + 1 else f i) : f 0 + f 1 + f 2 + f 3 + f 4 + f 5 + f 6 + 1 = g 0 + g 1 + g 2 + g 3 + g 4 + g 5 + g 6 := by
  rw [hg 0, hg 1, hg 2, hg 3, hg 4, hg 5, hg 6]
  have ac : ∀ a b c : Int32, a + b + c = a + c + b := fun a b c => by rw [Int32.add_assoc, Int32.add_comm b c, ← Int32.add_assoc]
  rcases (show k = 0 ∨ k = 1 ∨ k = 2 ∨ k = 3 ∨ k = 4 ∨ k = 5 ∨ k = 6 by omega) with rfl | rfl | rfl | rfl | rfl | rfl | rfl
  · simp (decide := true) only [if_true, if_false, ← Int32.add_assoc]
    rw [ac _ (f 6) 1, ac _ (f 5) 1, ac _ (f 4) 1, ac _ (f 3) 1, ac _ (f 2) 1, ac _ (f 1) 1]
  · simp (decide := true) only [if_true, if_false, ← Int32.add_assoc]
    rw [ac _ (f 6) 1, ac _ (f 5) 1, ac _ (f 4) 1, ac _ (f 3) 1, ac _ (f 2) 1]
  · simp (decide := true) only [if_true, if_false, ← Int32.add_assoc]
    rw [ac _ (f 6) 1, ac _ (f 5) 1, ac _ (f 4) 1, ac _ (f 3) 1]
  · simp (decide := true) only [if_true, if_false, ← Int32.add_assoc]
    rw [ac _ (f 6) 1, ac _ (f 5) 1, ac _ (f 4) 1]
  · simp (decide := true) only [if_true, if_false, ← Int32.add_assoc]
    rw [ac _ (f 6) 1, ac _ (f 5) 1]
  · simp (decide := true) only [if_true, if_false, ← Int32.add_assoc]
    rw [ac _ (f 6) 1]
  · simp (decide := true) only [if_true, if_false, ← Int32.add_assoc]
theorem ups_o {x : St} {k j a : Nat} {v : Int32} (h : a ≠ k) : ups x k j v a = x a := by
  funext b
  unfold ups
  rw [if_neg h]
theorem ups_s (x : St) (k j b : Nat) (v : Int32) : ups x k j v k b = if b = j then v else x k b := by
  unfold ups
  rw [if_pos rfl]
theorem fnd {x mm : St} (h : RLL x mm) {k : Nat} (hk : k < 7) : ∃ x' mm', X3_found (nI k) x = some (FNC k, x') ∧ X4_finding (FNC k) mm = some (FNC k, mm') ∧ RLL x' mm' := by
  obtain ⟨A, o, v, m0, hA, hb, hx, hm, ⟨hr1, f1, f2⟩, hr2⟩ := RLL_st h
  refine ⟨ups x 26 k (x 26 k + 1), ups (ups mm 4 (k + 1) (mm 4 (k + 1) + 1)) 4 0 (mm 4 0 + 1), ?_, ?_, ?_⟩
  · unfold X3_found
    rw [rd_i hk (by decide), bd_some, wr_i hk (by decide), bd_some]
    rfl
  · unfold X4_finding
    rw [fnc_i hk, rd_i (by omega) (by decide), bd_some, wr_i (by omega) (by decide), bd_some, show (0 : Int32) = nI 0 from rfl, rd_i (by omega) (by decide), bd_some, wr_i (by omega) (by decide), bd_some, ups_s, if_neg (by omega)]
  · subst hm
    refine ⟨A, o, v, ⟨hA, hb⟩, ?_, ⟨ups (ups m0 4 (k + 1) (m0 4 (k + 1) + 1)) 4 0 (m0 4 0 + 1), ?_⟩, ⟨⟨?_, ?_, ?_⟩, ?_⟩⟩
    · intro i j hi
      rw [ups_o (by omega)]
      exact congrFun (congrFun hx i) j
    · funext a b
      unfold ups mst
      by_cases e : a = 4
      · subst e
        simp (decide := true) only [if_true, if_false]
      · by_cases e1 : a = 1
        · subst e1
          simp (decide := true) only [if_true, if_false]
        · by_cases e0 : a = 0
          · subst e0
            simp (decide := true) only [if_true, if_false]
          · simp only [e, e1, e0, if_false]
    · obtain ⟨k1, k2⟩ := hr1
      refine ⟨?_, fun n0 => ?_⟩
      · rw [ups_o (by omega), ups_o (by omega), ups_o (by omega)]
        exact k1
      · rw [ups_o (by omega)] at n0
        obtain ⟨K, K1, K2, K3, K4⟩ := k2 n0
        refine ⟨K, K1, K2, fun i j hi => ?_, fun i hi => ?_⟩
        · rw [ups_o (by omega)]
          exact K3 i j hi
        · rw [ups_o (by omega), ups_o (by omega)]
          exact K4 i hi
    · intro i hi
      rw [ups_s, ups_s, ups_s, if_neg (show ¬ i + 1 = 0 by omega), ← f1 k hk, ← f1 i hi]
      by_cases e : i = k
      · rw [if_pos e, if_pos (by omega)]
      · rw [if_neg e, if_neg (by omega)]
    · rw [ups_s, if_pos rfl, f2]
      refine fi_sum (x 26) (ups x 26 k (x 26 k + 1) 26) k hk (fun i => ?_)
      rw [ups_s]
      by_cases e : i = k
      · rw [if_pos e, if_pos e, e]
      · rw [if_neg e, if_neg e]
    · obtain ⟨⟨L, t1, t2, t3, t4⟩, s1⟩ := hr2
      refine ⟨⟨L, t1, ?_, ?_, fun i hi => ?_⟩, fun s hs => ?_⟩
      · rw [ups_o (by omega)]
        exact t2
      · rw [ups_o (by omega), ups_o (by omega)]
        exact t3
      · rw [ups_o (by omega), ups_o (by omega), ups_o (by omega)]
        exact t4 i hi
      · rw [ups_o (show 48 + 2 * s ≠ 26 by omega), ups_o (show 49 + 2 * s ≠ 26 by omega), ups_o (show (11 : Nat) ≠ 4 by omega), ups_o (show (11 : Nat) ≠ 4 by omega), ups_o (show (10 : Nat) ≠ 4 by omega), ups_o (show (10 : Nat) ≠ 4 by omega), ups_o (show (12 : Nat) ≠ 4 by omega), ups_o (show (12 : Nat) ≠ 4 by omega)]
        exact s1 s hs
