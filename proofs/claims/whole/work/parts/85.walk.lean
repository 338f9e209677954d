/-! PURE 35: ways -/
def pfx : Nat → Nat → AS → AS
  | 0, _, A => A
  | j + 1, u, A => drA (pfx j (u / 7) A) (lih (pfx j (u / 7) A)) (u % 7)
theorem pf_ok {A : AS} (hA : IA A) : ∀ (j u : Nat), j ≤ hcA A → IA (pfx j u A) ∧ pfx j u A 0 7 = A 0 7 + j ∧ pfx j u A 0 6 = A 0 6 ∧ hcA (pfx j u A) + j = hcA A ∧ pfx j u A 1 = A 1 := by
  intro j
  induction j with
  | zero => intro u _; exact ⟨hA, rfl, rfl, rfl, rfl⟩
  | succ j ih =>
    intro u h
    obtain ⟨h1, h2, h3, h4, h5⟩ := ih (u / 7) (by omega)
    obtain ⟨l1, l2⟩ := lih_some (A := pfx j (u / 7) A) (by omega)
    have hl : u % 7 < 7 := Nat.mod_lt _ (by decide)
    obtain ⟨d1, d2⟩ := drA_IA h1 l1 l2 hl
    obtain ⟨q1, q2, q3, q4⟩ := dr_hand h1 l1 l2 hl
    show IA (drA (pfx j (u / 7) A) (lih (pfx j (u / 7) A)) (u % 7)) ∧ drA (pfx j (u / 7) A) (lih (pfx j (u / 7) A)) (u % 7) 0 7 = _ ∧ drA (pfx j (u / 7) A) (lih (pfx j (u / 7) A)) (u % 7) 0 6 = _ ∧ hcA (drA (pfx j (u / 7) A) (lih (pfx j (u / 7) A)) (u % 7)) + (j + 1) = _ ∧ drA (pfx j (u / 7) A) (lih (pfx j (u / 7) A)) (u % 7) 1 = _
    exact ⟨d1, by omega, by omega, by omega, by rw [q2, h5]⟩
theorem wy6 {k : Nat} (h : k < 4) : stC 6 k = nI (7 ^ k) := by
  have key : ∀ k, k < 4 → stC 6 k = nI (7 ^ k) := by decide +kernel
  exact key k h
theorem wy4 {k : Nat} (h : k < 4) : X4_ways (nI k) = nI (7 ^ k) := by
  have key : ∀ k, k < 4 → X4_ways (nI k) = nI (7 ^ k) := by decide +kernel
  exact key k h
theorem p7 (k : Nat) : 0 < 7 ^ k := Nat.pow_pos (by decide)
theorem p7_le {k : Nat} (h : k < 4) : 7 ^ k ≤ 343 := Nat.pow_le_pow_right (n := 7) (by decide) (show k ≤ 3 by omega)
theorem dvn_n {a b : Nat} (ha : a < 2147483648) (h0 : 0 < b) (hb : b < 2147483648) : dvn (nI a) (nI b) = some (nI (a / b)) := by
  unfold dvn
  rw [if_neg (show ¬ nI b = 0 from eqN (b := 0) (by omega) hb (by decide)), div_n ha h0 hb]
theorem rmn_n {a b : Nat} (ha : a < 2147483648) (h0 : 0 < b) (hb : b < 2147483648) : rmn (nI a) (nI b) = some (nI (a % b)) := by
  unfold rmn
  rw [if_neg (show ¬ nI b = 0 from eqN (b := 0) (by omega) hb (by decide))]
  exact congrArg some (irm_n ha h0 hb)
theorem X3_columnOf_n {w k d : Nat} (hw : w < 2147483648) (hk : k < 4) (hd : d ≤ k) : X3_columnOf (nI w) (nI k) (nI d) = some (nI (w / 7 ^ (k - d) % 7)) := by
  have h1 := p7 (k - d)
  have h2 := p7_le (show k - d < 4 by omega)
  have h3 := Nat.div_le_self w (7 ^ (k - d))
  unfold X3_columnOf
  rw [sub_n hd, rdc_n (by omega) (by decide), bd_some, wy6 (by omega), dvn_n hw h1 (by omega), bd_some, show (7 : Int32) = nI 7 from rfl, irm_n (by omega) (by decide) (by decide)]
theorem X4_columnOf_n {w k i : Nat} (hw : w < 2147483648) (hk : k < 4) (hi : i < k) : X4_columnOf (nI w) (nI k) (nI i) = some (nI (w / 7 ^ (k - (i + 1)) % 7)) := by
  have h1 := p7 (k - (i + 1))
  have h2 := p7_le (show k - (i + 1) < 4 by omega)
  have h3 := Nat.div_le_self w (7 ^ (k - (i + 1)))
  unfold X4_columnOf
  rw [show (1 : Int32) = nI 1 from rfl, sub_n (by omega), sub_n (by omega), show k - 1 - i = k - (i + 1) by omega, wy4 (by omega), dvn_n hw h1 (by omega), bd_some, show (7 : Int32) = nI 7 from rfl, irm_n (by omega) (by decide) (by decide)]
/-- a way, a digit further -/
theorem pf_s {A : AS} {w k i : Nat} (hi : i < k) : pfx (i + 1) (w / 7 ^ (k - (i + 1))) A = drA (pfx i (w / 7 ^ (k - i)) A) (lih (pfx i (w / 7 ^ (k - i)) A)) (w / 7 ^ (k - (i + 1)) % 7) := by
  have e : w / 7 ^ (k - (i + 1)) / 7 = w / 7 ^ (k - i) := by
    rw [Nat.div_div_eq_div_mul, ← Nat.pow_succ, show (k - (i + 1)).succ = k - i by omega]
  show drA (pfx i (w / 7 ^ (k - (i + 1)) / 7) A) (lih (pfx i (w / 7 ^ (k - (i + 1)) / 7) A)) _ = _
  rw [e]
theorem lm_drops {m : St} {A : AS} (hA : IA A) {k w : Nat} (hk : k < 4) (hw : w < 2147483648) (hh : k ≤ hcA A) (hb : A 0 7 < 20000) : ∀ (d i n o v : Nat), i + d = k → d < n →
    ∃ o' v', X4_dropsBy_L2 n (nI w) (nI k) (nI i) (mst m (pfx i (w / 7 ^ (k - i)) A, o, v)) = some (mst m (pfx k w A, o', v')) := by
  intro d
  induction d with
  | zero =>
    intro i n o v h1 h2
    obtain ⟨n, rfl⟩ : ∃ m, n = m + 1 := ⟨n - 1, by omega⟩
    unfold X4_dropsBy_L2
    have e : i = k := by omega
    subst e
    rw [if_pos (leY (Nat.le_refl _) (by omega)), Nat.sub_self, Nat.pow_zero, Nat.div_one]
    exact ⟨o, v, rfl⟩
  | succ d ih =>
    intro i n o v h1 h2
    obtain ⟨n, rfl⟩ : ∃ m, n = m + 1 := ⟨n - 1, by omega⟩
    unfold X4_dropsBy_L2
    obtain ⟨g1, g2, g3, g4, g5⟩ := pf_ok hA i (w / 7 ^ (k - i)) (by omega)
    obtain ⟨l1, l2⟩ := lih_some (A := pfx i (w / 7 ^ (k - i)) A) (by omega)
    have hl : w / 7 ^ (k - (i + 1)) % 7 < 7 := Nat.mod_lt _ (by decide)
    obtain ⟨o1, v1, hd⟩ := dpT_q (pfx i (w / 7 ^ (k - i)) A, o, v) (lih (pfx i (w / 7 ^ (k - i)) A)) (w / 7 ^ (k - (i + 1)) % 7)
    rw [if_neg (leN (by omega) (by omega)), X4_leastInHand_n (T := (pfx i (w / 7 ^ (k - i)) A, o, v)) g1, bd_some, X4_columnOf_n hw hk (by omega), bd_some, X4_dropped_n (T := (pfx i (w / 7 ^ (k - i)) A, o, v)) g1 l1 l2 hl (show pfx i (w / 7 ^ (k - i)) A 0 7 < 100000 by omega), bd_some, hd, show nI i + 1 = nI (i + 1) from (nI_succ i).symm]
    have z := ih (i + 1) n o1 v1 (by omega) (by omega)
    rw [pf_s (by omega)] at z
    exact z
theorem X4_dropsBy_n {m : St} {A : AS} (hA : IA A) {k w : Nat} (hk : k < 4) (hw : w < 7 ^ k) (hh : k ≤ hcA A) (hb : A 0 7 < 20000) (o v : Nat) :
    ∃ o' v', X4_dropsBy (nI w) (nI k) (mst m (A, o, v)) = some (mst m (pfx k w A, o', v')) := by
  have h1 := p7_le hk
  obtain ⟨o', v', z⟩ := lm_drops (m := m) hA hk (w := w) (by omega) hh hb k 0 FU o v (Nat.zero_add _) (Nat.lt_of_lt_of_le hk (by decide))
  exact ⟨o', v', z⟩
/-- the levels hold a way -/
def LV (y : St) (A : AS) (k w : Nat) : Prop := ∀ j, 1 ≤ j → j ≤ k → Is y (lvl j) (pfx j (w / 7 ^ (k - j)) A)
theorem lvl_ap {i j : Nat} (hi : i < 4) (hj : j < 4) (h : i ≠ j) : lvl i + 7 ≤ lvl j ∨ lvl j + 7 ≤ lvl i := by
  have key : ∀ i, i < 4 → ∀ j, j < 4 → i ≠ j → (lvl i + 7 ≤ lvl j ∨ lvl j + 7 ≤ lvl i) := by decide
  exact key i hi j hj h
theorem lvl_tr {j : Nat} (h1 : 1 ≤ j) (hj : j < 4) : isTr (lvl j) := by
  rcases (show j = 1 ∨ j = 2 ∨ j = 3 by omega) with rfl | rfl | rfl
  · exact Or.inr (Or.inl rfl)
  · exact Or.inr (Or.inr (Or.inl rfl))
  · exact Or.inr (Or.inr (Or.inr rfl))
theorem lvl_n {j : Nat} (hj : j < 4) : rdn 4 lvl (nI j) = some (lvl j) := by
  have key : ∀ j, j < 4 → rdn 4 lvl (nI j) = some (lvl j) := by decide +kernel
  exact key j hj
theorem lvl_ne {j : Nat} (hj : j < 3) : gne (lvl (j + 1)) (lvl j) = some (lvl (j + 1)) := by
  have key : ∀ j, j < 3 → gne (lvl (j + 1)) (lvl j) = some (lvl (j + 1)) := by decide
  exact key j hj
theorem lx_walk {A : AS} (hA : IA A) {k w : Nat} (hk : k < 4) (hw : w < 7 ^ k) (hh : k ≤ hcA A) (hb : A 0 7 < 20000) : ∀ (d j n : Nat) (y : St), j + d = k → d < n → Is y 1 A → (∀ i, 1 ≤ i → i ≤ j → Is y (lvl i) (pfx i (w / 7 ^ (k - i)) A)) → (w = 0 ∨ ∀ i, j + 1 ≤ i → i ≤ k → Is y (lvl i) (pfx i ((w - 1) / 7 ^ (k - i)) A)) →
    ∃ y', X3_walk_L2 n (nI w) (nI k) (nI (j + 1)) y = some (lvl k, y') ∧ Kp y y' ∧ LV y' A k w ∧ (∀ b B, b + 7 ≤ 15 ∨ (15 ≤ b ∧ b + 7 ≤ 27) → Is y b B → Is y' b B) := by
  intro d
  have w7 := p7_le hk
  induction d with
  | zero =>
    intro j n y h1 h2 hi hl hr
    obtain ⟨n, rfl⟩ : ∃ m, n = m + 1 := ⟨n - 1, by omega⟩
    unfold X3_walk_L2
    rw [if_pos (ltY (by omega) (by omega)), lvl_n hk, bd_some]
    exact ⟨y, rfl, kp_id y, fun i h1 h2 => hl i h1 (by omega), fun _ _ _ h => h⟩
  | succ d ih =>
    intro j n y h1 h2 hi hl hr
    obtain ⟨n, rfl⟩ : ∃ m, n = m + 1 := ⟨n - 1, by omega⟩
    have q1 := p7 (k - (j + 1))
    have q2 := p7_le (show k - (j + 1) < 4 by omega)
    unfold X3_walk_L2
    rw [if_neg (ltN (by omega) (by omega)), sub_n (show j + 1 ≤ k by omega), rdc_n (show k - (j + 1) < 4 by omega) (by decide), bd_some, wy6 (by omega), rmn_n (by omega) q1 (by omega), bd_some]
    by_cases e : w % 7 ^ (k - (j + 1)) = 0
    · have ij : Is y (lvl j) (pfx j (w / 7 ^ (k - j)) A) := by
        by_cases j0 : j = 0
        · subst j0
          exact hi
        · exact hl j (by omega) (Nat.le_refl j)
      obtain ⟨g1, g2, g3, g4, g5⟩ := pf_ok hA j (w / 7 ^ (k - j)) (by omega)
      obtain ⟨l1, l2⟩ := lih_some (A := pfx j (w / 7 ^ (k - j)) A) (by omega)
      have hc : w / 7 ^ (k - (j + 1)) % 7 < 7 := Nat.mod_lt _ (by decide)
      have t1 := is_cpy (b2 := lvl (j + 1)) ij
      obtain ⟨S, s1, s2⟩ := is_rel t1 g1 l1 l2 hc (by omega)
      have tr := lvl_tr (j := j + 1) (by omega) (by omega)
      have oth : ∀ b B, (b + 7 ≤ lvl (j + 1) ∨ lvl (j + 1) + 7 ≤ b) → Is y b B → Is (put (put y (lvl (j + 1)) 7 (blk y (lvl j))) (lvl (j + 1)) 7 S) b B := fun b B hb hB => is_oth (is_oth hB hb) hb
      have l27 : 27 ≤ lvl (j + 1) := by
        unfold isTr at tr
        have key : ∀ j, j < 3 → 27 ≤ lvl (j + 1) := by decide
        exact key j (by omega)
      obtain ⟨y', w1, w2, w3, w4⟩ := ih (j + 1) n (put (put y (lvl (j + 1)) 7 (blk y (lvl j))) (lvl (j + 1)) 7 S) (by omega) (by omega) (oth 1 A (Or.inl (by omega)) hi) (fun i i1 i2 => by
        by_cases ie : i = j + 1
        · subst ie
          rw [pf_s (by omega)]
          exact s2 _
        · exact oth _ _ (lvl_ap (by omega) (by omega) ie) (hl i i1 (by omega))) (hr.elim Or.inl (fun hr => Or.inr (fun i i1 i2 => oth _ _ (lvl_ap (by omega) (by omega) (by omega)) (hr i (by omega) i2))))
      rw [if_pos (show nI (w % 7 ^ (k - (j + 1))) = 0 from congrArg nI e), lvl_n (show j + 1 < 4 by omega), bd_some, show nI (j + 1) - 1 = nI j from (sub_n (a := j + 1) (b := 1) (by omega)), lvl_n (show j < 4 by omega), bd_some, lvl_ne (show j < 3 by omega), bd_some, bd_some, is_lih t1 g1 (by omega), bd_some, X3_columnOf_n (by omega) hk (by omega), bd_some, s1, bd_some, bd_some, show nI (j + 1) + 1 = nI (j + 1 + 1) from (nI_succ (j + 1)).symm]
      exact ⟨y', w1, kp_tr (kp_tr (kp_put _ _ tr) (kp_put _ _ tr)) w2, w3, fun b B hb hB => w4 b B hb (oth b B (Or.inl (by omega)) hB)⟩
    · have w0 : w ≠ 0 := by
        intro z
        rw [z, Nat.zero_mod] at e
        exact e rfl
      have hm := Nat.mod_lt w q1
      have hv : (w - 1) / 7 ^ (k - (j + 1)) = w / 7 ^ (k - (j + 1)) := by
        have hd := Nat.div_add_mod w (7 ^ (k - (j + 1)))
        have ed : w - 1 = (w % 7 ^ (k - (j + 1)) - 1) + 7 ^ (k - (j + 1)) * (w / 7 ^ (k - (j + 1))) := by omega
        rw [ed, Nat.add_mul_div_left _ _ q1, Nat.div_eq_of_lt (by omega), Nat.zero_add]
      have hr2 := hr.resolve_left w0
      rw [if_neg (show ¬ nI (w % 7 ^ (k - (j + 1))) = 0 from eqN (b := 0) e (by omega) (by decide)), show nI (j + 1) + 1 = nI (j + 1 + 1) from (nI_succ (j + 1)).symm]
      refine ih (j + 1) n y (by omega) (by omega) hi (fun i i1 i2 => ?_) (Or.inr (fun i i1 i2 => hr2 i (by omega) i2))
      by_cases ie : i = j + 1
      · subst ie
        rw [← hv]
        exact hr2 (j + 1) (Nat.le_refl _) (by omega)
      · exact hl i i1 (by omega)
theorem X3_walk_n {A : AS} (hA : IA A) {k w : Nat} (hk : k < 4) (hw : w < 7 ^ k) (hh : k ≤ hcA A) (hb : A 0 7 < 20000) {y : St} (hi : Is y 1 A) (hp : w = 0 ∨ LV y A k (w - 1)) :
    ∃ y', X3_walk (nI w) (nI k) y = some (lvl k, y') ∧ Kp y y' ∧ LV y' A k w ∧ Is y' (lvl k) (pfx k w A) := by
  obtain ⟨y', w1, w2, w3, w4⟩ := lx_walk hA hk hw hh hb k 0 FU y (Nat.zero_add _) (Nat.lt_of_lt_of_le hk (by decide)) hi (fun i i1 i2 => absurd i1 (by omega)) (hp.elim Or.inl (fun h => Or.inr (fun i i1 i2 => h i i1 i2)))
  refine ⟨y', w1, w2, w3, ?_⟩
  by_cases k0 : k = 0
  · subst k0
    exact kp_is w2 hi
  · have z := w3 k (by omega) (Nat.le_refl k)
    rw [Nat.sub_self, Nat.pow_zero, Nat.div_one] at z
    exact z
