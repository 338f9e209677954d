/-! PURE 1: numbers as Nat: a state of Nat values, and what reads and writes do to it -/
abbrev AS : Type := Nat → Nat → Nat
def rp (A : AS) : St := fun k j => nI (A k j)
def u2 (A : AS) (k j v : Nat) : AS := fun a b => if a = k then (if b = j then v else A a b) else A a b
def un (S : St) : AS := fun k j => (S k j).toUInt32.toNat
theorem nI_un (x : Int32) : nI x.toUInt32.toNat = x := by
  obtain ⟨n, hn, rfl⟩ := wb_of32 x
  have h : (nI n).toUInt32.toNat = n := pk_tn hn
  rw [h]
theorem rp_un (S : St) : rp (un S) = S := by
  funext k j
  exact nI_un _
theorem lit (n : Nat) : (OfNat.ofNat n : Int32) = nI (OfNat.ofNat n) := by
  have h : (OfNat.ofNat n : Int32) = nI (OfNat.ofNat n) := rfl
  exact h
theorem rp_u2 (A : AS) (k j v : Nat) : ups (rp A) k j (nI v) = rp (u2 A k j v) := by
  funext a b
  unfold ups rp u2
  split
  · split <;> rfl
  · rfl
theorem rd_n {A : AS} {k n i : Nat} (h : i < n) (hn : n < 2147483648) : rd (rp A) k n (nI i) = some (nI (A k i)) := by
  have h2 : i < 2 ^ 31 := by omega
  unfold rd
  rw [if_neg (by rw [nI_clamp h2]; exact fun q => q.elim (nI_pos h2) (by omega)), nI_clamp h2]
  rfl
theorem wr_n {A : AS} {k n i v : Nat} (h : i < n) (hn : n < 2147483648) : wr (rp A) k n (nI i) (nI v) = some (rp (u2 A k i v)) := by
  have h2 : i < 2 ^ 31 := by omega
  unfold wr
  rw [if_neg (by rw [nI_clamp h2]; exact fun q => q.elim (nI_pos h2) (by omega)), nI_clamp h2, rp_u2]
theorem rdc_n {n i : Nat} {f : Nat → Int32} (h : i < n) (hn : n < 2147483648) : rdc n f (nI i) = some (f i) := by
  have h2 : i < 2 ^ 31 := by omega
  unfold rdc
  rw [if_neg (by rw [nI_clamp h2]; exact fun q => q.elim (nI_pos h2) (by omega)), nI_clamp h2]
theorem le_n {a b : Nat} (ha : a < 2147483648) (hb : b < 2147483648) : (nI a ≤ nI b) = (a ≤ b) := propext (nI_leI ha hb)
theorem lt_n {a b : Nat} (ha : a < 2147483648) (hb : b < 2147483648) : (nI a < nI b) = (a < b) := propext (nI_ltI ha hb)
theorem eq_n {a b : Nat} (ha : a < 2147483648) (hb : b < 2147483648) : (nI a = nI b) = (a = b) := propext (nI_eq ha hb)
theorem div_n {a d : Nat} (ha : a < 2147483648) (h0 : 0 < d) (hd : d < 2147483648) : nI a / nI d = nI (a / d) := pk_div ha h0 hd
theorem irm_n {a d : Nat} (ha : a < 2147483648) (h0 : 0 < d) (hd : d < 2147483648) : irm (nI a) (nI d) = nI (a % d) := pk_rem ha h0 hd
theorem sub_n {a b : Nat} (h : b ≤ a) : nI a - nI b = nI (a - b) := by
  obtain ⟨c, rfl⟩ : ∃ c, a = b + c := ⟨a - b, by omega⟩
  rw [Nat.add_sub_cancel_left, ← nI_add]
  have e : ∀ x y : Int32, x + y - x = y := by
    intro x y
    rw [Int32.add_comm, Int32.add_sub_cancel]
  exact e _ _
theorem m1_n {a : Nat} (h : 0 < a) : nI a + (-1) = nI (a - 1) := sb_m1 h
theorem shl_n {c : Nat} (h : c < 31) : shl32 (nI 1) (nI c) = nI (2 ^ c) := by
  have h2 := pk_shlN (n := 1) (nI c &&& 31) c (s_l c (by omega)) (by rw [Nat.one_mul]; exact Nat.pow_lt_pow_right (by decide) (by omega))
  rw [Nat.one_mul] at h2
  exact h2
theorem or_n (a b : Nat) : nI a ||| nI b = nI (a ||| b) := fa_or a b
theorem and_n (a b : Nat) : nI a &&& nI b = nI (a &&& b) := fa_and a b
theorem ush_n {a c : Nat} (ha : a < 4294967296) (h : c < 32) : ush32 (nI a) (nI c) = nI (a / 2 ^ c) := by
  exact pk_ushrN ha (nI c) c (s_u c h)
theorem shr_n {a c : Nat} (ha : a < 2147483648) (h : c < 32) : shr32 (nI a) (nI c) = nI (a / 2 ^ c) := by
  exact pk_shrN ha (nI c &&& 31) c (s_l c h)
theorem bd_some {α β : Type} (v : α) (f : α → Option β) : (some v).bind f = f v := rfl

theorem u2_eq (A : AS) (k j v : Nat) : u2 A k j v k j = v := by simp only [u2, if_true]
theorem u2_row (A : AS) {k a : Nat} (j v : Nat) (h : a ≠ k) : u2 A k j v a = A a := by
  funext b
  simp only [u2, if_neg h]
theorem u2_ne (A : AS) {k a j b : Nat} (v : Nat) (h : ¬ (a = k ∧ b = j)) : u2 A k j v a b = A a b := by
  unfold u2
  split
  · split
    · rename_i h1 h2
      exact absurd ⟨h1, h2⟩ h
    · rfl
  · rfl
def putA (A : AS) (c q : Nat) : AS := u2 (u2 (u2 A 4 (q * 4 + A 3 q) c) 3 q (A 3 q + 1)) 2 c q
theorem X1_put_n {A : AS} {c q : Nat} (hq : q < 42) (hh : A 3 q < 4) (hc : c < 24) : X1_put (nI c) (nI q) (rp A) = some (rp (putA A c q)) := by
  unfold X1_put
  simp (disch := omega) only [rd_n, wr_n, bd_some, lit, le_n, nI_add, pk_mul]
  rw [if_neg (by omega)]
  simp (disch := omega) only [rd_n, wr_n, bd_some, lit, nI_add, pk_mul, u2, putA, if_false, if_true, Nat.reduceEqDiff]
