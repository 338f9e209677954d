/-! PURE 18: how many bits -/
theorem and_cat {i a b x y : Nat} (hx : x < 2 ^ i) (hy : y < 2 ^ i) : (2 ^ i * a + x) &&& (2 ^ i * b + y) = 2 ^ i * (a &&& b) + (x &&& y) := by
  refine Nat.eq_of_testBit_eq (fun j => ?_)
  have hxy : x &&& y < 2 ^ i := Nat.lt_of_le_of_lt Nat.and_le_left hx
  rw [Nat.testBit_and, Nat.testBit_two_pow_mul_add _ hx, Nat.testBit_two_pow_mul_add _ hy, Nat.testBit_two_pow_mul_add _ hxy]
  split
  · rw [Nat.testBit_and]
  · rw [Nat.testBit_and]
theorem and_b {a b x y : Nat} (hx : x < 256) (hy : y < 256) : (256 * a + x) &&& (256 * b + y) = 256 * (a &&& b) + (x &&& y) := and_cat (i := 8) hx hy
theorem and_1 {a b x y : Nat} (hx : x < 2) (hy : y < 2) : (2 * a + x) &&& (2 * b + y) = 2 * (a &&& b) + (x &&& y) := and_cat (i := 1) hx hy
def by3 (a b c : Nat) : Nat := 256 * (256 * c + b) + a
theorem and_3 {a b c M N : Nat} (ha : a < 256) (hb : b < 256) (hc : c < 256) (hM : M < 256) : by3 a b c &&& (256 * (256 * (256 * N + M) + M) + M) = by3 (a &&& M) (b &&& M) (c &&& M) := by
  unfold by3
  rw [and_b ha hM, and_b hb hM]
  have z := and_b (a := 0) (b := N) hc hM
  rw [Nat.mul_zero, Nat.zero_add, Nat.zero_and, Nat.mul_zero, Nat.zero_add] at z
  rw [z]
def jb1 (a : Int32) : Int32 := a - (ush32 a 1 &&& 1431655765)
def jb2 (v : Int32) : Int32 := (v &&& 858993459) + (ush32 v 2 &&& 858993459)
def jb3 (w : Int32) : Int32 := (w + ush32 w 4) &&& 252645135
def jb4 (z : Int32) : Int32 := z + ush32 z 8
def jb5 (y : Int32) : Int32 := (y + ush32 y 16) &&& 63
theorem jb_all (a : Int32) : J6_bitCount_0f7a4 a = jb5 (jb4 (jb3 (jb2 (jb1 a)))) := rfl
def bt1 (b : Nat) : Nat := b - ((b / 2) &&& 85)
def bt2 (b : Nat) : Nat := (b &&& 51) + ((b / 4) &&& 51)
def bt3 (b : Nat) : Nat := (b + b / 16) % 16
theorem bt_a {b : Nat} (h : b < 256) : (b / 2) &&& 85 ≤ b ∧ bt1 b < 256 ∧ bt2 (bt1 b) < 69 ∧ bt2 (bt1 b) % 16 < 5 ∧ bt3 (bt2 (bt1 b)) = pcr 8 b ∧ pcr 8 b < 9 := by
  have key : ∀ b, b < 256 → (b / 2) &&& 85 ≤ b ∧ bt1 b < 256 ∧ bt2 (bt1 b) < 69 ∧ bt2 (bt1 b) % 16 < 5 ∧ bt3 (bt2 (bt1 b)) = pcr 8 b ∧ pcr 8 b < 9 := by decide +kernel
  exact key b h
theorem sh_85 {x e : Nat} (h : x < 256) (he : e < 2) : (x / 2 + 128 * e) &&& 85 = (x / 2) &&& 85 := by
  have key : ∀ x, x < 256 → ∀ e, e < 2 → (x / 2 + 128 * e) &&& 85 = (x / 2) &&& 85 := by decide +kernel
  exact key x h e he
theorem sh_51 {x e : Nat} (h : x < 256) (he : e < 4) : (x / 4 + 64 * e) &&& 51 = (x / 4) &&& 51 := by
  have key : ∀ x, x < 256 → ∀ e, e < 4 → (x / 4 + 64 * e) &&& 51 = (x / 4) &&& 51 := by decide +kernel
  exact key x h e he
theorem jb1_n {a b c : Nat} (ha : a < 256) (hb : b < 256) (hc : c < 256) : jb1 (nI (by3 a b c)) = nI (by3 (bt1 a) (bt1 b) (bt1 c)) := by
  have e : by3 a b c / 2 ^ 1 = by3 (a / 2 + 128 * (b % 2)) (b / 2 + 128 * (c % 2)) (c / 2) := by
    unfold by3
    omega
  have m := and_3 (M := 85) (N := 85) (show a / 2 + 128 * (b % 2) < 256 by omega) (show b / 2 + 128 * (c % 2) < 256 by omega) (show c / 2 < 256 by omega) (by decide)
  rw [sh_85 ha (by omega), sh_85 hb (by omega), ← e] at m
  unfold jb1
  rw [show (1 : Int32) = nI 1 from rfl, ush_n (by unfold by3; omega) (by decide), show (1431655765 : Int32) = nI (256 * (256 * (256 * 85 + 85) + 85) + 85) from rfl, and_n, m]
  have la := (bt_a ha).1
  have lb := (bt_a hb).1
  have lc := (bt_a hc).1
  rw [sub_n (by unfold by3; omega)]
  refine congrArg nI ?_
  unfold by3 bt1
  omega
theorem jb2_n {a b c : Nat} (ha : a < 256) (hb : b < 256) (hc : c < 256) : jb2 (nI (by3 a b c)) = nI (by3 (bt2 a) (bt2 b) (bt2 c)) := by
  have e : by3 a b c / 2 ^ 2 = by3 (a / 4 + 64 * (b % 4)) (b / 4 + 64 * (c % 4)) (c / 4) := by
    unfold by3
    omega
  have m := and_3 (M := 51) (N := 51) (show a / 4 + 64 * (b % 4) < 256 by omega) (show b / 4 + 64 * (c % 4) < 256 by omega) (show c / 4 < 256 by omega) (by decide)
  rw [sh_51 ha (by omega), sh_51 hb (by omega), ← e] at m
  have m2 := and_3 (M := 51) (N := 51) ha hb hc (by decide)
  unfold jb2
  rw [show (2 : Int32) = nI 2 from rfl, ush_n (by unfold by3; omega) (by decide), show (858993459 : Int32) = nI (256 * (256 * (256 * 51 + 51) + 51) + 51) from rfl, and_n, and_n, m, m2, nI_add]
  refine congrArg nI ?_
  unfold by3 bt2
  omega
theorem jb3_n {a b c : Nat} (ha : a < 69) (hb : b < 69) (hc : c < 69) (hb2 : b % 16 < 5) (hc2 : c % 16 < 5) : jb3 (nI (by3 a b c)) = nI (by3 (bt3 a) (bt3 b) (bt3 c)) := by
  have e : by3 a b c + by3 a b c / 2 ^ 4 = by3 (a + a / 16 + 16 * (b % 16)) (b + b / 16 + 16 * (c % 16)) (c + c / 16) := by
    unfold by3
    omega
  have m := and_3 (M := 15) (N := 15) (show a + a / 16 + 16 * (b % 16) < 256 by omega) (show b + b / 16 + 16 * (c % 16) < 256 by omega) (show c + c / 16 < 256 by omega) (by decide)
  have q : ∀ x : Nat, x &&& 15 = x % 16 := fun x => Nat.and_two_pow_sub_one_eq_mod x 4
  rw [q, q, q] at m
  unfold jb3
  rw [show (4 : Int32) = nI 4 from rfl, ush_n (by unfold by3; omega) (by decide), show (252645135 : Int32) = nI (256 * (256 * (256 * 15 + 15) + 15) + 15) from rfl, nI_add, and_n, e, m]
  refine congrArg nI ?_
  unfold by3 bt3
  omega
theorem jb45_n {a b c : Nat} (ha : a < 9) (hb : b < 9) (hc : c < 9) : jb5 (jb4 (nI (by3 a b c))) = nI (a + b + c) := by
  have q : ∀ x : Nat, x &&& 63 = x % 64 := fun x => Nat.and_two_pow_sub_one_eq_mod x 6
  unfold jb5 jb4
  rw [show (8 : Int32) = nI 8 from rfl, ush_n (by unfold by3; omega) (by decide), nI_add, show (16 : Int32) = nI 16 from rfl, ush_n (by unfold by3; omega) (by decide), nI_add, show (63 : Int32) = nI 63 from rfl, and_n, q]
  refine congrArg nI ?_
  unfold by3
  have e1 : (256 * (256 * c + b) + a) / 256 = 256 * c + b := by omega
  rw [show (2 : Nat) ^ 8 = 256 from rfl, show (2 : Nat) ^ 16 = 65536 from rfl, e1]
  have e2 : (256 * (256 * c + b) + a + (256 * c + b)) / 65536 = c := by omega
  rw [e2]
  omega
theorem pcr_add (a n : Nat) : ∀ m, pcr (a + n) m = pcr a m + pcr n (m / 2 ^ a) := by
  induction a with
  | zero =>
    intro m
    rw [Nat.zero_add, Nat.pow_zero, Nat.div_one]
    show _ = 0 + _
    omega
  | succ a ih =>
    intro m
    rw [show a + 1 + n = (a + n) + 1 by omega]
    show m % 2 + pcr (a + n) (m / 2) = m % 2 + pcr a (m / 2) + _
    rw [ih, Nat.div_div_eq_div_mul, show 2 * 2 ^ a = 2 ^ (a + 1) by rw [Nat.pow_succ, Nat.mul_comm]]
    omega
theorem pcr_low (a : Nat) : ∀ x Y, pcr a (2 ^ a * Y + x) = pcr a x := by
  induction a with
  | zero => intro x Y; rfl
  | succ a ih =>
    intro x Y
    show (2 ^ (a + 1) * Y + x) % 2 + pcr a ((2 ^ (a + 1) * Y + x) / 2) = x % 2 + pcr a (x / 2)
    have e : 2 ^ (a + 1) * Y = 2 * (2 ^ a * Y) := by rw [Nat.pow_succ, Nat.mul_comm (2 ^ a) 2, Nat.mul_assoc]
    rw [e, show (2 * (2 ^ a * Y) + x) / 2 = 2 ^ a * Y + x / 2 by omega, ih]
    omega
theorem pcr_by3 {a b c : Nat} (ha : a < 256) (hb : b < 256) (hc : c < 256) : pcr 24 (by3 a b c) = pcr 8 a + pcr 8 b + pcr 8 c := by
  unfold by3
  rw [show 24 = 8 + 16 from rfl, pcr_add, show (2 : Nat) ^ 8 = 256 from rfl, show (256 * (256 * c + b) + a) / 256 = 256 * c + b by omega, show 16 = 8 + 8 from rfl, pcr_add, show (2 : Nat) ^ 8 = 256 from rfl, show (256 * c + b) / 256 = c by omega]
  have h1 := pcr_low 8 a (256 * c + b)
  have h2 := pcr_low 8 b c
  rw [show (2 : Nat) ^ 8 = 256 from rfl] at h1 h2
  rw [h1, h2]
  omega
theorem bc_n {m : Nat} (h : m < 16777216) : J6_bitCount_0f7a4 (nI m) = nI (pcr 24 m) := by
  obtain ⟨a, b, c, ha, hb, hc, rfl⟩ : ∃ a b c, a < 256 ∧ b < 256 ∧ c < 256 ∧ m = by3 a b c := ⟨m % 256, m / 256 % 256, m / 65536, by omega, by omega, by omega, by unfold by3; omega⟩
  obtain ⟨a1, a2, a3, a4, a5, a6⟩ := bt_a ha
  obtain ⟨b1, b2, b3, b4, b5, b6⟩ := bt_a hb
  obtain ⟨c1, c2, c3, c4, c5, c6⟩ := bt_a hc
  rw [jb_all, jb1_n ha hb hc, jb2_n a2 b2 c2, jb3_n a3 b3 c3 b4 c4, a5, b5, c5, jb45_n a6 b6 c6, pcr_by3 ha hb hc]
/-- the loop that takes the lowest bit away -/
theorem pcr_0 (n : Nat) : pcr n 0 = 0 := by
  induction n with
  | zero => rfl
  | succ n ih =>
    show 0 % 2 + pcr n (0 / 2) = 0
    rw [show 0 / 2 = 0 from rfl, ih]
theorem kern (n : Nat) : ∀ s, 0 < s → s < 2 ^ n → pcr n s = pcr n (s &&& (s - 1)) + 1 ∧ s &&& (s - 1) < s := by
  induction n with
  | zero => intro s h1 h2; rw [Nat.pow_zero] at h2; omega
  | succ n ih =>
    intro s h1 h2
    have p2 : 2 ^ (n + 1) = 2 * 2 ^ n := by rw [Nat.pow_succ, Nat.mul_comm]
    rcases Nat.mod_two_eq_zero_or_one s with e | e
    · obtain ⟨t, rfl⟩ : ∃ t, s = 2 * t := ⟨s / 2, by omega⟩
      obtain ⟨i1, i2⟩ := ih t (by omega) (by omega)
      have z := and_1 (a := t) (b := t - 1) (x := 0) (y := 1) (by decide) (by decide)
      rw [show 2 * t + 0 = 2 * t from rfl, show 2 * (t - 1) + 1 = 2 * t - 1 by omega, show (0 : Nat) &&& 1 = 0 from rfl, Nat.add_zero] at z
      rw [z]
      refine ⟨?_, by omega⟩
      show (2 * t) % 2 + pcr n (2 * t / 2) = (2 * (t &&& (t - 1))) % 2 + pcr n (2 * (t &&& (t - 1)) / 2) + 1
      rw [show 2 * t / 2 = t by omega, show 2 * (t &&& (t - 1)) / 2 = t &&& (t - 1) by omega, i1]
      omega
    · obtain ⟨t, rfl⟩ : ∃ t, s = 2 * t + 1 := ⟨s / 2, by omega⟩
      have z := and_1 (a := t) (b := t) (x := 1) (y := 0) (by decide) (by decide)
      rw [Nat.and_self, show (1 : Nat) &&& 0 = 0 from rfl] at z
      rw [show 2 * t + 1 - 1 = 2 * t + 0 by omega, z]
      refine ⟨?_, by omega⟩
      show (2 * t + 1) % 2 + pcr n ((2 * t + 1) / 2) = (2 * t + 0) % 2 + pcr n ((2 * t + 0) / 2) + 1
      rw [show (2 * t + 1) / 2 = t by omega, show (2 * t + 0) / 2 = t by omega]
      omega
theorem lm_bits : ∀ (d s k n : Nat), pcr 24 s = d → s < 16777216 → d < n → k + d < 2147483648 → X4_bits_L4 n (nI k) (nI s) = some (nI (k + d)) := by
  intro d
  induction d with
  | zero =>
    intro s k n h1 h2 h3 h4
    obtain ⟨n, rfl⟩ : ∃ m, n = m + 1 := ⟨n - 1, by omega⟩
    unfold X4_bits_L4
    have : s = 0 := by
      rcases Nat.eq_zero_or_pos s with q | q
      · exact q
      · have := (kern 24 s q h2).1
        omega
    subst this
    rw [if_pos (show nI 0 = 0 from rfl)]
    rfl
  | succ d ih =>
    intro s k n h1 h2 h3 h4
    obtain ⟨n, rfl⟩ : ∃ m, n = m + 1 := ⟨n - 1, by omega⟩
    unfold X4_bits_L4
    have s0 : 0 < s := by
      rcases Nat.eq_zero_or_pos s with q | q
      · subst q
        rw [pcr_0] at h1
        omega
      · exact q
    obtain ⟨i1, i2⟩ := kern 24 s s0 h2
    rw [if_neg (show ¬ nI s = 0 from eqN (b := 0) (by omega) (by omega) (by decide)), show (1 : Int32) = nI 1 from rfl, sub_n (b := 1) s0, and_n, nI_add, ih _ _ n (by omega) (by omega) (by omega) (by omega)]
    refine congrArg some (congrArg nI ?_)
    omega
theorem pcr_le (n : Nat) : ∀ m, pcr n m ≤ n := by
  induction n with
  | zero => intro m; exact Nat.le_refl 0
  | succ n ih =>
    intro m
    show m % 2 + pcr n (m / 2) ≤ n + 1
    have := ih (m / 2)
    omega
theorem X4_bits_n {s : Nat} (h : s < 16777216) : X4_bits (nI s) = some (nI (pcr 24 s)) := by
  have := lm_bits (pcr 24 s) s 0 FU rfl h (Nat.lt_of_le_of_lt (pcr_le 24 s) (by decide)) (by have := pcr_le 24 s; omega)
  rw [Nat.zero_add] at this
  exact this
