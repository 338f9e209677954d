/-! PURE 2: the spec, over numbers; both sides are held against it -/
def WEI (k : Nat) : Nat := [1, 2, 5, 3, 5, 1, 3].getD k 1
def WOR (k : Nat) : Nat := [1, 2, 50, 5, 25, 0, 0].getD k 0
def SLI (k : Nat) : Nat := [1, 1, 0, 1, 1, 1, 0].getD k 0
theorem stC1 {k : Nat} (h : k < 7) : stC 1 k = nI (WOR k) := by
  have key : ∀ k, k < 7 → stC 1 k = nI (WOR k) := by decide +kernel
  exact key k h
theorem stC2 {k : Nat} (h : k < 7) : stC 2 k = nI (WEI k) := by
  have key : ∀ k, k < 7 → stC 2 k = nI (WEI k) := by decide +kernel
  exact key k h
theorem stC3 {k : Nat} (h : k < 7) : stC 3 k = nI (SLI k) := by
  have key : ∀ k, k < 7 → stC 3 k = nI (SLI k) := by decide +kernel
  exact key k h
theorem WEI_pos (k : Nat) : 1 ≤ WEI k ∧ WEI k ≤ 5 := by
  match k with
  | 0 => decide
  | 1 => decide
  | 2 => decide
  | 3 => decide
  | 4 => decide
  | 5 => decide
  | 6 => decide
  | k + 7 => exact ⟨Nat.le_refl 1, by show 1 ≤ 5; decide⟩
theorem WOR_le (k : Nat) : WOR k ≤ 50 := by
  match k with
  | 0 => decide
  | 1 => decide
  | 2 => decide
  | 3 => decide
  | 4 => decide
  | 5 => decide
  | 6 => decide
  | k + 7 => exact Nat.zero_le _
/-- what holds of a shelf: coins, kinds, places, stacks and places the same, settings, spots -/
def IA (A : AS) : Prop :=
  (A 0 6 ≤ 24 ∧ (∀ c, c < A 0 6 → A 1 c < 7) ∧ (∀ c, c < A 0 6 → A 2 c < 42 ∨ A 2 c = 100 ∨ A 2 c = 101 ∨ A 2 c = 102)) ∧
  ((∀ q, q < 42 → A 3 q ≤ 4) ∧ (∀ q i, q < 42 → i < A 3 q → A 4 (q * 4 + i) < A 0 6 ∧ A 2 (A 4 (q * 4 + i)) = q) ∧
    (∀ q i j, q < 42 → i < j → j < A 3 q → A 4 (q * 4 + i) ≠ A 4 (q * 4 + j)) ∧ (∀ c, c < A 0 6 → A 2 c < 42 → ∃ i, i < A 3 (A 2 c) ∧ A 4 (A 2 c * 4 + i) = c)) ∧
  (A 5 0 ≤ 60 ∧ 1 ≤ A 5 1 ∧ A 5 1 ≤ 6 ∧ A 5 2 ≤ 3) ∧ (∀ i, i < 10 → A 6 i = 4294967295 ∨ A 6 i < A 0 6)
/-! single moves -/
def pullA (A : AS) (q : Nat) : AS := u2 (u2 A 3 q (A 3 q - 1)) 2 (A 4 (q * 4 + (A 3 q - 1))) 100
def topA (A : AS) (q : Nat) : Nat := A 4 (q * 4 + (A 3 q - 1))
def goA (A : AS) (c col : Nat) : AS := u2 A 2 c (if col < A 5 2 ∨ 7 - A 5 2 ≤ col then 102 else 101)
def slideA (A : AS) (q : Nat) : AS := if q % 6 = 5 then goA (pullA A q) (topA A q) (q / 6) else putA (pullA A q) (topA A q) (q + 1)
def nxA (A : AS) (q : Nat) : Nat := if q % 6 = 5 then 0 else A 3 (q + 1)
def leanA (A : AS) (q : Nat) : Bool := decide (nxA A q + 3 ≤ A 3 q) && decide (SLI (A 1 (topA A q)) = 1)

def rnA (A : AS) (c : Nat) : Nat → Nat → Nat
  | 0, r => r
  | n + 1, r => if A 3 (c * 6 + r) = 0 then r else rnA A c n (r + 1)
def wsA (A : AS) (q : Nat) : Nat → Nat → Nat → Nat
  | 0, _, w => w
  | n + 1, k, w => wsA A q n (k + 1) (w + WEI (A 1 (A 4 (q * 4 + k))))
def wcA (A : AS) (c : Nat) : Nat → Nat → Nat → Nat
  | 0, _, w => w
  | n + 1, r, w => if A 3 (c * 6 + r) = 0 then w else wcA A c n (r + 1) (wsA A (c * 6 + r) (A 3 (c * 6 + r)) 0 w)
def pmA (A : AS) (c : Nat) : Bool := decide (0 < wcA A c 6 0 0) && decide (wcA A c 6 0 0 ≤ A 5 0)
def mvF (c row : Nat) : Nat → Nat → AS → AS
  | 0, _, A => A
  | n + 1, k, A => mvF c row n (k + 1) (if row = 5 then goA A (A 4 ((c * 6 + row) * 4 + k)) c else putA A (A 4 ((c * 6 + row) * 4 + k)) (c * 6 + row + 1))
def mvA (A : AS) (c row : Nat) : AS := u2 (mvF c row (A 3 (c * 6 + row)) 0 A) 3 (c * 6 + row) 0
abbrev TS : Type := AS × Nat × Nat
def gnT (T : TS) (c row : Nat) : TS := (mvA T.1 c row, T.2.1 + (if row = 5 then T.1 3 (c * 6 + row) else 0), T.2.2 + T.1 3 (c * 6 + row))
def prT (c : Nat) : Nat → TS → TS
  | 0, T => T
  | n + 1, T => prT c n (gnT T c n)
def paT : Nat → Nat → TS → TS
  | 0, _, T => T
  | n + 1, c, T => paT n (c + 1) (if pmA T.1 c then prT c (rnA T.1 c 6 0) T else T)
def slT (T : TS) (q : Nat) : TS := (slideA T.1 q, T.2.1 + (if q % 6 = 5 then 1 else 0), T.2.2 + 1)
def srT (row : Nat) : Nat → Nat → TS → TS
  | 0, _, T => T
  | n + 1, c, T => srT row n (c + 1) (if leanA T.1 (c * 6 + row) then slT T (c * 6 + row) else T)
def saT : Nat → TS → TS
  | 0, T => T
  | n + 1, T => saT n (srT n 7 0 T)
def btT (T : TS) : TS := (fun U : TS => (u2 U.1 0 7 (U.1 0 7 + 1), U.2.1, U.2.2)) (saT 6 (if T.1 0 7 % T.1 5 1 = 0 then paT 7 0 T else T))
def bnT : Nat → TS → TS
  | 0, T => T
  | n + 1, T => bnT n (btT T)
/-! drops -/
def fcA (A : AS) (p : Nat) : Nat → Nat → Nat
  | 0, c => c
  | n + 1, c => if A 3 (c * 6 + p) = 4 then fcA A p n (c + 1) else c
def dpA (A : AS) (c col : Nat) : AS := (fun B : AS => if fcA A (A 0 7 % 2) (7 - col) col = 7 then u2 B 2 c 102 else putA B c (fcA A (A 0 7 % 2) (7 - col) col * 6 + A 0 7 % 2)) (u2 A 0 8 (A 0 8 + 1))
def dpT (T : TS) (c col : Nat) : TS := btT (dpA T.1 c col, T.2.1, T.2.2)
/-! sets and sums -/
def mkP (f : Nat → Bool) : Nat → Nat → Nat → Nat
  | 0, _, b => b
  | n + 1, c, b => mkP f n (c + 1) (if f c then b ||| 2 ^ c else b)
def woA (A : AS) (s : Nat) : Nat → Nat → Nat → Nat
  | 0, _, w => w
  | n + 1, c, w => woA A s n (c + 1) (if s.testBit c then w + WOR (A 1 c) else w)
def msk (A : AS) (p : Nat) : Nat := mkP (fun c => decide (A 2 c = p)) (A 0 6) 0 0
def shm (A : AS) : Nat := mkP (fun c => decide (A 2 c < 42)) (A 0 6) 0 0
def wot (A : AS) (s : Nat) : Nat := woA A s (A 0 6) 0 0
def gI (A : AS) : Int32 := nI (wot A (msk A 101)) - nI (A 0 8)
def pcr : Nat → Nat → Nat
  | 0, _ => 0
  | n + 1, m => m % 2 + pcr n (m / 2)
def lhA (A : AS) : Nat → Nat → Nat
  | 0, c => c
  | n + 1, c => if A 2 c = 100 then c else lhA A n (c + 1)
def lih (A : AS) : Nat := lhA A (A 0 6) 0
