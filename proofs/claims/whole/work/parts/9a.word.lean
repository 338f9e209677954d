/-! PURE 50: words -/
def wln (w : Nat) : Nat := skL.getD w 0
def wch (w i : Nat) : Int32 := (skB.getD w []).getD i 0
def chF (T : Nat → Nat) (s w : Nat) : Nat → Nat → Bool
  | 0, _ => true
  | d + 1, i => if nI (T (s + i)) = wch w i then chF T s w d (i + 1) else false
def iwF (T : Nat → Nat) (L p w : Nat) : Bool := decide (tkK T L p = 1) && (decide (tkE T L p - tkS T L p = wln w) && chF T (tkS T L p) w (wln w) 0)
theorem wln_le {w : Nat} (h : w < 11) : 2 ≤ wln w ∧ wln w ≤ 6 := by
  have key : ∀ w, w < 11 → 2 ≤ wln w ∧ wln w ≤ 6 := by decide
  exact key w h
theorem jln (w : Nat) : J0_length w = nI (wln w) := rfl
theorem jch {w i : Nat} (hw : w < 11) (h : i < wln w) : J0_charAt w (nI i) = some (wch w i) := by
  have := wln_le hw
  unfold J0_charAt
  exact rdc_n (show i < skL.getD w 0 from h) (show skL.getD w 0 < 2147483648 from Nat.lt_of_le_of_lt this.2 (by decide))
theorem lx_ch {T : Nat → Nat} {L s w : Nat} (hL : L ≤ 120) (hw : w < 11) {S : St} (hb : BX S T L) (h3 : S 0 3 = nI s) (hs : s + wln w ≤ L) : ∀ (d i n : Nat), i + d = wln w → d < n → X2_isWord_L28 w n (nI i) S = some (nI (if chF T s w d i = true then 1 else 0)) := by
  intro d
  induction d with
  | zero =>
    intro i n h1 h2
    obtain ⟨n, rfl⟩ : ∃ k, n = k + 1 := ⟨n - 1, by omega⟩
    unfold X2_isWord_L28 chF
    rw [jln, if_pos (leY (by omega) (by omega)), if_pos rfl]
    rfl
  | succ d ih =>
    intro i n h1 h2
    obtain ⟨n, rfl⟩ : ∃ k, n = k + 1 := ⟨n - 1, by omega⟩
    unfold X2_isWord_L28 chF
    rw [jln, if_neg (leN (by omega) (by omega)), h3, nI_add, rd_i (show s + i < 120 by omega) (by decide), bd_some, hb.2 _ (by omega), jch hw (by omega), bd_some, show nI i + 1 = nI (i + 1) from (nI_succ i).symm]
    by_cases e : nI (T (s + i)) = wch w i
    · rw [if_pos e, if_pos e]
      exact ih (i + 1) n (by omega) (by omega)
    · rw [if_neg e, if_neg e, if_neg Bool.false_ne_true]
      rfl
theorem X2_isWord_n {T : Nat → Nat} {L p w : Nat} (hL : L ≤ 120) (hp : p ≤ L) (hw : w < 11) {S : St} (hk : KX S T L p) : X2_isWord w S = some (nI (if iwF T L p w = true then 1 else 0)) := by
  obtain ⟨hb, k2, k3, k4, k5⟩ := hk
  obtain ⟨t1, t2, t3, t4, t5, t6, t7⟩ := tk_le T hp
  have wl := wln_le hw
  unfold X2_isWord iwF
  rw [k2, k4, k3, jln, sub_n t3]
  by_cases e : tkK T L p = 1
  · rw [if_pos (show nI (tkK T L p) = 1 from congrArg nI e), decide_eq_true e, Bool.true_and]
    by_cases e2 : tkE T L p - tkS T L p = wln w
    · rw [if_pos (congrArg nI e2), decide_eq_true e2, Bool.true_and]
      exact lx_ch hL hw hb k3 (by omega) (wln w) 0 FU (Nat.zero_add _) (Nat.lt_of_le_of_lt wl.2 (by decide))
    · rw [if_neg (eqN e2 (by omega) (by omega)), decide_eq_false e2, Bool.false_and, if_neg Bool.false_ne_true]
      rfl
  · rw [if_neg (show ¬ nI (tkK T L p) = 1 from eqN (b := 1) e (by omega) (by decide)), decide_eq_false e, Bool.false_and, if_neg Bool.false_ne_true]
    rfl
theorem l32_0 (w n : Nat) (b : Int32) (S : St) : X4_isWord_L32 w (n + 1) 0 b S = some 0 := by
  unfold X4_isWord_L32
  rw [show bl 0 = some 0 from rfl, bd_some]
  by_cases e : J0_length w ≤ b
  · rw [if_pos e]
  · rw [if_neg e, if_pos rfl]
theorem lm_ch {T : Nat → Nat} {L s w : Nat} (hL : L ≤ 120) (hw : w < 11) {m : St} (U : TS) (hb : BM m T L) (h3 : m 0 12 = nI s) (hs : s + wln w ≤ L) : ∀ (d i n : Nat), i + d = wln w → d + 1 < n → X4_isWord_L32 w n 1 (nI i) (mst m U) = some (nI (if chF T s w d i = true then 1 else 0)) := by
  intro d
  induction d with
  | zero =>
    intro i n h1 h2
    obtain ⟨n, rfl⟩ : ∃ k, n = k + 1 := ⟨n - 1, by omega⟩
    unfold X4_isWord_L32 chF
    rw [jln, if_pos (leY (by omega) (by omega)), if_pos rfl, show bl 1 = some 1 from rfl, bd_some]
    rfl
  | succ d ih =>
    intro i n h1 h2
    obtain ⟨n, rfl⟩ : ∃ k, n = k + 2 := ⟨n - 2, by omega⟩
    unfold X4_isWord_L32 chF
    rw [jln, if_neg (leN (by omega) (by omega)), if_neg (show ¬ (1 : Int32) = 0 by decide), show mst m U 0 12 = nI s from h3, nI_add, rd_i (show s + i < 120 by omega) (by decide), bd_some, mst_k _ _ (by decide), hb.2 _ (by omega), jch hw (by omega), bd_some, show nI i + 1 = nI (i + 1) from (nI_succ i).symm]
    by_cases e : nI (T (s + i)) = wch w i
    · rw [if_pos e, if_pos e]
      exact ih (i + 1) (n + 1) (by omega) (by omega)
    · rw [if_neg e, if_neg e, if_neg Bool.false_ne_true, l32_0]
      rfl
theorem X4_isWord_n {T : Nat → Nat} {L p w : Nat} (hL : L ≤ 120) (hp : p ≤ L) (hw : w < 11) {m : St} (U : TS) (hk : KM m T L p) : X4_isWord w (mst m U) = some (nI (if iwF T L p w = true then 1 else 0)) := by
  obtain ⟨hb, k2, k3, k4, k5⟩ := hk
  obtain ⟨t1, t2, t3, t4, t5, t6, t7⟩ := tk_le T hp
  have wl := wln_le hw
  have z : X4_isWord_L32 w FU 0 0 (mst m U) = some 0 := l32_0 w 999 0 _
  unfold X4_isWord iwF
  rw [show mst m U 0 14 = nI (if tkK T L p = 4 then 3 else tkK T L p) from k4, show mst m U 0 13 = nI (tkE T L p) from k3, show mst m U 0 12 = nI (tkS T L p) from k2, jln, sub_n t3, z]
  by_cases e : tkK T L p = 1
  · rw [if_neg (show ¬ tkK T L p = 4 by omega), if_pos (show nI (tkK T L p) = 1 from congrArg nI e), decide_eq_true e, Bool.true_and]
    by_cases e2 : tkE T L p - tkS T L p = wln w
    · rw [if_pos (congrArg nI e2), decide_eq_true e2, Bool.true_and]
      exact lm_ch hL hw U hb k2 (by omega) (wln w) 0 FU (Nat.zero_add _) (Nat.lt_of_le_of_lt (show wln w + 1 ≤ 7 by omega) (by decide))
    · rw [if_neg (eqN e2 (by omega) (by omega)), decide_eq_false e2, Bool.false_and, if_neg Bool.false_ne_true]
      rfl
  · rw [if_neg (show ¬ nI (if tkK T L p = 4 then 3 else tkK T L p) = 1 from eqN (b := 1) (by split <;> omega) (by split <;> omega) (by decide)), decide_eq_false e, Bool.false_and, if_neg Bool.false_ne_true]
    rfl
theorem ch_at {T : Nat → Nat} {s w : Nat} : ∀ d i, chF T s w d i = true → ∀ j, i ≤ j → j < i + d → nI (T (s + j)) = wch w j := by
  intro d
  induction d with
  | zero => intro i _ j h1 h2; omega
  | succ d ih =>
    intro i h j h1 h2
    unfold chF at h
    by_cases e : nI (T (s + i)) = wch w i
    · rw [if_pos e] at h
      by_cases q : j = i
      · rw [q]
        exact e
      · exact ih (i + 1) h j (by omega) (by omega)
    · rw [if_neg e] at h
      exact absurd h Bool.false_ne_true
/-- a token is one word at most -/
theorem iw_one {T : Nat → Nat} {L p w w2 : Nat} (hw : w < 11) (hw2 : w2 < 11) (h : iwF T L p w = true) (h2 : iwF T L p w2 = true) : w = w2 := by
  unfold iwF at h h2
  rw [Bool.and_eq_true, Bool.and_eq_true, decide_eq_true_eq, decide_eq_true_eq] at h h2
  have l : wln w = wln w2 := h.2.1.symm.trans h2.2.1
  have c : ∀ j, j < wln w → wch w j = wch w2 j := fun j hj => (ch_at _ _ h.2.2 j (Nat.zero_le _) (by omega)).symm.trans (ch_at _ _ h2.2.2 j (Nat.zero_le _) (by omega))
  have key : ∀ w, w < 11 → ∀ w2, w2 < 11 → wln w = wln w2 → (∀ j, j < wln w → wch w j = wch w2 j) → w = w2 := by decide +kernel
  exact key w hw w2 hw2 l c
theorem iw_K {T : Nat → Nat} {L p w : Nat} (h : iwF T L p w = true) : tkK T L p = 1 := by
  unfold iwF at h
  rw [Bool.and_eq_true, decide_eq_true_eq] at h
  exact h.1
/-- which word of a list, the last that fits -/
def wlF (f : Nat → Bool) : Nat → Nat → Int32 → Int32
  | 0, _, a => a
  | d + 1, i, a => wlF f d (i + 1) (if f i = true then nI i else a)
theorem wl_no (f : Nat → Bool) : ∀ d i a, (∀ j, i ≤ j → j < i + d → f j = false) → wlF f d i a = a := by
  intro d
  induction d with
  | zero => intro i a _; rfl
  | succ d ih =>
    intro i a h
    unfold wlF
    rw [h i (Nat.le_refl i) (by omega), if_neg Bool.false_ne_true]
    exact ih (i + 1) a (fun j h1 h2 => h j (by omega) (by omega))
theorem wl_one (f : Nat → Bool) {k : Nat} (hk : f k = true) : ∀ d i a, i ≤ k → k < i + d → (∀ j, i ≤ j → j < i + d → f j = true → j = k) → wlF f d i a = nI k := by
  intro d
  induction d with
  | zero => intro i a h1 h2 _; omega
  | succ d ih =>
    intro i a h1 h2 h
    unfold wlF
    by_cases e : i = k
    · subst e
      rw [if_pos hk]
      refine wl_no f d (i + 1) _ (fun j j1 j2 => ?_)
      rw [← Bool.not_eq_true]
      exact fun z => absurd (h j (by omega) (by omega) z) (by omega)
    · rw [if_neg (fun z => e (h i (Nat.le_refl i) (by omega) z))]
      exact ih (i + 1) a (by omega) (by omega) (fun j j1 j2 => h j (by omega) (by omega))
theorem lm_which {T : Nat → Nat} {L p q : Nat} (hq : q = 6 ∨ q = 7) (hL : L ≤ 120) (hp : p ≤ L) {m : St} (U : TS) (hk : KM m T L p) : ∀ (d i n : Nat) (a : Int32), i + d = alM q → d < n → X4_which_L4 q n a (nI i) (mst m U) = some (wlF (fun i => iwF T L p (stb q i)) d i a) := by
  have hn : alM q ≤ 7 := by
    rcases hq with rfl | rfl <;> decide
  have key : ∀ i, i < alM q → rdn (alM q) (stb q) (nI i) = some (stb q i) ∧ stb q i < 11 := by
    rcases hq with rfl | rfl
    · have k : ∀ i, i < 7 → rdn 7 (stb 6) (nI i) = some (stb 6 i) ∧ stb 6 i < 11 := by decide +kernel
      exact k
    · have k : ∀ i, i < 3 → rdn 3 (stb 7) (nI i) = some (stb 7 i) ∧ stb 7 i < 11 := by decide +kernel
      exact k
  intro d
  induction d with
  | zero =>
    intro i n a h1 h2
    obtain ⟨n, rfl⟩ : ∃ k, n = k + 1 := ⟨n - 1, by omega⟩
    unfold X4_which_L4
    rw [if_pos (leY (by omega) (by omega))]
    rfl
  | succ d ih =>
    intro i n a h1 h2
    obtain ⟨n, rfl⟩ : ∃ k, n = k + 1 := ⟨n - 1, by omega⟩
    obtain ⟨e1, e2⟩ := key i (by omega)
    unfold X4_which_L4 wlF
    rw [if_neg (leN (by omega) (by omega)), e1, bd_some, X4_isWord_n hL hp e2 U hk, bd_some, show nI i + 1 = nI (i + 1) from (nI_succ i).symm]
    by_cases e : iwF T L p (stb q i) = true
    · rw [if_pos e, if_neg (show ¬ nI 1 = 0 by decide), if_pos e]
      exact ih (i + 1) n _ (by omega) (by omega)
    · rw [if_neg e, if_pos (show nI 0 = 0 from rfl), if_neg e]
      exact ih (i + 1) n _ (by omega) (by omega)
theorem wh_no {T : Nat → Nat} {L p q : Nat} (hq : q = 6 ∨ q = 7) (hL : L ≤ 120) (hp : p ≤ L) {m : St} (U : TS) (hk : KM m T L p) (h : ∀ i, i < alM q → iwF T L p (stb q i) = false) : X4_which q (mst m U) = some (-1) := by
  have hn : alM q < FU := by
    rcases hq with rfl | rfl <;> decide
  have z := lm_which hq hL hp U hk (alM q) 0 FU (-1) (Nat.zero_add _) hn
  rw [wl_no _ _ _ _ (fun j _ hj => h j (by omega))] at z
  exact z
theorem wh_one {T : Nat → Nat} {L p q k : Nat} (hq : q = 6 ∨ q = 7) (hL : L ≤ 120) (hp : p ≤ L) {m : St} (U : TS) (hk : KM m T L p) (h1 : k < alM q) (h : iwF T L p (stb q k) = true) : X4_which q (mst m U) = some (nI k) := by
  have hn : alM q < FU := by
    rcases hq with rfl | rfl <;> decide
  have z := lm_which hq hL hp U hk (alM q) 0 FU (-1) (Nat.zero_add _) hn
  rw [wl_one (fun i => iwF T L p (stb q i)) (k := k) h _ _ _ (Nat.zero_le _) (by omega) (fun j _ hj hf => ?_)] at z
  · exact z
  · have b : ∀ i, i < alM q → stb q i < 11 := by
      rcases hq with rfl | rfl
      · have k : ∀ i, i < 7 → stb 6 i < 11 := by decide
        exact k
      · have k : ∀ i, i < 3 → stb 7 i < 11 := by decide
        exact k
    have e : stb q j = stb q k := iw_one (b j (by omega)) (b k h1) hf h
    unfold stb at e
    split at e <;> omega
/-! the class looks for its words -/
theorem kw_n {k : Nat} (h : k < 7) : X3_kindWord (nI k) = k ∧ gst k = some k := by
  have key : ∀ k, k < 7 → X3_kindWord (nI k) = k ∧ gst k = some k := by decide +kernel
  exact key k h
theorem sw_n {k : Nat} (h : k < 3) : X3_settingWord (nI k) = 7 + k ∧ gst (7 + k) = some (7 + k) := by
  have key : ∀ k, k < 3 → X3_settingWord (nI k) = 7 + k ∧ gst (7 + k) = some (7 + k) := by decide +kernel
  exact key k h
theorem lx_kind {T : Nat → Nat} {L p k : Nat} (hL : L ≤ 120) (hp : p ≤ L) {y : St} (hk : KX (blk y 23) T L p) (k7 : k < 7) (hw : iwF T L p k = true) : ∀ (d i n : Nat), i + d = k → d < n → X3_readItem_L2 15 n (nI i) y = (X3_readCoin 15 (nI k) y).bind fun (r14, S15) => (bl r14).bind fun v16 => some (r14, S15) := by
  intro d
  induction d with
  | zero =>
    intro i n h1 h2
    obtain ⟨n, rfl⟩ : ∃ k, n = k + 1 := ⟨n - 1, by omega⟩
    have e : i = k := by omega
    subst e
    unfold X3_readItem_L2
    rw [if_neg (show ¬ (7 : Int32) ≤ nI i from leN (a := 7) (by omega) (by decide)), (kw_n k7).1, (kw_n k7).2, bd_some, X2_isWord_n hL hp (by omega) hk, bd_some, if_pos hw, if_neg (show ¬ nI 1 = 0 by decide)]
  | succ d ih =>
    intro i n h1 h2
    obtain ⟨n, rfl⟩ : ∃ k, n = k + 1 := ⟨n - 1, by omega⟩
    have no : ¬ iwF T L p i = true := fun z => absurd (iw_one (by omega) (by omega) z hw) (by omega)
    unfold X3_readItem_L2
    rw [if_neg (show ¬ (7 : Int32) ≤ nI i from leN (a := 7) (by omega) (by decide)), (kw_n (show i < 7 by omega)).1, (kw_n (show i < 7 by omega)).2, bd_some, X2_isWord_n hL hp (by omega) hk, bd_some, if_neg no, if_pos (show nI 0 = 0 from rfl), show nI i + 1 = nI (i + 1) from (nI_succ i).symm]
    exact ih (i + 1) n (by omega) (by omega)
theorem lx_nokind {T : Nat → Nat} {L p : Nat} (hL : L ≤ 120) (hp : p ≤ L) {y : St} (hk : KX (blk y 23) T L p) (hw : ∀ k, k < 7 → ¬ iwF T L p k = true) : ∀ (d i n : Nat), i + d = 7 → d < n → X3_readItem_L2 15 n (nI i) y = X3_readItem_L37 15 FU 0 y := by
  intro d
  induction d with
  | zero =>
    intro i n h1 h2
    obtain ⟨n, rfl⟩ : ∃ k, n = k + 1 := ⟨n - 1, by omega⟩
    unfold X3_readItem_L2
    rw [if_pos (show (7 : Int32) ≤ nI i from leY (a := 7) (by omega) (by omega))]
  | succ d ih =>
    intro i n h1 h2
    obtain ⟨n, rfl⟩ : ∃ k, n = k + 1 := ⟨n - 1, by omega⟩
    unfold X3_readItem_L2
    rw [if_neg (show ¬ (7 : Int32) ≤ nI i from leN (a := 7) (by omega) (by decide)), (kw_n (show i < 7 by omega)).1, (kw_n (show i < 7 by omega)).2, bd_some, X2_isWord_n hL hp (by omega) hk, bd_some, if_neg (hw i (by omega)), if_pos (show nI 0 = 0 from rfl), show nI i + 1 = nI (i + 1) from (nI_succ i).symm]
    exact ih (i + 1) n (by omega) (by omega)
theorem lx_set {T : Nat → Nat} {L p k : Nat} (hL : L ≤ 120) (hp : p ≤ L) {y : St} (hk : KX (blk y 23) T L p) (k3 : k < 3) (hw : iwF T L p (7 + k) = true) : ∀ (d i n : Nat), i + d = k → d < n → X3_readItem_L37 15 n (nI i) y = (X3_readSetting 15 (nI k) y).bind fun (r7, S8) => (bl r7).bind fun v9 => some (r7, S8) := by
  intro d
  induction d with
  | zero =>
    intro i n h1 h2
    obtain ⟨n, rfl⟩ : ∃ k, n = k + 1 := ⟨n - 1, by omega⟩
    have e : i = k := by omega
    subst e
    unfold X3_readItem_L37
    rw [if_neg (show ¬ (3 : Int32) ≤ nI i from leN (a := 3) (by omega) (by decide)), (sw_n k3).1, (sw_n k3).2, bd_some, X2_isWord_n hL hp (by omega) hk, bd_some, if_pos hw, if_neg (show ¬ nI 1 = 0 by decide)]
  | succ d ih =>
    intro i n h1 h2
    obtain ⟨n, rfl⟩ : ∃ k, n = k + 1 := ⟨n - 1, by omega⟩
    have no : ¬ iwF T L p (7 + i) = true := fun z => absurd (iw_one (by omega) (by omega) z hw) (by omega)
    unfold X3_readItem_L37
    rw [if_neg (show ¬ (3 : Int32) ≤ nI i from leN (a := 3) (by omega) (by decide)), (sw_n (show i < 3 by omega)).1, (sw_n (show i < 3 by omega)).2, bd_some, X2_isWord_n hL hp (by omega) hk, bd_some, if_neg no, if_pos (show nI 0 = 0 from rfl), show nI i + 1 = nI (i + 1) from (nI_succ i).symm]
    exact ih (i + 1) n (by omega) (by omega)
theorem lx_noset {T : Nat → Nat} {L p : Nat} (hL : L ≤ 120) (hp : p ≤ L) {y : St} (hk : KX (blk y 23) T L p) (hw : ∀ k, k < 3 → ¬ iwF T L p (7 + k) = true) : ∀ (d i n : Nat), i + d = 3 → d < n → X3_readItem_L37 15 n (nI i) y = some (0, y) := by
  intro d
  induction d with
  | zero =>
    intro i n h1 h2
    obtain ⟨n, rfl⟩ : ∃ k, n = k + 1 := ⟨n - 1, by omega⟩
    unfold X3_readItem_L37
    rw [if_pos (show (3 : Int32) ≤ nI i from leY (a := 3) (by omega) (by omega))]
  | succ d ih =>
    intro i n h1 h2
    obtain ⟨n, rfl⟩ : ∃ k, n = k + 1 := ⟨n - 1, by omega⟩
    unfold X3_readItem_L37
    rw [if_neg (show ¬ (3 : Int32) ≤ nI i from leN (a := 3) (by omega) (by decide)), (sw_n (show i < 3 by omega)).1, (sw_n (show i < 3 by omega)).2, bd_some, X2_isWord_n hL hp (by omega) hk, bd_some, if_neg (hw i (by omega)), if_pos (show nI 0 = 0 from rfl), show nI i + 1 = nI (i + 1) from (nI_succ i).symm]
    exact ih (i + 1) n (by omega) (by omega)
