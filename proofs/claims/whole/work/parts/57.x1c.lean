/-! PURE 7: rows that a beat leaves, the beat, still shelves -/
theorem mvA_r {A : AS} {c row : Nat} {k : Nat} (h2 : k ≠ 2) (h3 : k ≠ 3) (h4 : k ≠ 4) : mvA A c row k = A k := by
  have key : ∀ (d i : Nat) (B : AS), mvF c row d i B k = B k := by
    intro d
    induction d with
    | zero => intro i B; rfl
    | succ d ih =>
      intro i B
      unfold mvF
      rw [ih]
      split
      · rw [goA_r _ _ _ h2]
      · rw [putA_r _ _ _ h2 h3 h4]
  unfold mvA
  rw [u2_row _ _ _ h3, key]
theorem slideA_r {A : AS} {q : Nat} {k : Nat} (h2 : k ≠ 2) (h3 : k ≠ 3) (h4 : k ≠ 4) : slideA A q k = A k := by
  unfold slideA
  split
  · rw [goA_r _ _ _ h2, pullA_r _ _ h2 h3]
  · rw [putA_r _ _ _ h2 h3 h4, pullA_r _ _ h2 h3]
theorem prT_r {c k : Nat} (h2 : k ≠ 2) (h3 : k ≠ 3) (h4 : k ≠ 4) : ∀ (d : Nat) (T : TS), (prT c d T).1 k = T.1 k := by
  intro d
  induction d with
  | zero => intro T; rfl
  | succ d ih =>
    intro T
    unfold prT
    rw [ih]
    exact mvA_r h2 h3 h4
theorem paT_r {k : Nat} (h2 : k ≠ 2) (h3 : k ≠ 3) (h4 : k ≠ 4) : ∀ (d c : Nat) (T : TS), (paT d c T).1 k = T.1 k := by
  intro d
  induction d with
  | zero => intro c T; rfl
  | succ d ih =>
    intro c T
    unfold paT
    rw [ih]
    split
    · exact prT_r h2 h3 h4 _ T
    · rfl
theorem srT_r {row k : Nat} (h2 : k ≠ 2) (h3 : k ≠ 3) (h4 : k ≠ 4) : ∀ (d c : Nat) (T : TS), (srT row d c T).1 k = T.1 k := by
  intro d
  induction d with
  | zero => intro c T; rfl
  | succ d ih =>
    intro c T
    unfold srT
    rw [ih]
    split
    · exact slideA_r h2 h3 h4
    · rfl
theorem saT_r {k : Nat} (h2 : k ≠ 2) (h3 : k ≠ 3) (h4 : k ≠ 4) : ∀ (d : Nat) (T : TS), (saT d T).1 k = T.1 k := by
  intro d
  induction d with
  | zero => intro T; rfl
  | succ d ih =>
    intro T
    unfold saT
    rw [ih, srT_r h2 h3 h4]
def btU (T : TS) : TS := saT 6 (if T.1 0 7 % T.1 5 1 = 0 then paT 7 0 T else T)
theorem btT_eq (T : TS) : btT T = (u2 (btU T).1 0 7 ((btU T).1 0 7 + 1), (btU T).2.1, (btU T).2.2) := by
  unfold btT btU
  dsimp only
theorem btU_IA {T : TS} (h : IA T.1) : IA (btU T).1 ∧ T.2.1 ≤ (btU T).2.1 ∧ T.2.2 ≤ (btU T).2.2 := by
  unfold btU
  split
  · have h1 := paT_IA 7 0 T rfl h
    have h2 := saT_IA 6 _ (by decide) h1.1
    exact ⟨h2.1, by omega, by omega⟩
  · exact saT_IA 6 T (by decide) h
theorem btU_r {k : Nat} (h2 : k ≠ 2) (h3 : k ≠ 3) (h4 : k ≠ 4) (T : TS) : (btU T).1 k = T.1 k := by
  unfold btU
  rw [saT_r h2 h3 h4]
  split
  · exact paT_r h2 h3 h4 7 0 T
  · rfl
theorem IA_u0 {A : AS} (h : IA A) {j v : Nat} (hj : j ≠ 6) : IA (u2 A 0 j v) := by
  unfold IA
  rw [u2_row _ _ _ (show (1 : Nat) ≠ 0 by decide), u2_row _ _ _ (show (2 : Nat) ≠ 0 by decide), u2_row _ _ _ (show (3 : Nat) ≠ 0 by decide), u2_row _ _ _ (show (4 : Nat) ≠ 0 by decide), u2_row _ _ _ (show (5 : Nat) ≠ 0 by decide), u2_row _ _ _ (show (6 : Nat) ≠ 0 by decide), u2_ne _ _ (fun z => hj z.2.symm)]
  exact h
theorem btT_IA {T : TS} (h : IA T.1) : IA (btT T).1 ∧ T.2.1 ≤ (btT T).2.1 ∧ T.2.2 ≤ (btT T).2.2 := by
  obtain ⟨h1, h2, h3⟩ := btU_IA h
  rw [btT_eq]
  dsimp only
  exact ⟨IA_u0 h1 (by decide), h2, h3⟩
theorem btT_beat (T : TS) : (btT T).1 0 7 = T.1 0 7 + 1 := by
  rw [btT_eq]
  show u2 (btU T).1 0 7 ((btU T).1 0 7 + 1) 0 7 = _
  rw [u2_eq, btU_r (by decide) (by decide) (by decide)]
theorem btT_0 (T : TS) {j : Nat} (hj : j ≠ 7) : (btT T).1 0 j = T.1 0 j := by
  rw [btT_eq]
  show u2 (btU T).1 0 7 ((btU T).1 0 7 + 1) 0 j = _
  rw [u2_ne _ _ (fun z => hj z.2), btU_r (by decide) (by decide) (by decide)]
theorem btT_r (T : TS) {k : Nat} (h0 : k ≠ 0) (h2 : k ≠ 2) (h3 : k ≠ 3) (h4 : k ≠ 4) : (btT T).1 k = T.1 k := by
  rw [btT_eq]
  show u2 (btU T).1 0 7 ((btU T).1 0 7 + 1) k = _
  rw [u2_row _ _ _ h0, btU_r h2 h3 h4]
theorem X1_passBeat_n {T : TS} (h : IA T.1) (hb : T.1 0 7 < 1000000) : X1_passBeat (rp T.1) = some (nI (if T.2.2 < (btT T).2.2 then 1 else 0), rp (btT T).1) := by
  have h1 := ia_set h
  have key : ∀ (U : TS) (t0 : Nat), IA U.1 → t0 < 2 → X1_passBeat_L32 (nI t0) (rp U.1) = some (nI (if t0 = 1 ∨ U.2.2 < (saT 6 U).2.2 then 1 else 0), rp (u2 (saT 6 U).1 0 7 ((saT 6 U).1 0 7 + 1))) := by
    intro U t0 hU ht
    unfold X1_passBeat_L32
    rw [X1_slideAll_n hU]
    simp only [bd_some, rp_at, lit, nI_add, rp_u2]
    rcases (show t0 = 0 ∨ t0 = 1 by omega) with rfl | rfl
    · rw [if_pos rfl]
      by_cases e : U.2.2 < (saT 6 U).2.2
      · rw [if_pos e, if_neg (by decide), if_pos (Or.inr e)]
      · rw [if_neg e, if_pos rfl, if_neg (by omega)]
    · rw [if_neg (by decide), if_pos (Or.inl rfl)]
  have k0 := fun U hU => key U 0 hU (by decide)
  have k1 := fun U hU => key U 1 hU (by decide)
  rw [show nI 0 = (0 : Int32) from rfl] at k0
  rw [show nI 1 = (1 : Int32) from rfl] at k1
  have hbt : (btT T) = (u2 (btU T).1 0 7 ((btU T).1 0 7 + 1), (btU T).2.1, (btU T).2.2) := btT_eq T
  unfold X1_passBeat X1_passBeat_L31
  rw [show (1 : Int32) = nI 1 from rfl, rd_n (by decide) (by decide)]
  simp only [bd_some, rp_at]
  rw [if_neg (nI_nle (by omega) (by omega))]
  have hm : rmn (nI (T.1 0 7)) (nI (T.1 5 1)) = some (nI (T.1 0 7 % T.1 5 1)) := by
    unfold rmn
    rw [if_neg (nI_ne0 (by omega) (by omega))]
    exact congrArg some (irm_n (by omega) (by omega) (by omega))
  rw [hm]
  simp only [bd_some]
  have hlt : T.1 0 7 % T.1 5 1 < 6 := by
    have := Nat.mod_lt (T.1 0 7) (show T.1 5 1 > 0 by omega)
    omega
  by_cases e : T.1 0 7 % T.1 5 1 = 0
  · rw [if_pos (by rw [e]; rfl), X1_pushAll_n h]
    simp only [bd_some]
    have hU : btU T = saT 6 (paT 7 0 T) := by
      unfold btU
      rw [if_pos e]
    have h2 := paT_IA 7 0 T rfl h
    have h3 := saT_IA 6 _ (by decide) h2.1
    rw [hbt, hU]
    by_cases f : T.2.2 < (paT 7 0 T).2.2
    · rw [if_pos f, if_neg (by decide), show nI 1 = (1 : Int32) from rfl, k1 _ h2.1, if_pos (Or.inl rfl), if_pos (show T.2.2 < (saT 6 (paT 7 0 T)).2.2 by omega)]
    · rw [if_neg f, if_pos (by decide), k0 _ h2.1]
      by_cases f2 : (paT 7 0 T).2.2 < (saT 6 (paT 7 0 T)).2.2
      · rw [if_pos (Or.inr f2), if_pos (show T.2.2 < (saT 6 (paT 7 0 T)).2.2 by omega)]
      · rw [if_neg (by omega), if_neg (show ¬ T.2.2 < (saT 6 (paT 7 0 T)).2.2 by omega)]
  · rw [if_neg (nI_ne0 (by omega) (by omega)), k0 T h]
    have hU : btU T = saT 6 T := by
      unfold btU
      rw [if_neg e]
    rw [hbt, hU]
    by_cases f : T.2.2 < (saT 6 T).2.2
    · rw [if_pos (Or.inr f), if_pos f]
    · rw [if_neg (by omega), if_neg f]
/-! a shelf on which nothing moves -/
def stS (A : AS) : Prop := ∀ q, q < 42 → leanA A q = false
def stP (A : AS) : Prop := ∀ c, c < 7 → pmA A c = false
theorem leanA_c {A B : AS} (h1 : A 1 = B 1) (h3 : A 3 = B 3) (h4 : A 4 = B 4) (q : Nat) : leanA A q = leanA B q := by
  unfold leanA nxA topA
  rw [h1, h3, h4]
theorem wsA_c {A B : AS} (h1 : A 1 = B 1) (h4 : A 4 = B 4) (q : Nat) : ∀ d k w, wsA A q d k w = wsA B q d k w := by
  intro d
  induction d with
  | zero => intro k w; rfl
  | succ d ih =>
    intro k w
    unfold wsA
    rw [h1, h4, ih]
theorem wcA_c {A B : AS} (h1 : A 1 = B 1) (h3 : A 3 = B 3) (h4 : A 4 = B 4) (c : Nat) : ∀ d r w, wcA A c d r w = wcA B c d r w := by
  intro d
  induction d with
  | zero => intro r w; rfl
  | succ d ih =>
    intro r w
    unfold wcA
    rw [h3, ih, wsA_c h1 h4]
theorem pmA_c {A B : AS} (h1 : A 1 = B 1) (h3 : A 3 = B 3) (h4 : A 4 = B 4) (h5 : A 5 = B 5) (c : Nat) : pmA A c = pmA B c := by
  unfold pmA
  rw [wcA_c h1 h3 h4, h5]
theorem stS_u {A : AS} {j v : Nat} : stS (u2 A 0 j v) ↔ stS A := by
  unfold stS
  constructor
  · intro h q hq
    rw [← h q hq]
    exact (leanA_c (u2_row _ _ _ (by decide)) (u2_row _ _ _ (by decide)) (u2_row _ _ _ (by decide)) q).symm
  · intro h q hq
    rw [← h q hq]
    exact leanA_c (u2_row _ _ _ (by decide)) (u2_row _ _ _ (by decide)) (u2_row _ _ _ (by decide)) q
theorem stP_u {A : AS} {j v : Nat} : stP (u2 A 0 j v) ↔ stP A := by
  unfold stP
  constructor
  · intro h q hq
    rw [← h q hq]
    exact (pmA_c (u2_row _ _ _ (by decide)) (u2_row _ _ _ (by decide)) (u2_row _ _ _ (by decide)) (u2_row _ _ _ (by decide)) q).symm
  · intro h q hq
    rw [← h q hq]
    exact pmA_c (u2_row _ _ _ (by decide)) (u2_row _ _ _ (by decide)) (u2_row _ _ _ (by decide)) (u2_row _ _ _ (by decide)) q
theorem sr_quiet {row : Nat} (hr : row < 6) : ∀ (d c : Nat) (T : TS), c + d = 7 → IA T.1 → (srT row d c T).2.2 = T.2.2 → srT row d c T = T ∧ ∀ i, c ≤ i → i < 7 → leanA T.1 (i * 6 + row) = false := by
  intro d
  induction d with
  | zero => intro c T hc h _; exact ⟨rfl, fun i h1 h2 => absurd h2 (by omega)⟩
  | succ d ih =>
    intro c T hc h hv
    unfold srT at hv ⊢
    by_cases e : leanA T.1 (c * 6 + row) = true
    · rw [if_pos e] at hv
      obtain ⟨h1, h2⟩ := lean_pre h (show c * 6 + row < 42 by omega) e
      have h3 := (srT_IA hr d (c + 1) (slT T (c * 6 + row)) (by omega) (IA_slide h (by omega) h1 h2)).2.2
      have h4 : (slT T (c * 6 + row)).2.2 = T.2.2 + 1 := rfl
      omega
    · rw [if_neg e] at hv ⊢
      obtain ⟨h1, h2⟩ := ih (c + 1) T (by omega) h hv
      refine ⟨h1, fun i i1 i2 => ?_⟩
      by_cases i3 : i = c
      · subst i3
        simpa using e
      · exact h2 i (by omega) i2
theorem sa_quiet : ∀ (d : Nat) (T : TS), d ≤ 6 → IA T.1 → (saT d T).2.2 = T.2.2 → saT d T = T ∧ ∀ row i, row < d → i < 7 → leanA T.1 (i * 6 + row) = false := by
  intro d
  induction d with
  | zero => intro T hd h _; exact ⟨rfl, fun row i h1 _ => absurd h1 (by omega)⟩
  | succ d ih =>
    intro T hd h hv
    unfold saT at hv ⊢
    have h1 := srT_IA (show d < 6 by omega) 7 0 T rfl h
    have h2 := saT_IA d _ (by omega) h1.1
    obtain ⟨h3, h4⟩ := sr_quiet (show d < 6 by omega) 7 0 T rfl h (by omega)
    rw [h3] at hv ⊢
    obtain ⟨h5, h6⟩ := ih T (by omega) h hv
    refine ⟨h5, fun row i i1 i2 => ?_⟩
    by_cases i3 : row = d
    · subst i3
      exact h4 i (Nat.zero_le _) i2
    · exact h6 row i (by omega) i2
theorem pa_quiet : ∀ (d c : Nat) (T : TS), c + d = 7 → IA T.1 → (paT d c T).2.2 = T.2.2 → paT d c T = T ∧ ∀ i, c ≤ i → i < 7 → pmA T.1 i = false := by
  intro d
  induction d with
  | zero => intro c T hc h _; exact ⟨rfl, fun i h1 h2 => absurd h2 (by omega)⟩
  | succ d ih =>
    intro c T hc h hv
    unfold paT at hv ⊢
    by_cases e : pmA T.1 c = true
    · rw [if_pos e] at hv
      have h1 := rnA_le T.1 c 6 0
      have h2 := prT_IA (show c < 7 by omega) _ T (by omega) h (colR0 T.1 c)
      have h3 := prT_strict (show c < 7 by omega) h.2.1.1 e
      have h4 := (paT_IA d (c + 1) _ (by omega) h2).2.2
      omega
    · rw [if_neg e] at hv ⊢
      obtain ⟨h1, h2⟩ := ih (c + 1) T (by omega) h hv
      refine ⟨h1, fun i i1 i2 => ?_⟩
      by_cases i3 : i = c
      · subst i3
        simpa using e
      · exact h2 i (by omega) i2
theorem sr_still {row : Nat} : ∀ (d c : Nat) (T : TS), (∀ i, c ≤ i → i < c + d → leanA T.1 (i * 6 + row) = false) → srT row d c T = T := by
  intro d
  induction d with
  | zero => intro c T _; rfl
  | succ d ih =>
    intro c T h
    unfold srT
    rw [if_neg (by rw [h c (Nat.le_refl _) (by omega)]; decide)]
    exact ih (c + 1) T (fun i i1 i2 => h i (by omega) (by omega))
theorem sa_still : ∀ (d : Nat) (T : TS), d ≤ 6 → stS T.1 → saT d T = T := by
  intro d
  induction d with
  | zero => intro T _ _; rfl
  | succ d ih =>
    intro T hd h
    unfold saT
    rw [sr_still 7 0 T (fun i _ i2 => h _ (by omega))]
    exact ih T (by omega) h
theorem pa_still : ∀ (d c : Nat) (T : TS), (∀ i, c ≤ i → i < c + d → pmA T.1 i = false) → paT d c T = T := by
  intro d
  induction d with
  | zero => intro c T _; rfl
  | succ d ih =>
    intro c T h
    unfold paT
    rw [if_neg (by rw [h c (Nat.le_refl _) (by omega)]; decide)]
    exact ih (c + 1) T (fun i i1 i2 => h i (by omega) (by omega))
theorem bt_still {T : TS} (h1 : stS T.1) (h2 : T.1 0 7 % T.1 5 1 = 0 → stP T.1) : btT T = (u2 T.1 0 7 (T.1 0 7 + 1), T.2.1, T.2.2) := by
  have e : btU T = T := by
    unfold btU
    split
    · rename_i e
      rw [pa_still 7 0 T (fun i _ i2 => h2 e i (by omega))]
      exact sa_still 6 T (by decide) h1
    · exact sa_still 6 T (by decide) h1
  rw [btT_eq, e]
theorem bt_quiet {T : TS} (h : IA T.1) (hv : (btT T).2.2 = T.2.2) : stS T.1 ∧ (T.1 0 7 % T.1 5 1 = 0 → stP T.1) ∧ btT T = (u2 T.1 0 7 (T.1 0 7 + 1), T.2.1, T.2.2) := by
  have hv2 : (btU T).2.2 = T.2.2 := by
    rw [btT_eq] at hv
    dsimp only at hv
    exact hv
  have key : stS T.1 ∧ (T.1 0 7 % T.1 5 1 = 0 → stP T.1) := by
    unfold btU at hv2
    by_cases e : T.1 0 7 % T.1 5 1 = 0
    · rw [if_pos e] at hv2
      have h1 := paT_IA 7 0 T rfl h
      have h2 := saT_IA 6 _ (by decide) h1.1
      obtain ⟨h3, h4⟩ := pa_quiet 7 0 T rfl h (by omega)
      rw [h3] at hv2
      obtain ⟨h5, h6⟩ := sa_quiet 6 T (by decide) h hv2
      refine ⟨fun q hq => ?_, fun _ i hi => h4 i (Nat.zero_le _) hi⟩
      have := h6 (q % 6) (q / 6) (Nat.mod_lt _ (by decide)) (by omega)
      rwa [show q / 6 * 6 + q % 6 = q from by omega] at this
    · rw [if_neg e] at hv2
      obtain ⟨h5, h6⟩ := sa_quiet 6 T (by decide) h hv2
      refine ⟨fun q hq => ?_, fun z => absurd z e⟩
      have := h6 (q % 6) (q / 6) (Nat.mod_lt _ (by decide)) (by omega)
      rwa [show q / 6 * 6 + q % 6 = q from by omega] at this
  exact ⟨key.1, key.2, bt_still key.1 key.2⟩
theorem bn_still : ∀ (d : Nat) (T : TS), stS T.1 → stP T.1 → bnT d T = (u2 T.1 0 7 (T.1 0 7 + d), T.2.1, T.2.2) := by
  intro d
  induction d with
  | zero =>
    intro T _ _
    show T = _
    obtain ⟨A, o, v⟩ := T
    refine Prod.ext ?_ rfl
    funext a b
    show A a b = u2 A 0 7 (A 0 7 + 0) a b
    unfold u2
    split
    · rename_i e
      split
      · rename_i e2
        rw [e, e2]
        rfl
      · rfl
    · rfl
  | succ d ih =>
    intro T h1 h2
    unfold bnT
    rw [bt_still h1 (fun _ => h2)]
    rw [ih (u2 T.1 0 7 (T.1 0 7 + 1), T.2.1, T.2.2) (stS_u.mpr h1) (stP_u.mpr h2)]
    refine Prod.ext ?_ rfl
    funext a b
    show u2 (u2 T.1 0 7 (T.1 0 7 + 1)) 0 7 (u2 T.1 0 7 (T.1 0 7 + 1) 0 7 + d) a b = u2 T.1 0 7 (T.1 0 7 + (d + 1)) a b
    rw [u2_eq]
    unfold u2
    split
    · split
      · omega
      · rfl
    · rfl
theorem bnT_IA : ∀ (d : Nat) (T : TS), IA T.1 → IA (bnT d T).1 ∧ T.2.1 ≤ (bnT d T).2.1 ∧ T.2.2 ≤ (bnT d T).2.2 ∧ (bnT d T).1 0 7 = T.1 0 7 + d := by
  intro d
  induction d with
  | zero => intro T h; exact ⟨h, Nat.le_refl _, Nat.le_refl _, rfl⟩
  | succ d ih =>
    intro T h
    have h1 := btT_IA h
    have h2 := ih (btT T) h1.1
    have h3 := btT_beat T
    unfold bnT
    exact ⟨h2.1, by omega, by omega, by omega⟩
theorem bnT_0 : ∀ (d : Nat) (T : TS) {j : Nat}, j ≠ 7 → (bnT d T).1 0 j = T.1 0 j := by
  intro d
  induction d with
  | zero => intro T j _; rfl
  | succ d ih =>
    intro T j hj
    unfold bnT
    rw [ih _ hj, btT_0 T hj]
theorem bnT_r : ∀ (d : Nat) (T : TS) {k : Nat}, k ≠ 0 → k ≠ 2 → k ≠ 3 → k ≠ 4 → (bnT d T).1 k = T.1 k := by
  intro d
  induction d with
  | zero => intro T k _ _ _ _; rfl
  | succ d ih =>
    intro T k h0 h2 h3 h4
    unfold bnT
    rw [ih _ h0 h2 h3 h4, btT_r T h0 h2 h3 h4]
/-- so many beats in a row have moved nothing -/
def qtA (A : AS) (qu : Nat) : Prop := qu ≤ A 0 7 ∧ (0 < qu → stS A) ∧ ∀ j, A 0 7 - qu ≤ j → j < A 0 7 → j % A 5 1 = 0 → stP A
theorem qt_still {A : AS} {qu : Nat} (h : qtA A qu) (hs : 1 ≤ A 5 1) (hq : A 5 1 ≤ qu) : stS A ∧ stP A := by
  obtain ⟨h1, h2, h3⟩ := h
  refine ⟨h2 (by omega), ?_⟩
  have hm := Nat.mod_lt (A 0 7) (show A 5 1 > 0 by omega)
  by_cases e : A 0 7 % A 5 1 = 0
  · refine h3 (A 0 7 - A 5 1) (by omega) (by omega) ?_
    rw [Nat.mod_eq_sub_mod (show A 0 7 ≥ A 5 1 by omega)] at e
    exact e
  · refine h3 (A 0 7 - A 0 7 % A 5 1) (by omega) (by omega) ?_
    have := Nat.div_add_mod (A 0 7) (A 5 1)
    rw [show A 0 7 - A 0 7 % A 5 1 = A 5 1 * (A 0 7 / A 5 1) from by omega]
    exact Nat.mul_mod_right _ _
theorem qt_next {T : TS} {qu : Nat} (h : IA T.1) (hq : qtA T.1 qu) (hv : (btT T).2.2 = T.2.2) : qtA (btT T).1 (qu + 1) := by
  obtain ⟨h1, h2, h3⟩ := bt_quiet h hv
  have h4 := btT_beat T
  have h5 : (btT T).1 5 = T.1 5 := btT_r T (by decide) (by decide) (by decide) (by decide)
  refine ⟨by have := hq.1; omega, fun _ => ?_, fun j j1 j2 j3 => ?_⟩
  · rw [h3]
    exact stS_u.mpr h1
  · rw [h4] at j1 j2
    rw [h5] at j3
    rw [h3]
    refine stP_u.mpr ?_
    by_cases e : j = T.1 0 7
    · subst e
      exact h2 j3
    · exact hq.2.2 j (by omega) (by omega) j3
theorem qt_0 (A : AS) : qtA A 0 := ⟨Nat.zero_le _, fun z => absurd z (by omega), fun j j1 j2 _ => absurd j2 (by omega)⟩
theorem lp_adv {N : Nat} (hN : N < 2000) : ∀ (d i qu n : Nat) (T : TS), i + d = N → d < n → IA T.1 → T.1 0 7 + d < 1000000 → qtA T.1 qu →
    X1_advance_L4 n (nI N) (nI qu) (nI i) (rp T.1) = some (rp (bnT d T).1) := by
  intro d
  induction d with
  | zero =>
    intro i qu n T hi hn h hb hq
    obtain ⟨m, rfl⟩ : ∃ m, n = m + 1 := ⟨n - 1, by omega⟩
    rw [X1_advance_L4]
    simp (disch := omega) only [rd_n, wr_n, bd_some, lit, nI_add, pk_mul, rp_at, le_n, lt_n, eq_n, sub_n, div_n, irm_n, mn_n, ↓reduceIte, Nat.reduceEqDiff, Nat.zero_ne_one, Nat.one_ne_zero]
    rw [if_pos (by omega)]
    rfl
  | succ d ih =>
    intro i qu n T hi hn h hb hq
    obtain ⟨m, rfl⟩ : ∃ m, n = m + 1 := ⟨n - 1, by omega⟩
    have hs := ia_set h
    have hq1 := hq.1
    rw [X1_advance_L4, X1_passBeat_n h (by omega)]
    simp (disch := omega) only [rd_n, wr_n, bd_some, lit, nI_add, pk_mul, rp_at, le_n, lt_n, eq_n, sub_n, div_n, irm_n, mn_n, ↓reduceIte, Nat.reduceEqDiff, Nat.zero_ne_one, Nat.one_ne_zero]
    rw [if_neg (by omega)]
    have h2 := btT_IA h
    have h3 := btT_beat T
    unfold bnT
    by_cases e : qu < T.1 5 1
    · rw [if_pos e]
      by_cases f : T.2.2 < (btT T).2.2
      · rw [if_pos f, if_neg (by decide)]
        exact ih (i + 1) 0 m (btT T) (by omega) (by omega) h2.1 (by omega) (qt_0 _)
      · rw [if_neg f, if_pos (by decide)]
        exact ih (i + 1) (qu + 1) m (btT T) (by omega) (by omega) h2.1 (by omega) (qt_next h hq (by omega))
    · rw [if_neg e]
      obtain ⟨s1, s2⟩ := qt_still hq hs.2.1 (by omega)
      have e2 := bn_still (d + 1) T s1 s2
      unfold bnT at e2
      rw [e2, rp_u2]
      congr 4
      omega
theorem X1_advance_n {N : Nat} (hN : N < 900) {T : TS} (h : IA T.1) (hb : T.1 0 7 + N < 1000000) : X1_advance (nI N) (rp T.1) = some (rp (bnT N T).1) := by
  unfold X1_advance
  exact lp_adv (by omega) N 0 0 FU T (by omega) (by unfold FU; omega) h hb (qt_0 _)
