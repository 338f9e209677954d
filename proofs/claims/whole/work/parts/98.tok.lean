/-! PURE 48: tokens -/
def isl (b : Nat) : Bool := decide (97 ≤ b) && decide (b ≤ 122)
def isd (b : Nat) : Bool := decide (48 ≤ b) && decide (b ≤ 57)
def skF (T : Nat → Nat) : Nat → Nat → Nat
  | 0, p => p
  | d + 1, p => if T p = 32 then skF T d (p + 1) else p
def wdF (T : Nat → Nat) : Nat → Nat → Nat
  | 0, p => p
  | d + 1, p => if isl (T p) = true then wdF T d (p + 1) else p
def nvF (v b : Nat) : Nat := if 10000 < v * 10 + b - 48 then 10000 else v * 10 + b - 48
def nbF (T : Nat → Nat) : Nat → Nat → Nat → Nat × Nat
  | 0, p, v => (p, v)
  | d + 1, p, v => if isd (T p) = true then nbF T d (p + 1) (nvF v (T p)) else (p, v)
def tkS (T : Nat → Nat) (L p : Nat) : Nat := skF T (L - p) p
def tkK (T : Nat → Nat) (L p : Nat) : Nat := if L ≤ tkS T L p then 0 else if isl (T (tkS T L p)) = true then 1 else if isd (T (tkS T L p)) = true then 2 else if T (tkS T L p) = 59 then 3 else 4
def tkE (T : Nat → Nat) (L p : Nat) : Nat := if L ≤ tkS T L p then tkS T L p else if isl (T (tkS T L p)) = true then wdF T (L - tkS T L p) (tkS T L p) else if isd (T (tkS T L p)) = true then (nbF T (L - tkS T L p) (tkS T L p) 0).1 else tkS T L p + 1
def tkV (T : Nat → Nat) (L p : Nat) : Nat := if L ≤ tkS T L p then 0 else if isl (T (tkS T L p)) = true then 0 else if isd (T (tkS T L p)) = true then (nbF T (L - tkS T L p) (tkS T L p) 0).2 else 0
theorem skF_le (T : Nat → Nat) : ∀ d p, p ≤ skF T d p ∧ skF T d p ≤ p + d := by
  intro d
  induction d with
  | zero => intro p; exact ⟨Nat.le_refl p, Nat.le_refl p⟩
  | succ d ih =>
    intro p
    unfold skF
    split
    · have := ih (p + 1)
      omega
    · omega
theorem wdF_le (T : Nat → Nat) : ∀ d p, p ≤ wdF T d p ∧ wdF T d p ≤ p + d := by
  intro d
  induction d with
  | zero => intro p; exact ⟨Nat.le_refl p, Nat.le_refl p⟩
  | succ d ih =>
    intro p
    unfold wdF
    split
    · have := ih (p + 1)
      omega
    · omega
theorem nvF_le (v b : Nat) : nvF v b ≤ 10000 := by
  unfold nvF
  split <;> omega
theorem nbF_le (T : Nat → Nat) : ∀ d p v, v ≤ 10000 → p ≤ (nbF T d p v).1 ∧ (nbF T d p v).1 ≤ p + d ∧ (nbF T d p v).2 ≤ 10000 := by
  intro d
  induction d with
  | zero => intro p v h; exact ⟨Nat.le_refl p, Nat.le_refl p, h⟩
  | succ d ih =>
    intro p v h
    unfold nbF
    split
    · have := ih (p + 1) (nvF v (T p)) (nvF_le _ _)
      omega
    · exact ⟨Nat.le_refl p, Nat.le_add_right _ _, h⟩
theorem tk_le (T : Nat → Nat) {L p : Nat} (h : p ≤ L) : p ≤ tkS T L p ∧ tkS T L p ≤ L ∧ tkS T L p ≤ tkE T L p ∧ tkE T L p ≤ L ∧ tkV T L p ≤ 10000 ∧ tkK T L p ≤ 4 ∧ (tkK T L p ≠ 0 → tkS T L p < tkE T L p) := by
  have h1 := skF_le T (L - p) p
  unfold tkK tkE tkV
  have hs : tkS T L p = skF T (L - p) p := rfl
  rw [← hs] at h1
  generalize tkS T L p = s at h1
  refine ⟨h1.1, by omega, ?_⟩
  by_cases e : L ≤ s
  · rw [if_pos e, if_pos e, if_pos e]
    exact ⟨Nat.le_refl s, by omega, Nat.zero_le _, Nat.zero_le _, fun z => absurd rfl z⟩
  · rw [if_neg e, if_neg e, if_neg e]
    obtain ⟨k, hk⟩ : ∃ k, L - s = k + 1 := ⟨L - s - 1, by omega⟩
    by_cases e1 : isl (T s) = true
    · rw [if_pos e1, if_pos e1, if_pos e1, hk]
      have w : wdF T (k + 1) s = wdF T k (s + 1) := if_pos e1
      have := wdF_le T k (s + 1)
      rw [w]
      exact ⟨by omega, by omega, Nat.zero_le _, by omega, fun _ => by omega⟩
    · rw [if_neg e1, if_neg e1, if_neg e1]
      by_cases e2 : isd (T s) = true
      · rw [if_pos e2, if_pos e2, if_pos e2, hk]
        have w : nbF T (k + 1) s 0 = nbF T k (s + 1) (nvF 0 (T s)) := if_pos e2
        have := nbF_le T k (s + 1) _ (nvF_le 0 (T s))
        rw [w]
        exact ⟨by omega, by omega, this.2.2, by omega, fun _ => by omega⟩
      · rw [if_neg e2, if_neg e2, if_neg e2]
        refine ⟨by omega, by omega, Nat.zero_le _, ?_, fun _ => by omega⟩
        split <;> omega
theorem il_x {b : Nat} (h : b < 256) : (X2_isLetter (nI b) = 0) = (isl b = false) := by
  have key : ∀ b, b < 256 → (X2_isLetter (nI b) = 0 ↔ isl b = false) := by decide +kernel
  exact propext (key b h)
theorem id_x {b : Nat} (h : b < 256) : (X2_isDigit (nI b) = 0) = (isd b = false) := by
  have key : ∀ b, b < 256 → (X2_isDigit (nI b) = 0 ↔ isd b = false) := by decide +kernel
  exact propext (key b h)
theorem il_m {b : Nat} (h : b < 256) : (X4_within (nI b) 97 122 = 0) = (isl b = false) := by
  have key : ∀ b, b < 256 → (X4_within (nI b) 97 122 = 0 ↔ isl b = false) := by decide +kernel
  exact propext (key b h)
theorem id_m {b : Nat} (h : b < 256) : (X4_within (nI b) 48 57 = 0) = (isd b = false) := by
  have key : ∀ b, b < 256 → (X4_within (nI b) 48 57 = 0 ↔ isd b = false) := by decide +kernel
  exact propext (key b h)
theorem nv_x {v b : Nat} (hv : v ≤ 10000) (hb : b < 256) (hd : isd b = true) : mnI ((nI v * 10 + nI b) - 48) 10000 = nI (nvF v b) := by
  unfold isd at hd
  rw [Bool.and_eq_true, decide_eq_true_eq, decide_eq_true_eq] at hd
  unfold mnI nvF
  rw [show (10 : Int32) = nI 10 from rfl, pk_mul, nI_add, show (48 : Int32) = nI 48 from rfl, sub_n (by omega), show (10000 : Int32) = nI 10000 from rfl]
  by_cases e : 10000 < v * 10 + b - 48
  · rw [if_pos e, if_pos (ltY e (by omega))]
  · rw [if_neg e, if_neg (ltN e (by decide))]
theorem nv_m {v b : Nat} (hv : v ≤ 10000) (hb : b < 256) (hd : isd b = true) : mnI 10000 ((10 * nI v + nI b) - 48) = nI (nvF v b) := by
  unfold isd at hd
  rw [Bool.and_eq_true, decide_eq_true_eq, decide_eq_true_eq] at hd
  unfold mnI nvF
  rw [show (10 : Int32) = nI 10 from rfl, pk_mul, nI_add, show (48 : Int32) = nI 48 from rfl, sub_n (by omega), show (10000 : Int32) = nI 10000 from rfl, Nat.mul_comm 10 v]
  by_cases e : 10000 < v * 10 + b - 48
  · rw [if_pos e, if_neg (ltN (show ¬ v * 10 + b - 48 < 10000 by omega) (by omega))]
  · rw [if_neg e]
    by_cases e2 : v * 10 + b - 48 < 10000
    · rw [if_pos (ltY e2 (by decide))]
    · rw [if_neg (ltN e2 (by omega)), show v * 10 + b - 48 = 10000 by omega]
/-! the class's tokens -/
def BX (S : St) (T : Nat → Nat) (L : Nat) : Prop := S 0 1 = nI L ∧ ∀ i, i < L → S 1 i = nI (T i)
theorem lx_wd {T : Nat → Nat} {L : Nat} (hL : L ≤ 120) (hT : ∀ i, i < L → T i < 256) : ∀ (d p n : Nat) (S : St), p + d = L → d < n → BX S T L → S 0 4 = nI p →
    ∃ S', X2_readWord_L5 n S = some S' ∧ S' 1 = S 1 ∧ S' 0 4 = nI (wdF T d p) ∧ ∀ j, j ≠ 4 → S' 0 j = S 0 j := by
  intro d
  induction d with
  | zero =>
    intro p n S h1 h2 hb h4
    obtain ⟨n, rfl⟩ : ∃ k, n = k + 1 := ⟨n - 1, by omega⟩
    unfold X2_readWord_L5
    rw [hb.1, h4, if_pos (leY (by omega) (by omega))]
    exact ⟨S, rfl, rfl, h4, fun _ _ => rfl⟩
  | succ d ih =>
    intro p n S h1 h2 hb h4
    obtain ⟨n, rfl⟩ : ∃ k, n = k + 1 := ⟨n - 1, by omega⟩
    have tp := hT p (by omega)
    unfold X2_readWord_L5 wdF
    rw [hb.1, h4, if_neg (leN (by omega) (by omega)), rd_i (show p < 120 by omega) (by decide), bd_some, hb.2 p (by omega)]
    by_cases e : isl (T p) = true
    · rw [if_pos e, if_neg (show ¬ X2_isLetter (nI (T p)) = 0 by rw [il_x tp, e]; decide), bd_some, show nI p + 1 = nI (p + 1) from (nI_succ p).symm]
      obtain ⟨S', s1, s2, s3, s4⟩ := ih (p + 1) n (ups S 0 4 (nI (p + 1))) (by omega) (by omega) ⟨by rw [ups_s, if_neg (by decide)]; exact hb.1, fun i hi => by rw [ups_o (by decide)]; exact hb.2 i hi⟩ (by rw [ups_s, if_pos rfl])
      exact ⟨S', s1, by rw [s2, ups_o (by decide)], s3, fun j hj => by rw [s4 j hj, ups_s, if_neg hj]⟩
    · rw [if_neg e, if_pos (show X2_isLetter (nI (T p)) = 0 by rw [il_x tp]; exact Bool.not_eq_true _ ▸ e)]
      exact ⟨S, rfl, rfl, h4, fun _ _ => rfl⟩
theorem lx_nb {T : Nat → Nat} {L : Nat} (hL : L ≤ 120) (hT : ∀ i, i < L → T i < 256) : ∀ (d p v n : Nat) (S : St), p + d = L → d < n → v ≤ 10000 → BX S T L → S 0 4 = nI p → S 0 5 = nI v →
    ∃ S', X2_readNumber_L10 n S = some S' ∧ S' 1 = S 1 ∧ S' 0 4 = nI (nbF T d p v).1 ∧ S' 0 5 = nI (nbF T d p v).2 ∧ ∀ j, j ≠ 4 → j ≠ 5 → S' 0 j = S 0 j := by
  intro d
  induction d with
  | zero =>
    intro p v n S h1 h2 hv hb h4 h5
    obtain ⟨n, rfl⟩ : ∃ k, n = k + 1 := ⟨n - 1, by omega⟩
    unfold X2_readNumber_L10
    rw [hb.1, h4, if_pos (leY (by omega) (by omega))]
    exact ⟨S, rfl, rfl, h4, h5, fun _ _ _ => rfl⟩
  | succ d ih =>
    intro p v n S h1 h2 hv hb h4 h5
    obtain ⟨n, rfl⟩ : ∃ k, n = k + 1 := ⟨n - 1, by omega⟩
    have tp := hT p (by omega)
    unfold X2_readNumber_L10 nbF
    rw [hb.1, h4, if_neg (leN (by omega) (by omega)), rd_i (show p < 120 by omega) (by decide), bd_some, hb.2 p (by omega)]
    by_cases e : isd (T p) = true
    · rw [if_pos e, if_neg (show ¬ X2_isDigit (nI (T p)) = 0 by rw [id_x tp, e]; decide), bd_some, bd_some, bd_some, h5, nv_x hv tp e, ups_s S 0 5 4, if_neg (by decide), h4, show nI p + 1 = nI (p + 1) from (nI_succ p).symm]
      obtain ⟨S', s1, s2, s3, s4, s5⟩ := ih (p + 1) (nvF v (T p)) n (ups (ups S 0 5 (nI (nvF v (T p)))) 0 4 (nI (p + 1))) (by omega) (by omega) (nvF_le _ _) ⟨by rw [ups_s, if_neg (by decide), ups_s, if_neg (by decide)]; exact hb.1, fun i hi => by rw [ups_o (by decide), ups_o (by decide)]; exact hb.2 i hi⟩ (by rw [ups_s, if_pos rfl]) (by rw [ups_s, if_neg (by decide), ups_s, if_pos rfl])
      exact ⟨S', s1, by rw [s2, ups_o (by decide), ups_o (by decide)], s3, s4, fun j hj hj2 => by rw [s5 j hj hj2, ups_s, if_neg hj, ups_s, if_neg hj2]⟩
    · rw [if_neg e, if_pos (show X2_isDigit (nI (T p)) = 0 by rw [id_x tp]; exact Bool.not_eq_true _ ▸ e)]
      exact ⟨S, rfl, rfl, h4, h5, fun _ _ _ => rfl⟩
/-- what the class knows of a token -/
def KX (S : St) (T : Nat → Nat) (L p : Nat) : Prop := BX S T L ∧ S 0 2 = nI (tkK T L p) ∧ S 0 3 = nI (tkS T L p) ∧ S 0 4 = nI (tkE T L p) ∧ (tkK T L p = 2 → S 0 5 = nI (tkV T L p))
theorem lx_38 {T : Nat → Nat} {L p : Nat} (hL : L ≤ 120) (hT : ∀ i, i < L → T i < 256) (hp : p ≤ L) {S : St} (hb : BX S T L) (h4 : S 0 4 = nI (tkS T L p)) : ∃ S', X2_next_L38 S = some S' ∧ S' 1 = S 1 ∧ KX S' T L p := by
  obtain ⟨k1, k2, k3, k4, k5, k6, k7⟩ := tk_le T hp
  have b1 : ∀ v, BX (ups S 0 3 v) T L := fun v => ⟨by rw [ups_s, if_neg (by decide)]; exact hb.1, fun i hi => by rw [ups_o (by decide)]; exact hb.2 i hi⟩
  have b2 : ∀ v w, BX (ups (ups S 0 3 v) 0 2 w) T L := fun v w => ⟨by rw [ups_s, if_neg (by decide)]; exact (b1 v).1, fun i hi => by rw [ups_o (by decide)]; exact (b1 v).2 i hi⟩
  unfold X2_next_L38 KX tkK tkE tkV
  rw [h4, bd_some, show ups S 0 3 (nI (tkS T L p)) 0 3 = nI (tkS T L p) from rfl, show ups S 0 3 (nI (tkS T L p)) 0 1 = nI L from (b1 _).1]
  generalize tkS T L p = s at k1 k2 h4
  by_cases e : L ≤ s
  · rw [if_neg (ltN (by omega) (by omega)), bd_some, if_pos e, if_pos e, if_pos e]
    exact ⟨_, rfl, by rw [ups_o (by decide), ups_o (by decide)], b2 _ _, by rw [ups_s, if_pos rfl]; rfl, by rw [ups_s, if_neg (by decide), ups_s, if_pos rfl], by rw [ups_s, if_neg (by decide), ups_s, if_neg (by decide)]; exact h4, fun z => absurd z (by decide)⟩
  · have tp := hT s (by omega)
    rw [if_pos (ltY (by omega) (by omega)), rd_i (show s < 120 by omega) (by decide), (b1 (nI s)).2 s (by omega), bd_some, if_neg e, if_neg e, if_neg e]
    by_cases e1 : isl (T s) = true
    · rw [if_neg (show ¬ X2_isLetter (nI (T s)) = 0 by rw [il_x tp, e1]; decide), if_pos e1, if_pos e1, if_pos e1]
      unfold X2_readWord
      have hF : L - s < FU := Nat.lt_of_le_of_lt (show L - s ≤ 120 by omega) (by decide)
      obtain ⟨S', s1, s2, s3, s4⟩ := lx_wd hL hT (L - s) s FU (ups (ups S 0 3 (nI s)) 0 2 1) (by omega) hF (b2 _ _) (by rw [ups_s, if_neg (by decide), ups_s, if_neg (by decide)]; exact h4)
      rw [bd_some, s1, bd_some]
      refine ⟨S', rfl, by rw [s2, ups_o (by decide), ups_o (by decide)], ⟨by rw [s4 1 (by decide)]; exact (b2 _ _).1, fun i hi => by rw [s2]; exact (b2 (nI s) 1).2 i hi⟩, ?_, ?_, s3, fun z => absurd z (by decide)⟩
      · rw [s4 2 (by decide), ups_s, if_pos rfl]
        rfl
      · rw [s4 3 (by decide), ups_s, if_neg (by decide), ups_s, if_pos rfl]
    · rw [if_pos (show X2_isLetter (nI (T s)) = 0 by rw [il_x tp]; exact Bool.not_eq_true _ ▸ e1), bd_some, if_neg e1, if_neg e1, if_neg e1]
      by_cases e2 : isd (T s) = true
      · rw [if_neg (show ¬ X2_isDigit (nI (T s)) = 0 by rw [id_x tp, e2]; decide), if_pos e2, if_pos e2, if_pos e2]
        unfold X2_readNumber
        have hF : L - s < FU := Nat.lt_of_le_of_lt (show L - s ≤ 120 by omega) (by decide)
        obtain ⟨S', s1, s2, s3, s4, s5⟩ := lx_nb hL hT (L - s) s 0 FU (ups (ups (ups S 0 3 (nI s)) 0 2 2) 0 5 0) (by omega) hF (by decide) ⟨by rw [ups_s, if_neg (by decide)]; exact (b2 _ _).1, fun i hi => by rw [ups_o (by decide)]; exact (b2 _ _).2 i hi⟩ (by rw [ups_s, if_neg (by decide), ups_s, if_neg (by decide), ups_s, if_neg (by decide)]; exact h4) (by rw [ups_s, if_pos rfl]; rfl)
        rw [bd_some, bd_some, s1, bd_some]
        refine ⟨S', rfl, by rw [s2, ups_o (by decide), ups_o (by decide), ups_o (by decide)], ⟨by rw [s5 1 (by decide) (by decide), ups_s, if_neg (by decide)]; exact (b2 _ _).1, fun i hi => by rw [s2, ups_o (by decide)]; exact (b2 (nI s) 2).2 i hi⟩, ?_, ?_, s3, fun _ => s4⟩
        · rw [s5 2 (by decide) (by decide), ups_s, if_neg (by decide), ups_s, if_pos rfl]
          rfl
        · rw [s5 3 (by decide) (by decide), ups_s, if_neg (by decide), ups_s, if_neg (by decide), ups_s, if_pos rfl]
      · rw [if_pos (show X2_isDigit (nI (T s)) = 0 by rw [id_x tp]; exact Bool.not_eq_true _ ▸ e2), bd_some, if_neg e2, if_neg e2, if_neg e2]
        have c4 : ∀ w, ups (ups S 0 3 (nI s)) 0 2 w 0 4 = nI s := fun w => by rw [ups_s, if_neg (by decide), ups_s, if_neg (by decide)]; exact h4
        have fin : ∀ (w : Int32) (k : Nat), w = nI k → k ≠ 2 → ∃ S', ((some (ups (ups S 0 3 (nI s)) 0 2 w)).bind fun S12 => (some (ups S12 0 4 ((S12 0 4) + 1))).bind fun S13 => some S13) = some S' ∧ S' 1 = S 1 ∧ BX S' T L ∧ S' 0 2 = nI k ∧ S' 0 3 = nI s ∧ S' 0 4 = nI (s + 1) ∧ (k = 2 → S' 0 5 = nI 0) := by
          intro w k hw hk
          rw [bd_some, bd_some, c4, show nI s + 1 = nI (s + 1) from (nI_succ s).symm]
          refine ⟨_, rfl, by rw [ups_o (by decide), ups_o (by decide), ups_o (by decide)], ⟨by rw [ups_s, if_neg (by decide)]; exact (b2 _ _).1, fun i hi => by rw [ups_o (by decide)]; exact (b2 _ _).2 i hi⟩, ?_, ?_, by rw [ups_s, if_pos rfl], fun z => absurd z hk⟩
          · rw [ups_s, if_neg (by decide), ups_s, if_pos rfl, hw]
          · rw [ups_s, if_neg (by decide), ups_s, if_neg (by decide), ups_s, if_pos rfl]
        by_cases e3 : T s = 59
        · rw [if_pos (show nI (T s) = 59 from congrArg nI e3), if_pos e3]
          exact fin 3 3 rfl (by decide)
        · rw [if_neg (show ¬ nI (T s) = 59 from eqN (b := 59) e3 (by omega) (by decide)), if_neg e3]
          exact fin 4 4 rfl (by decide)
theorem lx_sk {T : Nat → Nat} {L p0 : Nat} (hL : L ≤ 120) (hT : ∀ i, i < L → T i < 256) (hp : p0 ≤ L) : ∀ (d p n : Nat) (S : St), p + d = L → d < n → skF T d p = tkS T L p0 → BX S T L → S 0 4 = nI p → ∃ S', X2_next_L0 n S = some S' ∧ S' 1 = S 1 ∧ KX S' T L p0 := by
  intro d
  induction d with
  | zero =>
    intro p n S h1 h2 he hb h4
    obtain ⟨n, rfl⟩ : ∃ k, n = k + 1 := ⟨n - 1, by omega⟩
    unfold X2_next_L0
    rw [hb.1, h4, if_pos (leY (by omega) (by omega))]
    exact lx_38 hL hT hp hb (by rw [h4, ← he]; rfl)
  | succ d ih =>
    intro p n S h1 h2 he hb h4
    obtain ⟨n, rfl⟩ : ∃ k, n = k + 1 := ⟨n - 1, by omega⟩
    have tp := hT p (by omega)
    unfold X2_next_L0
    unfold skF at he
    rw [hb.1, h4, if_neg (leN (by omega) (by omega)), rd_i (show p < 120 by omega) (by decide), bd_some, hb.2 p (by omega)]
    by_cases e : T p = 32
    · rw [if_pos e] at he
      rw [if_pos (show nI (T p) = 32 from congrArg nI e), bd_some, show nI p + 1 = nI (p + 1) from (nI_succ p).symm]
      obtain ⟨S', s1, s2, s3⟩ := ih (p + 1) n (ups S 0 4 (nI (p + 1))) (by omega) (by omega) he ⟨by rw [ups_s, if_neg (by decide)]; exact hb.1, fun i hi => by rw [ups_o (by decide)]; exact hb.2 i hi⟩ (by rw [ups_s, if_pos rfl])
      exact ⟨S', s1, by rw [s2, ups_o (by decide)], s3⟩
    · rw [if_neg e] at he
      rw [if_neg (show ¬ nI (T p) = 32 from eqN (b := 32) e (by omega) (by decide))]
      exact lx_38 hL hT hp hb (by rw [h4, ← he])
theorem X2_next_n {T : Nat → Nat} {L p : Nat} (hL : L ≤ 120) (hT : ∀ i, i < L → T i < 256) (hp : p ≤ L) {S : St} (hb : BX S T L) (h4 : S 0 4 = nI p) : ∃ S', X2_next S = some S' ∧ S' 1 = S 1 ∧ KX S' T L p := by
  have hF : L - p < FU := Nat.lt_of_le_of_lt (show L - p ≤ 120 by omega) (by decide)
  exact lx_sk hL hT hp (L - p) p FU S (by omega) hF rfl hb h4
