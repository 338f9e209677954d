/-! PURE 13: the small promises -/
theorem ltY {a b : Nat} (h : a < b) (hb : b < 2147483648) : nI a < nI b := (nI_ltI (by omega) hb).mpr h
theorem ltN {a b : Nat} (h : ¬ a < b) (ha : a < 2147483648) : ¬ nI a < nI b := fun q => h ((nI_ltI ha (by omega)).mp q)
theorem leY {a b : Nat} (h : a ≤ b) (hb : b < 2147483648) : nI a ≤ nI b := (nI_leI (by omega) hb).mpr h
theorem leN {a b : Nat} (h : ¬ a ≤ b) (ha : a < 2147483648) : ¬ nI a ≤ nI b := fun q => h ((nI_leI ha (by omega)).mp q)
theorem eqN {a b : Nat} (h : ¬ a = b) (ha : a < 2147483648) (hb : b < 2147483648) : ¬ nI a = nI b := fun q => h ((nI_eq ha hb).mp q)
theorem wi_in {a : Int32} {m : Nat} (hm : m < 2147483648) (h : ¬ X3_within a 0 (nI m) = 0) : ∃ c : Nat, c ≤ m ∧ a = nI c := by
  unfold X3_within at h
  by_cases e : a < 0
  · rw [if_pos e] at h
    exact absurd rfl h
  · rw [if_neg e] at h
    obtain ⟨n, hn, rfl⟩ := nI_of e
    refine ⟨n, ?_, rfl⟩
    by_cases e2 : nI m < nI n
    · rw [if_pos e2] at h
      exact absurd rfl h
    · rcases Nat.lt_or_ge m n with q | q
      · exact absurd (ltY q hn) e2
      · exact q
theorem wi_ok {c m : Nat} (hm : m < 2147483648) (h : c ≤ m) : ¬ X3_within (nI c) 0 (nI m) = 0 := by
  unfold X3_within
  rw [if_neg (nI_pos (by omega)), if_neg (ltN (by omega) hm)]
  decide
theorem fl {x mm : St} (h : RLL x mm) {k : Nat} (hk : k < 7) {c d : Int32} (hc : c = nI k) (hd : d = FNC k) : ∃ (r : Int32) (x' mm' : St), (X3_found c x).bind (fun (r, S) => some (r, S)) = some (r, x') ∧ (X4_finding d mm).bind (fun (r, S) => some (r, S)) = some (r, mm') ∧ RLL x' mm' := by
  obtain ⟨x', mm', f1, f2, f3⟩ := fnd h hk
  subst hc
  subst hd
  refine ⟨FNC k, x', mm', ?_, ?_, f3⟩
  · rw [f1]
    rfl
  · rw [f2]
    rfl
theorem fl0 {x mm : St} (h : RLL x mm) : ∃ (r : Int32) (x' mm' : St), (X3_found 0 x).bind (fun (r, S) => some (r, S)) = some (r, x') ∧ (X4_finding (-1000001) mm).bind (fun (r, S) => some (r, S)) = some (r, mm') ∧ RLL x' mm' := fl h (k := 0) (by decide) rfl (by decide +kernel)
theorem fl1 {x mm : St} (h : RLL x mm) : ∃ (r : Int32) (x' mm' : St), (X3_found 1 x).bind (fun (r, S) => some (r, S)) = some (r, x') ∧ (X4_finding (-1000002) mm).bind (fun (r, S) => some (r, S)) = some (r, mm') ∧ RLL x' mm' := fl h (k := 1) (by decide) rfl (by decide +kernel)
theorem fl2 {x mm : St} (h : RLL x mm) : ∃ (r : Int32) (x' mm' : St), (X3_found 2 x).bind (fun (r, S) => some (r, S)) = some (r, x') ∧ (X4_finding (-1000003) mm).bind (fun (r, S) => some (r, S)) = some (r, mm') ∧ RLL x' mm' := fl h (k := 2) (by decide) rfl (by decide +kernel)
theorem fl3 {x mm : St} (h : RLL x mm) : ∃ (r : Int32) (x' mm' : St), (X3_found 3 x).bind (fun (r, S) => some (r, S)) = some (r, x') ∧ (X4_finding (-1000004) mm).bind (fun (r, S) => some (r, S)) = some (r, mm') ∧ RLL x' mm' := fl h (k := 3) (by decide) rfl (by decide +kernel)
theorem fl4 {x mm : St} (h : RLL x mm) : ∃ (r : Int32) (x' mm' : St), (X3_found 4 x).bind (fun (r, S) => some (r, S)) = some (r, x') ∧ (X4_finding (-1000005) mm).bind (fun (r, S) => some (r, S)) = some (r, mm') ∧ RLL x' mm' := fl h (k := 4) (by decide) rfl (by decide +kernel)
theorem fl5 {x mm : St} (h : RLL x mm) : ∃ (r : Int32) (x' mm' : St), (X3_found 5 x).bind (fun (r, S) => some (r, S)) = some (r, x') ∧ (X4_finding (-1000006) mm).bind (fun (r, S) => some (r, S)) = some (r, mm') ∧ RLL x' mm' := fl h (k := 5) (by decide) rfl (by decide +kernel)
theorem fl6 {x mm : St} (h : RLL x mm) : ∃ (r : Int32) (x' mm' : St), (X3_found 6 x).bind (fun (r, S) => some (r, S)) = some (r, x') ∧ (X4_finding (-1000007) mm).bind (fun (r, S) => some (r, S)) = some (r, mm') ∧ RLL x' mm' := fl h (k := 6) (by decide) rfl (by decide +kernel)
/-- reads of the shelf's block -/
theorem xat {x : St} {A : AS} (h : blk x 1 = rp A) (k j : Nat) : x (1 + k) j = nI (A k j) := congrFun (congrFun h k) j
theorem xrd {x : St} {A : AS} (h : blk x 1 = rp A) (k : Nat) {n i : Nat} (hi : i < n) (hn : n < 2147483648) : rd x (1 + k) n (nI i) = some (nI (A k i)) := by
  rw [rd_i hi hn, xat h]
theorem blk_put {x S : St} {b n : Nat} {A : AS} (h : blk x b = rp A) : put x b n (rp A) = x := by
  rw [← h, put_blk]
theorem RLL_id {x m0 : St} {A : AS} {o v : Nat} (h : IA A) (hb : A 0 7 ≤ 9999) (hx : blk x 1 = rp A) (hr : RR x (mst m0 (A, o, v))) : RLL x (mst m0 (A, o, v)) :=
  ⟨A, o, v, ⟨h, hb⟩, fun k j _ => xat hx k j, ⟨m0, rfl⟩, hr⟩
theorem RLL_new {x m0 : St} {A B : AS} {o v o' v' : Nat} (h : IA B) (hb : B 0 7 ≤ 9999) (hr : RR x (mst m0 (A, o, v))) : RLL (put x 1 7 (rp B)) (mst m0 (B, o', v')) :=
  RLL_put (T := (B, o', v')) h hb hr rfl rfl (fun _ _ => rfl) (fun _ _ => rfl)
/-- a write into the shelf's block is a change of the block -/
theorem xwr {x : St} {A : AS} (h : blk x 1 = rp A) {k : Nat} (hk : k < 7) {n i v : Nat} (hi : i < n) (hn : n < 2147483648) : wr x (1 + k) n (nI i) (nI v) = some (put x 1 7 (rp (u2 A k i v))) := by
  rw [wr_i hi hn, ← rp_u2, ← h]
  refine congrArg some ?_
  funext a b
  by_cases e : a = 1 + k
  · subst e
    rw [put_in hk, ups_s, ups_s]
    rfl
  · rw [ups_o e]
    by_cases e2 : 1 ≤ a ∧ a < 8
    · obtain ⟨j, rfl⟩ : ∃ j, a = 1 + j := ⟨a - 1, by omega⟩
      rw [put_in (by omega), ups_o (by omega)]
      rfl
    · rw [put_o (by omega)]
/-! coins -/
def mtA (A : AS) (k : Nat) : AS := u2 (u2 (u2 A 1 (A 0 6) k) 2 (A 0 6) 100) 0 6 (A 0 6 + 1)
theorem X1_mint_n {A : AS} {k : Nat} (hn : A 0 6 < 24) : X1_mint (nI k) (rp A) = some (nI (A 0 6), rp (mtA A k)) := by
  unfold X1_mint
  rw [show rp A 0 6 = nI (A 0 6) from rfl, wr_n hn (by decide), bd_some, show (100 : Int32) = nI 100 from rfl, wr_n hn (by decide), bd_some, bd_some]
  rw [show rp (u2 (u2 A 1 (A 0 6) k) 2 (A 0 6) 100) 0 6 = nI (A 0 6) from rfl, show (1 : Int32) = nI 1 from rfl, nI_add, rp_u2]
  rfl
theorem X4_struck_n {mm : St} {T : TS} {k : Nat} (hn : T.1 0 6 < 24) : X4_struck (nI k) (mst mm T) = some (nI (T.1 0 6), mst mm (mtA T.1 k, T.2)) := by
  unfold X4_struck
  rw [show (4 : Int32) = nI 4 from rfl, md (by decide), bd_some, enc_4, show (17 : Int32) = nI 17 from rfl, nI_add, mw (B := u2 T.1 1 (T.1 0 6) k) (by omega) (fun j => encu_k hn j), bd_some, show (41 : Int32) = nI 41 from rfl, nI_add, show (100 : Int32) = nI 100 from rfl, mw (B := u2 (u2 T.1 1 (T.1 0 6) k) 2 (T.1 0 6) 100) (by omega) (fun j => encu_w hn j), bd_some, md (by decide), bd_some, enc_4, show (1 : Int32) = nI 1 from rfl, nI_add, mw (B := u2 (u2 (u2 T.1 1 (T.1 0 6) k) 2 (T.1 0 6) 100) 0 6 (T.1 0 6 + 1)) (by decide) (fun j => encu_0 (q := 6) (by decide) (by decide) j), bd_some]
  rfl
theorem IA_mint {A : AS} (h : IA A) {k : Nat} (hk : k < 7) (hn : A 0 6 < 24) : IA (mtA A k) := by
  have r0 : mtA A k 0 6 = A 0 6 + 1 := rfl
  have r3 : mtA A k 3 = A 3 := rfl
  have r4 : mtA A k 4 = A 4 := rfl
  have r5 : mtA A k 5 = A 5 := rfl
  have r6 : mtA A k 6 = A 6 := rfl
  have r1 : ∀ c, mtA A k 1 c = if c = A 0 6 then k else A 1 c := fun c => rfl
  have r2 : ∀ c, mtA A k 2 c = if c = A 0 6 then 100 else A 2 c := fun c => rfl
  unfold IA
  rw [r0, r3, r4, r5, r6]
  refine ⟨⟨by omega, fun c hc => ?_, fun c hc => ?_⟩, ⟨h.2.1.1, fun q i hq hi => ?_, h.2.1.2.2.1, fun c hc hc2 => ?_⟩, h.2.2.1, fun i hi => ?_⟩
  · rw [r1]
    split
    · exact hk
    · exact ia_k h (by omega)
  · rw [r2]
    split
    · exact Or.inr (Or.inl rfl)
    · exact ia_p h (by omega)
  · obtain ⟨h1, h2⟩ := ia_s h hq hi
    rw [r2, if_neg (by omega)]
    exact ⟨by omega, h2⟩
  · rw [r2] at hc2 ⊢
    by_cases e : c = A 0 6
    · rw [if_pos e] at hc2
      omega
    · rw [if_neg e] at hc2 ⊢
      exact ia_o h (by omega) hc2
  · rcases h.2.2.2 i hi with z | z
    · exact Or.inl z
    · exact Or.inr (by omega)
theorem op_coin (a : Int32) : OPR (X3_coin a) (X4_coin a) := by
  intro x mm h
  unfold X3_coin X4_coin
  by_cases e : X3_isKind a = 0
  · rw [if_pos e, if_pos (show X4_isKind a = 0 from e)]
    exact fl0 h
  · rw [if_neg e, if_neg (show ¬ X4_isKind a = 0 from e)]
    obtain ⟨k, hk, rfl⟩ := wi_in (m := 6) (by decide) e
    obtain ⟨A, o, v, m0, hA, hb, hx, rfl, hr⟩ := RLL_st h
    have hn := ia_n hA
    rw [show (4 : Int32) = nI 4 from rfl, md (by decide), bd_some, enc_4, show x 1 6 = nI (A 0 6) from xat hx 0 6, show (24 : Int32) = nI 24 from rfl]
    by_cases e2 : A 0 6 < 24
    · rw [if_pos (ltY e2 (by decide)), if_neg (show ¬ nI ((A, o, v).1 0 6) = nI 24 from eqN (show ¬ A 0 6 = 24 by omega) (show A 0 6 < 2147483648 by omega) (by decide)), hx, X1_mint_n e2, bd_some, X4_struck_n (T := (A, o, v)) e2, bd_some]
      exact ⟨_, _, _, rfl, rfl, RLL_new (IA_mint hA (by omega) e2) hb hr⟩
    · rw [if_neg (ltN e2 (by omega)), if_pos (show nI ((A, o, v).1 0 6) = nI 24 from congrArg nI (show A 0 6 = 24 by omega))]
      exact fl1 h
/-- whether a number names a coin -/
theorem ic_x {x : St} {A : AS} (hx : blk x 1 = rp A) (a : Int32) : X3_isCoin a x = X3_within a 0 (nI (A 0 6) - 1) := by
  unfold X3_isCoin
  rw [show x 1 6 = nI (A 0 6) from xat hx 0 6]
theorem ic_m (m0 : St) (T : TS) (a : Int32) : X4_isCoin a (mst m0 T) = some (X3_within a 0 (nI (T.1 0 6) - 1)) := by
  unfold X4_isCoin
  rw [show (4 : Int32) = nI 4 from rfl, md (by decide), bd_some, enc_4]
  rfl
theorem ic_in {a : Int32} {n : Nat} (hn : n ≤ 24) (h : ¬ X3_within a 0 (nI n - 1) = 0) : ∃ c : Nat, c < n ∧ a = nI c := by
  by_cases e : n = 0
  · subst e
    exfalso
    refine h ?_
    unfold X3_within
    by_cases e1 : a < 0
    · rw [if_pos e1]
    · rw [if_neg e1]
      obtain ⟨j, hj, rfl⟩ := nI_of e1
      rw [if_pos ?_]
      have z : nI 0 - 1 < (0 : Int32) := by decide
      exact Int32.lt_of_lt_of_le z (nI_pos' hj)
  · rw [show nI n - 1 = nI (n - 1) from (by rw [show (1 : Int32) = nI 1 from rfl, sub_n (by omega)])] at h
    obtain ⟨c, h1, h2⟩ := wi_in (by omega) h
    exact ⟨c, by omega, h2⟩
theorem op_change (a b : Int32) : OPR (X3_change a b) (X4_change a b) := by
  intro x mm h
  unfold X3_change X4_change
  obtain ⟨A, o, v, m0, hA, hb, hx, rfl, hr⟩ := RLL_st h
  have hn := ia_n hA
  rw [ic_x hx, ic_m, bd_some]
  by_cases e : X3_within a 0 (nI (A 0 6) - 1) = 0
  · rw [if_pos e, if_pos (show X3_within a 0 (nI ((A, o, v).1 0 6) - 1) = 0 from e)]
    exact fl0 h
  · rw [if_neg e, if_neg (show ¬ X3_within a 0 (nI ((A, o, v).1 0 6) - 1) = 0 from e)]
    obtain ⟨c, hc, rfl⟩ := ic_in hn e
    by_cases e2 : X3_isKind b = 0
    · rw [if_pos e2, if_pos (show X4_isKind b = 0 from e2)]
      exact fl0 h
    · rw [if_neg e2, if_neg (show ¬ X4_isKind b = 0 from e2)]
      obtain ⟨k, hk, rfl⟩ := wi_in (m := 6) (by decide) e2
      rw [show rd x 2 24 (nI c) = some (nI (A 1 c)) from xrd hx 1 (by omega) (by decide), bd_some, show wr x 2 24 (nI c) (nI k) = some (put x 1 7 (rp (u2 A 1 c k))) from xwr hx (k := 1) (by decide) (by omega) (by decide), bd_some]
      unfold X4_become
      rw [show (17 : Int32) = nI 17 from rfl, nI_add, md (by omega), bd_some, enc_k (by omega), mw (B := u2 A 1 c k) (by omega) (fun j => encu_k (by omega) j), bd_some]
      refine ⟨_, _, _, rfl, rfl, RLL_new ?_ hb hr⟩
      have r1 : ∀ d, u2 A 1 c k 1 d = if d = c then k else A 1 d := fun d => rfl
      unfold IA
      rw [show u2 A 1 c k 0 = A 0 from rfl, show u2 A 1 c k 2 = A 2 from rfl, show u2 A 1 c k 3 = A 3 from rfl, show u2 A 1 c k 4 = A 4 from rfl, show u2 A 1 c k 5 = A 5 from rfl, show u2 A 1 c k 6 = A 6 from rfl]
      refine ⟨⟨hn, fun d hd => ?_, hA.1.2.2⟩, hA.2⟩
      rw [r1]
      split
      · omega
      · exact ia_k hA hd
