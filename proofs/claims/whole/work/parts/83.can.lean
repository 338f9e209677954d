/-! PURE 33: whether so many coins can be dropped -/
theorem is_can {x : St} {A : AS} (hA : IA A) (hb : A 0 7 ≤ 9999) (hx : blk x 1 = rp A) {N : Nat} (hN : N < 1000) : X3_canDrop (nI N) x = some (if N ≤ hcA A ∧ A 0 7 ≤ 9900 then 1 else 0) := by
  have hn := ia_n hA
  have hl : hcA A ≤ 24 := Nat.le_trans (cn_le _ _ _) hn
  unfold X3_canDrop
  rw [hx, show (100 : Int32) = nI 100 from rfl, X1_bitsAt_n hA (by decide), bd_some, bc_n (msk_lt hn 100), hc_pcr hn, show x 1 7 = nI (A 0 7) from xat hx 0 7]
  by_cases e : N ≤ hcA A
  · rw [if_neg (ltN (by omega) (by omega))]
    by_cases e2 : A 0 7 ≤ 9900
    · rw [if_neg (show ¬ (9900 : Int32) < nI (A 0 7) from ltN (a := 9900) (by omega) (by decide)), if_pos ⟨e, e2⟩]
    · rw [if_pos (show (9900 : Int32) < nI (A 0 7) from ltY (a := 9900) (by omega) (by omega)), if_neg (fun z => e2 z.2)]
  · rw [if_pos (ltY (by omega) (by omega)), if_neg (fun z => e z.1)]
