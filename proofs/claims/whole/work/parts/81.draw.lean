/-! PURE 31: draws -/
theorem draw_k (z : Nat) : ∃ k, k < 4294967296 ∧ nI z * 1103515245 + 12345 = nI k := wb_of32 _
theorem X1_draw_n {A : AS} {k : Nat} (hk : k < 4294967296) (e : nI (A 0 9) * 1103515245 + 12345 = nI k) : X1_draw (rp A) = some (nI (k / 256), rp (u2 A 0 9 k)) := by
  unfold X1_draw
  rw [show rp A 0 9 = nI (A 0 9) from rfl, e, rp_u2, bd_some, show rp (u2 A 0 9 k) 0 9 = nI k from rfl, show (8 : Int32) = nI 8 from rfl, ush_n hk (by decide)]
theorem X4_drawn_n {m : St} {A : AS} {o v k : Nat} (hk : k < 4294967296) (e : nI (A 0 9) * 1103515245 + 12345 = nI k) : X4_drawn 7 (mst m (A, o, v)) = some (nI (k / 256 % 7), mst m (u2 A 0 9 k, o, v)) := by
  unfold X4_drawn
  rw [show (6 : Int32) = nI 6 from rfl, md (by decide), bd_some, enc_6, show nI ((A, o, v).1 0 9) * 1103515245 + 12345 = nI k from e, mw (B := u2 A 0 9 k) (by decide) (fun i => encu_0 (q := 9) (by decide) (by decide) i), bd_some, md (by decide), bd_some, enc_6, show nI ((u2 A 0 9 k, (A, o, v).2).1 0 9) = nI k from rfl, show (8 : Int32) = nI 8 from rfl, ush_n hk (by decide)]
  unfold rmn
  rw [if_neg (by decide), bd_some]
  have z := irm_n (a := k / 256) (d := 7) (by omega) (by decide) (by decide)
  unfold irm at z
  refine congrArg some (Prod.ext ?_ rfl)
  exact z
theorem is_draw {y : St} {b : Nat} {A : AS} (h : Is y b A) {k : Nat} (hk : k < 4294967296) (e : nI (A 0 9) * 1103515245 + 12345 = nI k) : ∃ S, X1_draw (blk y b) = some (nI (k / 256), S) ∧ ∀ z, Is (put z b 7 S) b (u2 A 0 9 k) := by
  obtain ⟨B, h1, h2⟩ := is_blk h
  refine ⟨rp (u2 B 0 9 k), ?_, fun z => is_put z b (e7_u h1 0 9 k)⟩
  rw [h2, X1_draw_n hk (by rw [← h1 0 (by decide)]; exact e)]
theorem e7_lh {A B : AS} (h : E7 A B) : ∀ d c, lhA A d c = lhA B d c := by
  intro d
  induction d with
  | zero => intro c; rfl
  | succ d ih =>
    intro c
    unfold lhA
    rw [h 2 (by decide), ih]
theorem e7_lih {A B : AS} (h : E7 A B) : lih A = lih B := by
  unfold lih
  rw [h 0 (by decide), e7_lh h]
theorem is_lih {y : St} {b : Nat} {A : AS} (h : Is y b A) (hA : IA A) (hh : 0 < hcA A) : X1_leastInHand (blk y b) = some (nI (lih A)) := by
  obtain ⟨B, h1, h2⟩ := is_blk h
  have z := (lih_some hh).1
  rw [h2, X1_leastInHand_n (IA_eq h1 hA), ← e7_lih h1, ← h1 0 (by decide), if_pos z]
