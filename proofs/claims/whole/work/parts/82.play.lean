/-! PURE 32: plays -/
theorem lm_play {m : St} {A : AS} {N : Nat} {g0 : Int32} (hN : N < 20) : ∀ (d i n n2 : Nat) (y : St) (o v : Nat) (A : AS), i + d = N → d < n → d < n2 → IA A → d ≤ hcA A → A 0 7 + d ≤ 9999 → Is y 1 A →
    ∃ (r : Int32) (y' : St) (B : AS) (o' v' : Nat), X3_play_L40 n (nI N) g0 (nI i) y = some (r, y') ∧ X4_play_L56 n2 (nI N) g0 (nI i) (mst m (A, o, v)) = some (r, mst m (B, o', v')) ∧ IA B ∧ B 0 7 ≤ 9999 ∧ Is y' 1 B ∧ ∀ k, offX k → y' k = y k := by
  intro d
  induction d with
  | zero =>
    intro i n n2 y o v A h1 h2 h3 hA hh hb hi
    obtain ⟨n, rfl⟩ : ∃ m, n = m + 1 := ⟨n - 1, by omega⟩
    obtain ⟨n2, rfl⟩ : ∃ m, n2 = m + 1 := ⟨n2 - 1, by omega⟩
    unfold X3_play_L40 X4_play_L56
    rw [if_pos (leY (by omega) (by omega)), if_pos (leY (by omega) (by omega)), is_gain hi hA, bd_some, X4_gain_n (T := (A, o, v)) hA, bd_some]
    exact ⟨_, y, A, o, v, rfl, rfl, hA, by omega, hi, fun _ _ => rfl⟩
  | succ d ih =>
    intro i n n2 y o v A h1 h2 h3 hA hh hb hi
    obtain ⟨n, rfl⟩ : ∃ m, n = m + 1 := ⟨n - 1, by omega⟩
    obtain ⟨n2, rfl⟩ : ∃ m, n2 = m + 1 := ⟨n2 - 1, by omega⟩
    obtain ⟨l1, l2⟩ := lih_some (show 0 < hcA A by omega)
    obtain ⟨k, hk, ek⟩ := draw_k (A 0 9)
    obtain ⟨S, s1, s2⟩ := is_draw hi hk ek
    have hA2 : IA (u2 A 0 9 k) := IA_u0 hA (by decide)
    have hl : k / 256 % 7 < 7 := Nat.mod_lt _ (by decide)
    obtain ⟨S2, r1, r2⟩ := is_rel (s2 y) hA2 (c := lih A) (col := k / 256 % 7) l1 l2 hl (show A 0 7 < 100000 by omega)
    obtain ⟨d1, d2⟩ := drA_IA hA2 (c := lih A) (col := k / 256 % 7) l1 l2 hl
    obtain ⟨q1, q2, q3, q4⟩ := dr_hand hA2 (c := lih A) (col := k / 256 % 7) l1 l2 hl
    obtain ⟨o1, v1, hd⟩ := dpT_q (u2 A 0 9 k, o, v) (lih A) (k / 256 % 7)
    have hq : hcA (u2 A 0 9 k) = hcA A := rfl
    have hq2 : u2 A 0 9 k 0 7 = A 0 7 := rfl
    obtain ⟨r, y', B, o', v', w1, w2, w3, w4, w5, w6⟩ := ih (i + 1) n n2 (put (put y 1 7 S) 1 7 S2) o1 v1 (drA (u2 A 0 9 k) (lih A) (k / 256 % 7)) (by omega) (by omega) (by omega) d1 (by omega) (by omega) (r2 _)
    unfold X3_play_L40 X4_play_L56
    rw [if_neg (leN (by omega) (by omega)), if_neg (leN (by omega) (by omega)), is_lih hi hA (by omega), bd_some, s1, bd_some, X4_leastInHand_n (T := (A, o, v)) hA, bd_some, X4_drawn_n hk ek, bd_some]
    dsimp only
    rw [bd_some, show (7 : Int32) = nI 7 from rfl, irm_n (by omega) (by decide) (by decide), r1, bd_some, bd_some, X4_dropped_n (T := (u2 A 0 9 k, o, v)) hA2 l1 l2 hl (show A 0 7 < 100000 by omega), bd_some, hd, show nI i + 1 = nI (i + 1) from (nI_succ i).symm]
    refine ⟨r, y', B, o', v', w1, w2, w3, w4, w5, fun j hj => ?_⟩
    rw [w6 j hj]
    unfold offX at hj
    rw [put_o (by omega), put_o (by omega)]
