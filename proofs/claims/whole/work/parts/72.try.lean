/-! PURE 22: trials -/
def Kp (x y : St) : Prop := ∀ k, (offX k ∨ (1 ≤ k ∧ k < 8)) → y k = x k
theorem kp_id (x : St) : Kp x x := fun _ _ => rfl
theorem kp_tr {x y z : St} (h1 : Kp x y) (h2 : Kp y z) : Kp x z := fun k hk => (h2 k hk).trans (h1 k hk)
def isTr (b : Nat) : Prop := b = 15 ∨ b = 27 ∨ b = 34 ∨ b = 41
theorem kp_put (x S : St) {b : Nat} (h : isTr b) : Kp x (put x b 7 S) := by
  intro k hk
  unfold offX at hk
  unfold isTr at h
  exact put_o (by omega)
def Km (m n : St) : Prop := n 0 3 = m 0 3 ∧ n 0 11 = m 0 11 ∧ ∀ k, offM k → n k = m k
theorem km_id (m : St) : Km m m := ⟨rfl, rfl, fun _ _ => rfl⟩
theorem km_tr {x y z : St} (h1 : Km x y) (h2 : Km y z) : Km x z := ⟨h2.1.trans h1.1, h2.2.1.trans h1.2.1, fun k hk => (h2.2.2 k hk).trans (h1.2.2 k hk)⟩
theorem km_cpm (m : St) (A : AS) : Km m (cpm m A) := by
  refine ⟨rfl, rfl, fun k hk => ?_⟩
  unfold offM at hk
  unfold cpm
  exact setr_other _ _ (by omega)
theorem RLL_try {x y m0 m1 : St} {A : AS} {o v o' v' : Nat} (hA : IA A) (hb : A 0 7 ≤ 9999) (hx : blk x 1 = rp A) (hr : RR x (mst m0 (A, o, v))) (hk : Kp x y) (hm : Km m0 m1) : RLL y (mst m1 (A, o', v')) :=
  RLL_stay (T := (A, o', v')) hA hb (fun k j h7 => by rw [hk (1 + k) (Or.inr ⟨by omega, by omega⟩)]; exact xat hx k j) hr hm.1 hm.2.1 hm.2.2 (fun k h => hk k (Or.inl h))
theorem is_x {x : St} {A : AS} (hx : blk x 1 = rp A) : Is x 1 A := fun k j _ => xat hx k j
theorem ovA_le {A : AS} (hA : IA A) (N : Nat) : ovA N A ≤ 24 := by
  have h1 := (bn_cnt hA N).1
  have h2 := gv_le (bnA_IA N hA).1
  omega
theorem op_ahead (a b : Int32) : OPR (X3_ahead a b) (X4_ahead a b) := by
  intro x mm h
  unfold X3_ahead X4_ahead
  by_cases e : X3_within a 0 60 = 0
  · rw [if_pos e, if_pos (show X4_within a 0 60 = 0 from e)]
    exact fl0 h
  · rw [if_neg e, if_neg (show ¬ X4_within a 0 60 = 0 from e)]
    by_cases e2 : X3_within b 0 3 = 0
    · rw [if_pos e2, if_pos (show X4_within b 0 3 = 0 from e2)]
      exact fl0 h
    · rw [if_neg e2, if_neg (show ¬ X4_within b 0 3 = 0 from e2)]
      obtain ⟨N, hN, rfl⟩ := wi_in (m := 60) (by decide) e
      obtain ⟨A, o, v, m0, hA, hb, hx, rfl, hr⟩ := RLL_st h
      rw [pe_n hx hb (by omega), tl_n (T := (A, o, v)) hb (by omega)]
      by_cases e1 : A 0 7 + N ≤ 9999
      · obtain ⟨c1, c2, c3, c4⟩ := bn_cnt hA N
        obtain ⟨g1, g2⟩ := bnA_IA N hA
        have ga := gv_le hA
        have gb := gv_le g1
        have hn := ia_n hA
        have hi := is_x hx
        have h15 := is_cpy (b2 := 15) hi
        obtain ⟨S, s1, s2⟩ := is_adv h15 hA (N := N) (by omega) (by omega)
        have t15 := s2 (put x 15 7 (blk x 1))
        have t1 : Is (put (put x 15 7 (blk x 1)) 15 7 S) 1 A := is_oth (is_oth hi (Or.inl (by decide))) (Or.inl (by decide))
        have kk : Kp x (put (put x 15 7 (blk x 1)) 15 7 S) := kp_tr (kp_put x _ (Or.inl rfl)) (kp_put _ _ (Or.inl rfl))
        have fin : ∀ v', RLL (put (put x 15 7 (blk x 1)) 15 7 S) (mst (cpm m0 A) (A, o + ovA N A, v')) := fun v' => RLL_try hA hb hx hr kk (km_cpm m0 A)
        obtain ⟨v', hv⟩ := bnT_q N (A, o, v)
        have as := cpm_as m0 A
        rw [if_pos e1, if_pos rfl, bd_some, s1, bd_some, bd_some, bd_some, if_pos rfl, show X4_copyRow 1 3 (mst m0 (A, o, v)) = some (mst (cpm m0 A) (A, o, v)) from X4_aside_n m0 (A, o, v), bd_some, show (101 : Int32) = nI 101 from rfl, X4_setOf_n (T := (A, o, v)) hA (by decide) (by decide), bd_some, X4_beatsGo_n (T := (A, o, v)) (by omega) hA (show A 0 7 + N < 1000000 by omega), bd_some, hv]
        dsimp only
        generalize hY : put (put x 15 7 (blk x 1)) 15 7 S = Y at t15 t1 kk fin
        by_cases b0 : b = 0
        · rw [if_pos b0, if_pos b0, is_worthAt t15 g1 (by decide), bd_some, is_worthAt t1 hA (by decide), bd_some, X4_setOf_n (T := (bnA N A, o + ovA N A, v')) g1 (by decide) (by decide), bd_some, wo_n, X4_worthOf_n (T := (bnA N A, o + ovA N A, v')) g1 (wo_lt (show msk (bnA N A) 101 < 2147483648 by have := msk_lt (A := bnA N A) (by omega) 101; omega)), bd_some, X4_putBack_n as, bd_some]
          have wm := won_more (B := bnA N A) hn c2 c4 c3
          refine ⟨_, _, _, rfl, ?_, fin v'⟩
          refine congrArg some (Prod.ext ?_ rfl)
          show nI (wot (bnA N A) (wo_ (msk (bnA N A) 101) (msk A 101))) = nI (wot (bnA N A) (msk (bnA N A) 101)) - nI (wot A (msk A 101))
          rw [sub_n (by omega)]
          refine congrArg nI ?_
          omega
        · rw [if_neg b0, if_neg b0]
          by_cases b1 : b = 1
          · rw [if_pos b1, if_pos b1, is_over t15 g1, bd_some, is_over t1 hA, bd_some, X4_putBack_n as, bd_some]
            refine ⟨_, _, _, rfl, ?_, fin v'⟩
            refine congrArg some (Prod.ext ?_ rfl)
            show nI (ovA N A) = nI (gvA (bnA N A)) - nI (gvA A)
            rw [sub_n (by omega)]
            refine congrArg nI ?_
            omega
          · rw [if_neg b1, if_neg b1]
            by_cases b2 : b = 2
            · rw [if_pos b2, if_pos b2, is_shelf t15 g1, bd_some, X4_shelf_n (T := (bnA N A, o + ovA N A, v')) g1, bd_some, X4_putBack_n as, bd_some]
              exact ⟨_, _, _, rfl, rfl, fin v'⟩
            · rw [if_neg b2, if_neg b2]
              obtain ⟨w, w1, w2⟩ := highest_both (m0 := cpm m0 A) (o := o + ovA N A) (v := v') t15
              rw [w1, bd_some, w2, bd_some, X4_putBack_n as, bd_some]
              exact ⟨_, _, _, rfl, rfl, fin v'⟩
      · rw [if_neg e1, if_neg (by decide), bd_some, if_neg (by decide)]
        exact fl4 h
