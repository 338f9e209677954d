set_option maxRecDepth 100000 in
set_option maxHeartbeats 4000000 in
theorem c_X1_mint (l : Launch) (g : GG) (sz : Nat) (x mm : St) (k : Nat) (hk : isSh k = true) (a1 : Int32) (S : St) (r : Int32) (S' : St) (hf : X1_mint a1 S = some (r, S')) : Met l yX1_mint (.code yX1_mint cX1_mint 3 (some .int) :: ALLW) (rmJ 0 0) (PcJ g sz (put x k 7 S) mm [.ref (ad g k), .int a1]) (QiJ g sz r (put x k 7 S') mm) 0 0 (Ag sz) := by
  refine j_met (own := RX1) (by decide) rfl (Nat.le_of_ble_eq_true rfl) rfl ?_
  intro p e s m args below meth c C hr hlk
  unfold X1_mint at hf
  refine j_aload_n C dX1_mint_0 rfl 0 rfl 1 rfl ?_
  refine j1_get hk C 6 (by decide) qf_X1_30 (v := .int (S 0 6)) rfl dX1_mint_1 4 rfl ?_
  refine j_istore_n (lv2 := [(2, .int (S 0 6)), (0, .ref (ad g k)), (1, .int a1)]) C dX1_mint_4 rfl (by decide) rfl 5 rfl ?_
  refine j_aload_n C dX1_mint_5 rfl 1 rfl 6 rfl ?_
  refine j1_get hk C 0 (by decide) qf_X1_9 (v := .ref (ad g (k + 1))) rfl dX1_mint_6 9 rfl ?_
  refine j_iload_n C dX1_mint_9 rfl 0 rfl 10 rfl ?_
  refine j_iload_n C dX1_mint_10 rfl 2 rfl 11 rfl ?_
  obtain ⟨S1, hS1, hf⟩ := bnd hf
  refine j1_ast hk 1 (by decide) (by decide) C hS1 dX1_mint_11 12 rfl ?_
  refine j_aload_n C dX1_mint_12 rfl 1 rfl 13 rfl ?_
  refine j1_get hk C 1 (by decide) qf_X1_15 (v := .ref (ad g (k + 2))) rfl dX1_mint_13 16 rfl ?_
  refine j_iload_n C dX1_mint_16 rfl 0 rfl 17 rfl ?_
  refine j_bipush C dX1_mint_17 (v := 100) c_bipush_100 19 rfl ?_
  obtain ⟨S2, hS2, hf⟩ := bnd hf
  refine j1_ast hk 2 (by decide) (by decide) C hS2 dX1_mint_19 20 rfl ?_
  refine j_aload_n C dX1_mint_20 rfl 1 rfl 21 rfl ?_
  refine j_dup C dX1_mint_21 rfl 22 rfl ?_
  refine j1_get hk C 6 (by decide) qf_X1_30 (v := .int (S2 0 6)) rfl dX1_mint_22 25 rfl ?_
  refine j_iconst C dX1_mint_25 (v := 1) c_iconst_1 26 rfl ?_
  refine j_iadd C dX1_mint_26 27 rfl ?_
  obtain ⟨S3, hS3, hf⟩ := bnd hf
  refine j1_put hk C 6 (by decide) (by decide) rfl rfl qf_X1_30 dX1_mint_27 30 rfl ?_
  rw [Option.some.inj hS3]
  refine j_iload_n C dX1_mint_30 rfl 0 rfl 31 rfl ?_
  obtain ⟨rfl, rfl⟩ := Prod.mk.inj (Option.some.inj hf)
  exact j_iret C hr hlk dX1_mint_31
set_option maxRecDepth 100000 in
set_option maxHeartbeats 4000000 in
theorem c_X1_hasRoom (l : Launch) (g : GG) (sz : Nat) (x mm : St) (k : Nat) (hk : isSh k = true) (a1 : Int32) (S : St) (r : Int32) (hf : X1_hasRoom a1 S = some r) : Met l yX1_hasRoom (.code yX1_hasRoom cX1_hasRoom 2 (some .boolean) :: ALLW) (rmJ 0 0) (PcJ g sz (put x k 7 S) mm [.ref (ad g k), .int a1]) (QiJ g sz r (put x k 7 S) mm) 0 0 (Ag sz) := by
  refine j_met (own := RX1) (by decide) rfl (Nat.le_of_ble_eq_true rfl) rfl ?_
  intro p e s m args below meth c C hr hlk
  unfold X1_hasRoom at hf
  refine j_aload_n C dX1_hasRoom_0 rfl 0 rfl 1 rfl ?_
  refine j1_get hk C 2 (by decide) qf_X1_18 (v := .ref (ad g (k + 3))) rfl dX1_hasRoom_1 4 rfl ?_
  refine j_iload_n C dX1_hasRoom_4 rfl 1 rfl 5 rfl ?_
  obtain ⟨v1, hv1, hf⟩ := bnd hf
  refine j1_ald hk 3 (by decide) (by decide) C hv1 dX1_hasRoom_5 6 rfl ?_
  refine j_iconst C dX1_hasRoom_6 (v := 4) c_iconst_4 7 rfl ?_
  refine j_icmp_ge C dX1_hasRoom_7 14 (by decide) 10 rfl (fun c2 => ?_) (fun c2 => ?_)
  · rw [if_pos c2] at hf
    refine j_iconst C dX1_hasRoom_14 (v := 0) c_iconst_0 15 rfl ?_
    obtain rfl := Option.some.inj hf
    exact j_zret C hr hlk (Or.inl rfl) dX1_hasRoom_15
  · rw [if_neg c2] at hf
    refine j_iconst C dX1_hasRoom_10 (v := 1) c_iconst_1 11 rfl ?_
    refine j_goto C dX1_hasRoom_11 15 (by decide) ?_
    obtain rfl := Option.some.inj hf
    exact j_zret C hr hlk (Or.inr rfl) dX1_hasRoom_15
set_option maxRecDepth 100000 in
set_option maxHeartbeats 4000000 in
theorem c_X1_put (l : Launch) (g : GG) (sz : Nat) (x mm : St) (k : Nat) (hk : isSh k = true) (a1 : Int32) (a2 : Int32) (S : St) (S' : St) (hf : X1_put a1 a2 S = some S') : Met l yX1_put (.code yX1_put cX1_put 3 none :: ALLW) (rmJ 0 0) (PcJ g sz (put x k 7 S) mm [.ref (ad g k), .int a1, .int a2]) (QvJ g sz (put x k 7 S') mm) 0 0 (Ag sz) := by
  refine j_met (own := RX1) (by decide) rfl (Nat.le_of_ble_eq_true rfl) rfl ?_
  intro p e s m args below meth c C hr hlk
  unfold X1_put at hf
  refine j_aload_n C dX1_put_0 rfl 0 rfl 1 rfl ?_
  refine j1_get hk C 2 (by decide) qf_X1_18 (v := .ref (ad g (k + 3))) rfl dX1_put_1 4 rfl ?_
  refine j_iload_n C dX1_put_4 rfl 2 rfl 5 rfl ?_
  obtain ⟨v1, hv1, hf⟩ := bnd hf
  refine j1_ald hk 3 (by decide) (by decide) C hv1 dX1_put_5 6 rfl ?_
  refine j_iconst C dX1_put_6 (v := 4) c_iconst_4 7 rfl ?_
  refine j_icmp_ge C dX1_put_7 43 (by decide) 10 rfl (fun c2 => ?_) (fun c2 => ?_)
  · rw [if_pos c2] at hf
    obtain rfl := Option.some.inj hf
    exact j_vret C hr hlk dX1_put_43
  · rw [if_neg c2] at hf
    refine j_aload_n C dX1_put_10 rfl 0 rfl 11 rfl ?_
    refine j1_get hk C 3 (by decide) qf_X1_21 (v := .ref (ad g (k + 4))) rfl dX1_put_11 14 rfl ?_
    refine j_iload_n C dX1_put_14 rfl 2 rfl 15 rfl ?_
    refine j_iconst C dX1_put_15 (v := 4) c_iconst_4 16 rfl ?_
    refine j_imul C dX1_put_16 17 rfl ?_
    refine j_aload_n C dX1_put_17 rfl 0 rfl 18 rfl ?_
    refine j1_get hk C 2 (by decide) qf_X1_18 (v := .ref (ad g (k + 3))) rfl dX1_put_18 21 rfl ?_
    refine j_iload_n C dX1_put_21 rfl 2 rfl 22 rfl ?_
    obtain ⟨v3, hv3, hf⟩ := bnd hf
    refine j1_ald hk 3 (by decide) (by decide) C hv3 dX1_put_22 23 rfl ?_
    refine j_iadd C dX1_put_23 24 rfl ?_
    refine j_iload_n C dX1_put_24 rfl 1 rfl 25 rfl ?_
    obtain ⟨S4, hS4, hf⟩ := bnd hf
    refine j1_ast hk 4 (by decide) (by decide) C hS4 dX1_put_25 26 rfl ?_
    refine j_aload_n C dX1_put_26 rfl 0 rfl 27 rfl ?_
    refine j1_get hk C 2 (by decide) qf_X1_18 (v := .ref (ad g (k + 3))) rfl dX1_put_27 30 rfl ?_
    refine j_iload_n C dX1_put_30 rfl 2 rfl 31 rfl ?_
    refine j_dup2 C dX1_put_31 rfl rfl 32 rfl ?_
    obtain ⟨v5, hv5, hf⟩ := bnd hf
    refine j1_ald hk 3 (by decide) (by decide) C hv5 dX1_put_32 33 rfl ?_
    refine j_iconst C dX1_put_33 (v := 1) c_iconst_1 34 rfl ?_
    refine j_iadd C dX1_put_34 35 rfl ?_
    obtain ⟨S6, hS6, hf⟩ := bnd hf
    refine j1_ast hk 3 (by decide) (by decide) C hS6 dX1_put_35 36 rfl ?_
    refine j_aload_n C dX1_put_36 rfl 0 rfl 37 rfl ?_
    refine j1_get hk C 1 (by decide) qf_X1_15 (v := .ref (ad g (k + 2))) rfl dX1_put_37 40 rfl ?_
    refine j_iload_n C dX1_put_40 rfl 1 rfl 41 rfl ?_
    refine j_iload_n C dX1_put_41 rfl 2 rfl 42 rfl ?_
    obtain ⟨S7, hS7, hf⟩ := bnd hf
    refine j1_ast hk 2 (by decide) (by decide) C hS7 dX1_put_42 43 rfl ?_
    obtain rfl := Option.some.inj hf
    exact j_vret C hr hlk dX1_put_43
set_option maxRecDepth 100000 in
set_option maxHeartbeats 4000000 in
theorem c_X1_pull (l : Launch) (g : GG) (sz : Nat) (x mm : St) (k : Nat) (hk : isSh k = true) (a1 : Int32) (S : St) (r : Int32) (S' : St) (hf : X1_pull a1 S = some (r, S')) : Met l yX1_pull (.code yX1_pull cX1_pull 3 (some .int) :: ALLW) (rmJ 0 0) (PcJ g sz (put x k 7 S) mm [.ref (ad g k), .int a1]) (QiJ g sz r (put x k 7 S') mm) 0 0 (Ag sz) := by
  refine j_met (own := RX1) (by decide) rfl (Nat.le_of_ble_eq_true rfl) rfl ?_
  intro p e s m args below meth c C hr hlk
  unfold X1_pull at hf
  refine j_aload_n C dX1_pull_0 rfl 0 rfl 1 rfl ?_
  refine j1_get hk C 2 (by decide) qf_X1_18 (v := .ref (ad g (k + 3))) rfl dX1_pull_1 4 rfl ?_
  refine j_iload_n C dX1_pull_4 rfl 1 rfl 5 rfl ?_
  obtain ⟨v1, hv1, hf⟩ := bnd hf
  refine j1_ald hk 3 (by decide) (by decide) C hv1 dX1_pull_5 6 rfl ?_
  refine j_if_ne C dX1_pull_6 11 (by decide) 9 rfl (fun c2 => ?_) (fun c2 => ?_)
  · rw [if_neg c2] at hf
    refine j_aload_n C dX1_pull_11 rfl 0 rfl 12 rfl ?_
    refine j1_get hk C 2 (by decide) qf_X1_18 (v := .ref (ad g (k + 3))) rfl dX1_pull_12 15 rfl ?_
    refine j_iload_n C dX1_pull_15 rfl 1 rfl 16 rfl ?_
    refine j_dup2 C dX1_pull_16 rfl rfl 17 rfl ?_
    obtain ⟨v3, hv3, hf⟩ := bnd hf
    refine j1_ald hk 3 (by decide) (by decide) C hv3 dX1_pull_17 18 rfl ?_
    refine j_iconst C dX1_pull_18 (v := 1) c_iconst_1 19 rfl ?_
    refine j_isub C dX1_pull_19 20 rfl ?_
    obtain ⟨S4, hS4, hf⟩ := bnd hf
    refine j1_ast hk 3 (by decide) (by decide) C hS4 dX1_pull_20 21 rfl ?_
    refine j_aload_n C dX1_pull_21 rfl 0 rfl 22 rfl ?_
    refine j1_get hk C 3 (by decide) qf_X1_21 (v := .ref (ad g (k + 4))) rfl dX1_pull_22 25 rfl ?_
    refine j_iload_n C dX1_pull_25 rfl 1 rfl 26 rfl ?_
    refine j_iconst C dX1_pull_26 (v := 4) c_iconst_4 27 rfl ?_
    refine j_imul C dX1_pull_27 28 rfl ?_
    refine j_aload_n C dX1_pull_28 rfl 0 rfl 29 rfl ?_
    refine j1_get hk C 2 (by decide) qf_X1_18 (v := .ref (ad g (k + 3))) rfl dX1_pull_29 32 rfl ?_
    refine j_iload_n C dX1_pull_32 rfl 1 rfl 33 rfl ?_
    obtain ⟨v5, hv5, hf⟩ := bnd hf
    refine j1_ald hk 3 (by decide) (by decide) C hv5 dX1_pull_33 34 rfl ?_
    refine j_iadd C dX1_pull_34 35 rfl ?_
    obtain ⟨v6, hv6, hf⟩ := bnd hf
    refine j1_ald hk 4 (by decide) (by decide) C hv6 dX1_pull_35 36 rfl ?_
    refine j_istore_n (lv2 := [(2, .int v6), (0, .ref (ad g k)), (1, .int a1)]) C dX1_pull_36 rfl (by decide) rfl 37 rfl ?_
    refine j_aload_n C dX1_pull_37 rfl 1 rfl 38 rfl ?_
    refine j1_get hk C 1 (by decide) qf_X1_15 (v := .ref (ad g (k + 2))) rfl dX1_pull_38 41 rfl ?_
    refine j_iload_n C dX1_pull_41 rfl 0 rfl 42 rfl ?_
    refine j_bipush C dX1_pull_42 (v := 100) c_bipush_100 44 rfl ?_
    obtain ⟨S7, hS7, hf⟩ := bnd hf
    refine j1_ast hk 2 (by decide) (by decide) C hS7 dX1_pull_44 45 rfl ?_
    refine j_iload_n C dX1_pull_45 rfl 0 rfl 46 rfl ?_
    obtain ⟨rfl, rfl⟩ := Prod.mk.inj (Option.some.inj hf)
    exact j_iret C hr hlk dX1_pull_46
  · rw [if_pos c2] at hf
    refine j_iconst C dX1_pull_9 (v := (-1)) c_iconst_m1 10 rfl ?_
    obtain ⟨rfl, rfl⟩ := Prod.mk.inj (Option.some.inj hf)
    exact j_iret C hr hlk dX1_pull_10
set_option maxRecDepth 100000 in
set_option maxHeartbeats 4000000 in
theorem c_X1_isOnShelf (l : Launch) (g : GG) (sz : Nat) (x mm : St) (k : Nat) (hk : isSh k = true) (a1 : Int32) (S : St) (r : Int32) (hf : X1_isOnShelf a1 S = some r) : Met l yX1_isOnShelf (.code yX1_isOnShelf cX1_isOnShelf 2 (some .boolean) :: ALLW) (rmJ 0 0) (PcJ g sz (put x k 7 S) mm [.ref (ad g k), .int a1]) (QiJ g sz r (put x k 7 S) mm) 0 0 (Ag sz) := by
  refine j_met (own := RX1) (by decide) rfl (Nat.le_of_ble_eq_true rfl) rfl ?_
  intro p e s m args below meth c C hr hlk
  unfold X1_isOnShelf at hf
  refine j_aload_n C dX1_isOnShelf_0 rfl 0 rfl 1 rfl ?_
  refine j1_get hk C 1 (by decide) qf_X1_15 (v := .ref (ad g (k + 2))) rfl dX1_isOnShelf_1 4 rfl ?_
  refine j_iload_n C dX1_isOnShelf_4 rfl 1 rfl 5 rfl ?_
  obtain ⟨v1, hv1, hf⟩ := bnd hf
  refine j1_ald hk 2 (by decide) (by decide) C hv1 dX1_isOnShelf_5 6 rfl ?_
  refine j_bipush C dX1_isOnShelf_6 (v := 42) c_bipush_42 8 rfl ?_
  refine j_icmp_ge C dX1_isOnShelf_8 15 (by decide) 11 rfl (fun c2 => ?_) (fun c2 => ?_)
  · rw [if_pos c2] at hf
    refine j_iconst C dX1_isOnShelf_15 (v := 0) c_iconst_0 16 rfl ?_
    obtain rfl := Option.some.inj hf
    exact j_zret C hr hlk (Or.inl rfl) dX1_isOnShelf_16
  · rw [if_neg c2] at hf
    refine j_iconst C dX1_isOnShelf_11 (v := 1) c_iconst_1 12 rfl ?_
    refine j_goto C dX1_isOnShelf_12 16 (by decide) ?_
    obtain rfl := Option.some.inj hf
    exact j_zret C hr hlk (Or.inr rfl) dX1_isOnShelf_16
set_option maxRecDepth 100000 in
set_option maxHeartbeats 4000000 in
theorem c_X1_toldPlace (l : Launch) (g : GG) (sz : Nat) (x mm : St) (k : Nat) (hk : isSh k = true) (a1 : Int32) (S : St) (r : Int32) (hf : X1_toldPlace a1 S = some r) : Met l yX1_toldPlace (.code yX1_toldPlace cX1_toldPlace 3 (some .int) :: ALLW) (rmJ 1 21) (PcJ g sz (put x k 7 S) mm [.ref (ad g k), .int a1]) (QiJ g sz r (put x k 7 S) mm) 0 0 (Ag sz) := by
  refine j_met (own := RX1) (by decide) rfl (Nat.le_of_ble_eq_true rfl) rfl ?_
  intro p e s m args below meth c C hr hlk
  unfold X1_toldPlace at hf
  refine j_aload_n C dX1_toldPlace_0 rfl 0 rfl 1 rfl ?_
  refine j1_get hk C 1 (by decide) qf_X1_15 (v := .ref (ad g (k + 2))) rfl dX1_toldPlace_1 4 rfl ?_
  refine j_iload_n C dX1_toldPlace_4 rfl 1 rfl 5 rfl ?_
  obtain ⟨v1, hv1, hf⟩ := bnd hf
  refine j1_ald hk 2 (by decide) (by decide) C hv1 dX1_toldPlace_5 6 rfl ?_
  refine j_istore_n (lv2 := [(2, .int v1), (0, .ref (ad g k)), (1, .int a1)]) C dX1_toldPlace_6 rfl (by decide) rfl 7 rfl ?_
  refine j_aload_n C dX1_toldPlace_7 rfl 1 rfl 8 rfl ?_
  refine j_iload_n C dX1_toldPlace_8 rfl 2 rfl 9 rfl ?_
  obtain ⟨r2, hr2, hf⟩ := bnd hf
  refine j_callVi (As := [.int a1]) (rest := []) C (c_X1_isOnShelf l g sz x mm k hk a1 S _ hr2) (j_cwV C qc_X1_isOnShelf qm_X1_49 qi_X1_isOnShelf qs_X1_isOnShelf qn_X1 hd_X1_isOnShelf ⟨rfl, rfl⟩ ⟨by decide, by decide⟩) ((rcv_sh hk).cell C.2) rfl (Nat.le_of_ble_eq_true rfl) dX1_toldPlace_9 12 rfl ?_
  refine j_if_eq C dX1_toldPlace_12 30 (by decide) 15 rfl (fun c3 => ?_) (fun c3 => ?_)
  · rw [if_pos c3] at hf
    refine j_iload_n C dX1_toldPlace_30 rfl 0 rfl 31 rfl ?_
    obtain rfl := Option.some.inj hf
    exact j_iret C hr hlk dX1_toldPlace_31
  · rw [if_neg c3] at hf
    refine j_bipush C dX1_toldPlace_15 (v := 10) c_bipush_10 17 rfl ?_
    refine j_iload_n C dX1_toldPlace_17 rfl 0 rfl 18 rfl ?_
    refine j_bipush C dX1_toldPlace_18 (v := 6) c_bipush_6 20 rfl ?_
    refine j_idivc C dX1_toldPlace_20 (by decide) 21 rfl ?_
    refine j_imul C dX1_toldPlace_21 22 rfl ?_
    refine j_iload_n C dX1_toldPlace_22 rfl 0 rfl 23 rfl ?_
    refine j_bipush C dX1_toldPlace_23 (v := 6) c_bipush_6 25 rfl ?_
    refine j_iremc C dX1_toldPlace_25 (by decide) 26 rfl ?_
    refine j_iadd C dX1_toldPlace_26 27 rfl ?_
    refine j_goto C dX1_toldPlace_27 31 (by decide) ?_
    obtain rfl := Option.some.inj hf
    exact j_iret C hr hlk dX1_toldPlace_31
set_option maxRecDepth 100000 in
set_option maxHeartbeats 4000000 in
theorem c_X1_depthOf (l : Launch) (g : GG) (sz : Nat) (x mm : St) (k : Nat) (hk : isSh k = true) (a1 : Int32) (S : St) (r : Int32) (hf : X1_depthOf a1 S = some r) : Met l yX1_depthOf (.code yX1_depthOf cX1_depthOf 4 (some .int) :: ALLW) (rmJ 1 21) (PcJ g sz (put x k 7 S) mm [.ref (ad g k), .int a1]) (QiJ g sz r (put x k 7 S) mm) 0 0 (Ag sz) := by
  refine j_met (own := RX1) (by decide) rfl (Nat.le_of_ble_eq_true rfl) rfl ?_
  intro p e s m args below meth c C hr hlk
  have hL21 : ∀ (n : Nat), ∀ (b1 : Int32) (b2 : Int32) (b3 : Int32) (S : St), X1_depthOf_L21 n b1 b2 b3 S = some r → Wj p l e (rmJ 1 21) s m args below meth c (MQ below (QiJ g sz r (put x k 7 S) mm) args s 0 0 (Ag sz)) 4 g sz (put x k 7 S) mm 21 [(0, .ref (ad g k)), (1, .int b1), (2, .int b2), (3, .int b3)] [] := by
    intro  n
    induction n with
    | zero =>
      intro b1 b2 b3 S hf
      rw [X1_depthOf_L21] at hf
      cases hf
    | succ n ih =>
      intro b1 b2 b3 S hf
      rw [X1_depthOf_L21] at hf
      refine j_iload_n C dX1_depthOf_21 rfl 3 rfl 22 rfl ?_
      refine j_iconst C dX1_depthOf_22 (v := 3) c_iconst_3 23 rfl ?_
      refine j_icmp_ge C dX1_depthOf_23 44 (by decide) 26 rfl (fun c4 => ?_) (fun c4 => ?_)
      · rw [if_pos c4] at hf
        refine j_iload_n C dX1_depthOf_44 rfl 3 rfl 45 rfl ?_
        obtain rfl := Option.some.inj hf
        exact j_iret C hr hlk dX1_depthOf_45
      · rw [if_neg c4] at hf
        refine j_aload_n C dX1_depthOf_26 rfl 0 rfl 27 rfl ?_
        refine j1_get hk C 3 (by decide) qf_X1_21 (v := .ref (ad g (k + 4))) rfl dX1_depthOf_27 30 rfl ?_
        refine j_iload_n C dX1_depthOf_30 rfl 2 rfl 31 rfl ?_
        refine j_iload_n C dX1_depthOf_31 rfl 3 rfl 32 rfl ?_
        refine j_iadd C dX1_depthOf_32 33 rfl ?_
        obtain ⟨v5, hv5, hf⟩ := bnd hf
        refine j1_ald hk 4 (by decide) (by decide) C hv5 dX1_depthOf_33 34 rfl ?_
        refine j_iload_n C dX1_depthOf_34 rfl 1 rfl 35 rfl ?_
        refine j_icmp_eq C dX1_depthOf_35 44 (by decide) 38 rfl (fun c6 => ?_) (fun c6 => ?_)
        · rw [if_pos c6] at hf
          refine j_iload_n C dX1_depthOf_44 rfl 3 rfl 45 rfl ?_
          obtain rfl := Option.some.inj hf
          exact j_iret C hr hlk dX1_depthOf_45
        · rw [if_neg c6] at hf
          refine j_iinc (lv2 := [(3, .int (b3 + 1)), (0, .ref (ad g k)), (1, .int b1), (2, .int b2)]) C dX1_depthOf_38 (k := 3) rfl (congrArg (HAdd.hAdd b3) c_oi_1) (by decide) rfl 41 rfl ?_
          refine j_goto C dX1_depthOf_41 21 (by decide) ?_
          refine j_sub [1, 2, 3, 0] rfl ?_
          exact ih b1 b2 (b3 + 1) S hf
  unfold X1_depthOf at hf
  refine j_aload_n C dX1_depthOf_0 rfl 0 rfl 1 rfl ?_
  refine j_iload_n C dX1_depthOf_1 rfl 1 rfl 2 rfl ?_
  obtain ⟨r1, hr1, hf⟩ := bnd hf
  refine j_callVi (As := [.int a1]) (rest := []) C (c_X1_isOnShelf l g sz x mm k hk a1 S _ hr1) (j_cwV C qc_X1_isOnShelf qm_X1_49 qi_X1_isOnShelf qs_X1_isOnShelf qn_X1 hd_X1_isOnShelf ⟨rfl, rfl⟩ ⟨by decide, by decide⟩) ((rcv_sh hk).cell C.2) rfl (Nat.le_of_ble_eq_true rfl) dX1_depthOf_2 5 rfl ?_
  refine j_if_ne C dX1_depthOf_5 10 (by decide) 8 rfl (fun c2 => ?_) (fun c2 => ?_)
  · rw [if_neg c2] at hf
    refine j_aload_n C dX1_depthOf_10 rfl 0 rfl 11 rfl ?_
    refine j1_get hk C 1 (by decide) qf_X1_15 (v := .ref (ad g (k + 2))) rfl dX1_depthOf_11 14 rfl ?_
    refine j_iload_n C dX1_depthOf_14 rfl 1 rfl 15 rfl ?_
    obtain ⟨v3, hv3, hf⟩ := bnd hf
    refine j1_ald hk 2 (by decide) (by decide) C hv3 dX1_depthOf_15 16 rfl ?_
    refine j_iconst C dX1_depthOf_16 (v := 4) c_iconst_4 17 rfl ?_
    refine j_imul C dX1_depthOf_17 18 rfl ?_
    refine j_istore_n (lv2 := [(2, .int (v3 * 4)), (0, .ref (ad g k)), (1, .int a1)]) C dX1_depthOf_18 rfl (by decide) rfl 19 rfl ?_
    refine j_iconst C dX1_depthOf_19 (v := 0) c_iconst_0 20 rfl ?_
    refine j_istore_n (lv2 := [(3, .int 0), (2, .int (v3 * 4)), (0, .ref (ad g k)), (1, .int a1)]) C dX1_depthOf_20 rfl (by decide) rfl 21 rfl ?_
    refine j_sub [2, 3, 1, 0] rfl ?_
    exact hL21 FU a1 (v3 * 4) 0 S hf
  · rw [if_pos c2] at hf
    refine j_iconst C dX1_depthOf_8 (v := 0) c_iconst_0 9 rfl ?_
    obtain rfl := Option.some.inj hf
    exact j_iret C hr hlk dX1_depthOf_9
set_option maxRecDepth 100000 in
set_option maxHeartbeats 4000000 in
theorem c_X1_bitsAt (l : Launch) (g : GG) (sz : Nat) (x mm : St) (k : Nat) (hk : isSh k = true) (a1 : Int32) (S : St) (r : Int32) (hf : X1_bitsAt a1 S = some r) : Met l yX1_bitsAt (.code yX1_bitsAt cX1_bitsAt 4 (some .int) :: ALLW) (rmJ 0 0) (PcJ g sz (put x k 7 S) mm [.ref (ad g k), .int a1]) (QiJ g sz r (put x k 7 S) mm) 0 0 (Ag sz) := by
  refine j_met (own := RX1) (by decide) rfl (Nat.le_of_ble_eq_true rfl) rfl ?_
  intro p e s m args below meth c C hr hlk
  have hL4 : ∀ (n : Nat), ∀ (b1 : Int32) (b2 : Int32) (b3 : Int32) (S : St), X1_bitsAt_L4 n b1 b2 b3 S = some r → Wj p l e (rmJ 0 0) s m args below meth c (MQ below (QiJ g sz r (put x k 7 S) mm) args s 0 0 (Ag sz)) 4 g sz (put x k 7 S) mm 4 [(0, .ref (ad g k)), (1, .int b1), (2, .int b2), (3, .int b3)] [] := by
    intro  n
    induction n with
    | zero =>
      intro b1 b2 b3 S hf
      rw [X1_bitsAt_L4] at hf
      cases hf
    | succ n ih =>
      intro b1 b2 b3 S hf
      rw [X1_bitsAt_L4] at hf
      refine j_iload_n C dX1_bitsAt_4 rfl 3 rfl 5 rfl ?_
      refine j_aload_n C dX1_bitsAt_5 rfl 0 rfl 6 rfl ?_
      refine j1_get hk C 6 (by decide) qf_X1_30 (v := .int (S 0 6)) rfl dX1_bitsAt_6 9 rfl ?_
      refine j_icmp_ge C dX1_bitsAt_9 34 (by decide) 12 rfl (fun c1 => ?_) (fun c1 => ?_)
      · rw [if_pos c1] at hf
        refine j_iload_n C dX1_bitsAt_34 rfl 2 rfl 35 rfl ?_
        obtain rfl := Option.some.inj hf
        exact j_iret C hr hlk dX1_bitsAt_35
      · rw [if_neg c1] at hf
        refine j_aload_n C dX1_bitsAt_12 rfl 0 rfl 13 rfl ?_
        refine j1_get hk C 1 (by decide) qf_X1_15 (v := .ref (ad g (k + 2))) rfl dX1_bitsAt_13 16 rfl ?_
        refine j_iload_n C dX1_bitsAt_16 rfl 3 rfl 17 rfl ?_
        obtain ⟨v2, hv2, hf⟩ := bnd hf
        refine j1_ald hk 2 (by decide) (by decide) C hv2 dX1_bitsAt_17 18 rfl ?_
        refine j_iload_n C dX1_bitsAt_18 rfl 1 rfl 19 rfl ?_
        refine j_icmp_ne C dX1_bitsAt_19 28 (by decide) 22 rfl (fun c3 => ?_) (fun c3 => ?_)
        · rw [if_neg c3] at hf
          refine j_iinc (lv2 := [(3, .int (b3 + 1)), (0, .ref (ad g k)), (1, .int b1), (2, .int b2)]) C dX1_bitsAt_28 (k := 3) rfl (congrArg (HAdd.hAdd b3) c_oi_1) (by decide) rfl 31 rfl ?_
          refine j_goto C dX1_bitsAt_31 4 (by decide) ?_
          refine j_sub [1, 2, 3, 0] rfl ?_
          exact ih b1 b2 (b3 + 1) S hf
        · rw [if_pos c3] at hf
          refine j_iload_n C dX1_bitsAt_22 rfl 2 rfl 23 rfl ?_
          refine j_iconst C dX1_bitsAt_23 (v := 1) c_iconst_1 24 rfl ?_
          refine j_iload_n C dX1_bitsAt_24 rfl 3 rfl 25 rfl ?_
          refine j_ishl C dX1_bitsAt_25 26 rfl ?_
          refine j_ior C dX1_bitsAt_26 27 rfl ?_
          refine j_istore_n (lv2 := [(2, .int (b2 ||| (shl32 1 b3))), (0, .ref (ad g k)), (1, .int b1), (3, .int b3)]) C dX1_bitsAt_27 rfl (by decide) rfl 28 rfl ?_
          refine j_iinc (lv2 := [(3, .int (b3 + 1)), (2, .int (b2 ||| (shl32 1 b3))), (0, .ref (ad g k)), (1, .int b1)]) C dX1_bitsAt_28 (k := 3) rfl (congrArg (HAdd.hAdd b3) c_oi_1) (by decide) rfl 31 rfl ?_
          refine j_goto C dX1_bitsAt_31 4 (by decide) ?_
          refine j_sub [2, 3, 1, 0] rfl ?_
          exact ih b1 (b2 ||| (shl32 1 b3)) (b3 + 1) S hf
  unfold X1_bitsAt at hf
  refine j_iconst C dX1_bitsAt_0 (v := 0) c_iconst_0 1 rfl ?_
  refine j_istore_n (lv2 := [(2, .int 0), (0, .ref (ad g k)), (1, .int a1)]) C dX1_bitsAt_1 rfl (by decide) rfl 2 rfl ?_
  refine j_iconst C dX1_bitsAt_2 (v := 0) c_iconst_0 3 rfl ?_
  refine j_istore_n (lv2 := [(3, .int 0), (2, .int 0), (0, .ref (ad g k)), (1, .int a1)]) C dX1_bitsAt_3 rfl (by decide) rfl 4 rfl ?_
  refine j_sub [2, 3, 1, 0] rfl ?_
  exact hL4 FU a1 0 0 S hf
set_option maxRecDepth 100000 in
set_option maxHeartbeats 4000000 in
theorem c_X1_bitsOnShelf (l : Launch) (g : GG) (sz : Nat) (x mm : St) (k : Nat) (hk : isSh k = true) (S : St) (r : Int32) (hf : X1_bitsOnShelf S = some r) : Met l yX1_bitsOnShelf (.code yX1_bitsOnShelf cX1_bitsOnShelf 3 (some .int) :: ALLW) (rmJ 1 21) (PcJ g sz (put x k 7 S) mm [.ref (ad g k)]) (QiJ g sz r (put x k 7 S) mm) 0 0 (Ag sz) := by
  refine j_met (own := RX1) (by decide) rfl (Nat.le_of_ble_eq_true rfl) rfl ?_
  intro p e s m args below meth c C hr hlk
  have hL4 : ∀ (n : Nat), ∀ (b1 : Int32) (b2 : Int32) (S : St), X1_bitsOnShelf_L4 n b1 b2 S = some r → Wj p l e (rmJ 1 21) s m args below meth c (MQ below (QiJ g sz r (put x k 7 S) mm) args s 0 0 (Ag sz)) 3 g sz (put x k 7 S) mm 4 [(0, .ref (ad g k)), (1, .int b1), (2, .int b2)] [] := by
    intro  n
    induction n with
    | zero =>
      intro b1 b2 S hf
      rw [X1_bitsOnShelf_L4] at hf
      cases hf
    | succ n ih =>
      intro b1 b2 S hf
      rw [X1_bitsOnShelf_L4] at hf
      refine j_iload_n C dX1_bitsOnShelf_4 rfl 2 rfl 5 rfl ?_
      refine j_aload_n C dX1_bitsOnShelf_5 rfl 0 rfl 6 rfl ?_
      refine j1_get hk C 6 (by decide) qf_X1_30 (v := .int (S 0 6)) rfl dX1_bitsOnShelf_6 9 rfl ?_
      refine j_icmp_ge C dX1_bitsOnShelf_9 32 (by decide) 12 rfl (fun c1 => ?_) (fun c1 => ?_)
      · rw [if_pos c1] at hf
        refine j_iload_n C dX1_bitsOnShelf_32 rfl 1 rfl 33 rfl ?_
        obtain rfl := Option.some.inj hf
        exact j_iret C hr hlk dX1_bitsOnShelf_33
      · rw [if_neg c1] at hf
        refine j_aload_n C dX1_bitsOnShelf_12 rfl 0 rfl 13 rfl ?_
        refine j_iload_n C dX1_bitsOnShelf_13 rfl 2 rfl 14 rfl ?_
        obtain ⟨r2, hr2, hf⟩ := bnd hf
        refine j_callVi (As := [.int b2]) (rest := []) C (c_X1_isOnShelf l g sz x mm k hk b2 S _ hr2) (j_cwV C qc_X1_isOnShelf qm_X1_49 qi_X1_isOnShelf qs_X1_isOnShelf qn_X1 hd_X1_isOnShelf ⟨rfl, rfl⟩ ⟨by decide, by decide⟩) ((rcv_sh hk).cell C.2) rfl (Nat.le_of_ble_eq_true rfl) dX1_bitsOnShelf_14 17 rfl ?_
        refine j_if_eq C dX1_bitsOnShelf_17 26 (by decide) 20 rfl (fun c3 => ?_) (fun c3 => ?_)
        · rw [if_pos c3] at hf
          refine j_iinc (lv2 := [(2, .int (b2 + 1)), (0, .ref (ad g k)), (1, .int b1)]) C dX1_bitsOnShelf_26 (k := 2) rfl (congrArg (HAdd.hAdd b2) c_oi_1) (by decide) rfl 29 rfl ?_
          refine j_goto C dX1_bitsOnShelf_29 4 (by decide) ?_
          refine j_sub [1, 2, 0] rfl ?_
          exact ih b1 (b2 + 1) S hf
        · rw [if_neg c3] at hf
          refine j_iload_n C dX1_bitsOnShelf_20 rfl 1 rfl 21 rfl ?_
          refine j_iconst C dX1_bitsOnShelf_21 (v := 1) c_iconst_1 22 rfl ?_
          refine j_iload_n C dX1_bitsOnShelf_22 rfl 2 rfl 23 rfl ?_
          refine j_ishl C dX1_bitsOnShelf_23 24 rfl ?_
          refine j_ior C dX1_bitsOnShelf_24 25 rfl ?_
          refine j_istore_n (lv2 := [(1, .int (b1 ||| (shl32 1 b2))), (0, .ref (ad g k)), (2, .int b2)]) C dX1_bitsOnShelf_25 rfl (by decide) rfl 26 rfl ?_
          refine j_iinc (lv2 := [(2, .int (b2 + 1)), (1, .int (b1 ||| (shl32 1 b2))), (0, .ref (ad g k))]) C dX1_bitsOnShelf_26 (k := 2) rfl (congrArg (HAdd.hAdd b2) c_oi_1) (by decide) rfl 29 rfl ?_
          refine j_goto C dX1_bitsOnShelf_29 4 (by decide) ?_
          refine j_sub [2, 1, 0] rfl ?_
          exact ih (b1 ||| (shl32 1 b2)) (b2 + 1) S hf
  unfold X1_bitsOnShelf at hf
  refine j_iconst C dX1_bitsOnShelf_0 (v := 0) c_iconst_0 1 rfl ?_
  refine j_istore_n (lv2 := [(1, .int 0), (0, .ref (ad g k))]) C dX1_bitsOnShelf_1 rfl (by decide) rfl 2 rfl ?_
  refine j_iconst C dX1_bitsOnShelf_2 (v := 0) c_iconst_0 3 rfl ?_
  refine j_istore_n (lv2 := [(2, .int 0), (1, .int 0), (0, .ref (ad g k))]) C dX1_bitsOnShelf_3 rfl (by decide) rfl 4 rfl ?_
  refine j_sub [2, 1, 0] rfl ?_
  exact hL4 FU 0 0 S hf
set_option maxRecDepth 100000 in
set_option maxHeartbeats 4000000 in
theorem c_X1_worthOf (l : Launch) (g : GG) (sz : Nat) (x mm : St) (k : Nat) (hk : isSh k = true) (a1 : Int32) (S : St) (r : Int32) (hf : X1_worthOf a1 S = some r) : Met l yX1_worthOf (.code yX1_worthOf cX1_worthOf 4 (some .int) :: ALLW) (rmJ 0 0) (PcJ g sz (put x k 7 S) mm [.ref (ad g k), .int a1]) (QiJ g sz r (put x k 7 S) mm) 0 0 (Ag sz) := by
  refine j_met (own := RX1) (by decide) rfl (Nat.le_of_ble_eq_true rfl) rfl ?_
  intro p e s m args below meth c C hr hlk
  have hL4 : ∀ (n : Nat), ∀ (b1 : Int32) (b2 : Int32) (b3 : Int32) (S : St), X1_worthOf_L4 n b1 b2 b3 S = some r → Wj p l e (rmJ 0 0) s m args below meth c (MQ below (QiJ g sz r (put x k 7 S) mm) args s 0 0 (Ag sz)) 4 g sz (put x k 7 S) mm 4 [(0, .ref (ad g k)), (1, .int b1), (2, .int b2), (3, .int b3)] [] := by
    intro  n
    induction n with
    | zero =>
      intro b1 b2 b3 S hf
      rw [X1_worthOf_L4] at hf
      cases hf
    | succ n ih =>
      intro b1 b2 b3 S hf
      rw [X1_worthOf_L4] at hf
      refine j_iload_n C dX1_worthOf_4 rfl 3 rfl 5 rfl ?_
      refine j_aload_n C dX1_worthOf_5 rfl 0 rfl 6 rfl ?_
      refine j1_get hk C 6 (by decide) qf_X1_30 (v := .int (S 0 6)) rfl dX1_worthOf_6 9 rfl ?_
      refine j_icmp_ge C dX1_worthOf_9 40 (by decide) 12 rfl (fun c1 => ?_) (fun c1 => ?_)
      · rw [if_pos c1] at hf
        refine j_iload_n C dX1_worthOf_40 rfl 2 rfl 41 rfl ?_
        obtain rfl := Option.some.inj hf
        exact j_iret C hr hlk dX1_worthOf_41
      · rw [if_neg c1] at hf
        refine j_iload_n C dX1_worthOf_12 rfl 1 rfl 13 rfl ?_
        refine j_iload_n C dX1_worthOf_13 rfl 3 rfl 14 rfl ?_
        refine j_iushr C dX1_worthOf_14 15 rfl ?_
        refine j_iconst C dX1_worthOf_15 (v := 1) c_iconst_1 16 rfl ?_
        refine j_iand C dX1_worthOf_16 17 rfl ?_
        refine j_iconst C dX1_worthOf_17 (v := 1) c_iconst_1 18 rfl ?_
        refine j_icmp_ne C dX1_worthOf_18 34 (by decide) 21 rfl (fun c2 => ?_) (fun c2 => ?_)
        · rw [if_neg c2] at hf
          refine j_iinc (lv2 := [(3, .int (b3 + 1)), (0, .ref (ad g k)), (1, .int b1), (2, .int b2)]) C dX1_worthOf_34 (k := 3) rfl (congrArg (HAdd.hAdd b3) c_oi_1) (by decide) rfl 37 rfl ?_
          refine j_goto C dX1_worthOf_37 4 (by decide) ?_
          refine j_sub [1, 2, 3, 0] rfl ?_
          exact ih b1 b2 (b3 + 1) S hf
        · rw [if_pos c2] at hf
          refine j_iload_n C dX1_worthOf_21 rfl 2 rfl 22 rfl ?_
          refine j_getsN C 1 (by decide) C.2.2.2.2.2.1.1 dX1_worthOf_22 25 rfl ?_
          refine j_aload_n C dX1_worthOf_25 rfl 0 rfl 26 rfl ?_
          refine j1_get hk C 0 (by decide) qf_X1_9 (v := .ref (ad g (k + 1))) rfl dX1_worthOf_26 29 rfl ?_
          refine j_iload_n C dX1_worthOf_29 rfl 3 rfl 30 rfl ?_
          obtain ⟨v3, hv3, hf⟩ := bnd hf
          refine j1_ald hk 1 (by decide) (by decide) C hv3 dX1_worthOf_30 31 rfl ?_
          obtain ⟨v4, hv4, hf⟩ := bnd hf
          refine j_sald C 1 (by decide) hv4 dX1_worthOf_31 32 rfl ?_
          refine j_iadd C dX1_worthOf_32 33 rfl ?_
          refine j_istore_n (lv2 := [(2, .int (b2 + v4)), (0, .ref (ad g k)), (1, .int b1), (3, .int b3)]) C dX1_worthOf_33 rfl (by decide) rfl 34 rfl ?_
          refine j_iinc (lv2 := [(3, .int (b3 + 1)), (2, .int (b2 + v4)), (0, .ref (ad g k)), (1, .int b1)]) C dX1_worthOf_34 (k := 3) rfl (congrArg (HAdd.hAdd b3) c_oi_1) (by decide) rfl 37 rfl ?_
          refine j_goto C dX1_worthOf_37 4 (by decide) ?_
          refine j_sub [2, 3, 1, 0] rfl ?_
          exact ih b1 (b2 + v4) (b3 + 1) S hf
  unfold X1_worthOf at hf
  refine j_iconst C dX1_worthOf_0 (v := 0) c_iconst_0 1 rfl ?_
  refine j_istore_n (lv2 := [(2, .int 0), (0, .ref (ad g k)), (1, .int a1)]) C dX1_worthOf_1 rfl (by decide) rfl 2 rfl ?_
  refine j_iconst C dX1_worthOf_2 (v := 0) c_iconst_0 3 rfl ?_
  refine j_istore_n (lv2 := [(3, .int 0), (2, .int 0), (0, .ref (ad g k)), (1, .int a1)]) C dX1_worthOf_3 rfl (by decide) rfl 4 rfl ?_
  refine j_sub [2, 3, 1, 0] rfl ?_
  exact hL4 FU a1 0 0 S hf
set_option maxRecDepth 100000 in
set_option maxHeartbeats 4000000 in
theorem c_X1_worthAt (l : Launch) (g : GG) (sz : Nat) (x mm : St) (k : Nat) (hk : isSh k = true) (a1 : Int32) (S : St) (r : Int32) (hf : X1_worthAt a1 S = some r) : Met l yX1_worthAt (.code yX1_worthAt cX1_worthAt 2 (some .int) :: ALLW) (rmJ 1 23) (PcJ g sz (put x k 7 S) mm [.ref (ad g k), .int a1]) (QiJ g sz r (put x k 7 S) mm) 0 0 (Ag sz) := by
  refine j_met (own := RX1) (by decide) rfl (Nat.le_of_ble_eq_true rfl) rfl ?_
  intro p e s m args below meth c C hr hlk
  unfold X1_worthAt at hf
  refine j_aload_n C dX1_worthAt_0 rfl 0 rfl 1 rfl ?_
  refine j_aload_n C dX1_worthAt_1 rfl 0 rfl 2 rfl ?_
  refine j_iload_n C dX1_worthAt_2 rfl 1 rfl 3 rfl ?_
  obtain ⟨r1, hr1, hf⟩ := bnd hf
  refine j_callVi (As := [.int a1]) (rest := [.ref (ad g k)]) C (c_X1_bitsAt l g sz x mm k hk a1 S _ hr1) (j_cwV C qc_X1_bitsAt qm_X1_53 qi_X1_bitsAt qs_X1_bitsAt qn_X1 hd_X1_bitsAt ⟨rfl, rfl⟩ ⟨by decide, by decide⟩) ((rcv_sh hk).cell C.2) rfl (Nat.le_of_ble_eq_true rfl) dX1_worthAt_3 6 rfl ?_
  obtain ⟨r2, hr2, hf⟩ := bnd hf
  refine j_callVi (As := [.int r1]) (rest := []) C (c_X1_worthOf l g sz x mm k hk r1 S _ hr2) (j_cwV C qc_X1_worthOf qm_X1_57 qi_X1_worthOf qs_X1_worthOf qn_X1 hd_X1_worthOf ⟨rfl, rfl⟩ ⟨by decide, by decide⟩) ((rcv_sh hk).cell C.2) rfl (Nat.le_of_ble_eq_true rfl) dX1_worthAt_6 9 rfl ?_
  obtain rfl := Option.some.inj hf
  exact j_iret C hr hlk dX1_worthAt_9
set_option maxRecDepth 100000 in
set_option maxHeartbeats 4000000 in
theorem c_J6_bitCount_0f7a4 (l : Launch) (g : GG) (sz : Nat) (x mm : St) (a0 : Int32) (r : Int32) (hf : J6_bitCount_0f7a4 a0 = r) : Met l yJ6_bitCount_0f7a4 (.code yJ6_bitCount_0f7a4 cJ6_bitCount_0f7a4 1 (some .int) :: ALLW) (rmJ 0 0) (PcJ g sz x mm [.int a0]) (QiJ g sz r x mm) 0 0 (Ag sz) := by
  refine j_met (own := RJ6) (by decide) rfl (Nat.le_of_ble_eq_true rfl) rfl ?_
  intro p e s m args below meth c C hr hlk
  unfold J6_bitCount_0f7a4 at hf
  refine j_iload_n C dJ6_bitCount_0f7a4_0 rfl 0 rfl 1 rfl ?_
  refine j_iload_n C dJ6_bitCount_0f7a4_1 rfl 0 rfl 2 rfl ?_
  refine j_iconst C dJ6_bitCount_0f7a4_2 (v := 1) c_iconst_1 3 rfl ?_
  refine j_iushr C dJ6_bitCount_0f7a4_3 4 rfl ?_
  refine j_ldcw C dJ6_bitCount_0f7a4_4 qk_J6_265 7 rfl ?_
  refine j_iand C dJ6_bitCount_0f7a4_7 8 rfl ?_
  refine j_isub C dJ6_bitCount_0f7a4_8 9 rfl ?_
  refine j_istore_n (lv2 := [(0, .int (a0 - ((ush32 a0 1) &&& 1431655765)))]) C dJ6_bitCount_0f7a4_9 rfl (by decide) rfl 10 rfl ?_
  refine j_iload_n C dJ6_bitCount_0f7a4_10 rfl 0 rfl 11 rfl ?_
  refine j_ldcw C dJ6_bitCount_0f7a4_11 qk_J6_266 14 rfl ?_
  refine j_iand C dJ6_bitCount_0f7a4_14 15 rfl ?_
  refine j_iload_n C dJ6_bitCount_0f7a4_15 rfl 0 rfl 16 rfl ?_
  refine j_iconst C dJ6_bitCount_0f7a4_16 (v := 2) c_iconst_2 17 rfl ?_
  refine j_iushr C dJ6_bitCount_0f7a4_17 18 rfl ?_
  refine j_ldcw C dJ6_bitCount_0f7a4_18 qk_J6_266 21 rfl ?_
  refine j_iand C dJ6_bitCount_0f7a4_21 22 rfl ?_
  refine j_iadd C dJ6_bitCount_0f7a4_22 23 rfl ?_
  refine j_istore_n (lv2 := [(0, .int (((a0 - ((ush32 a0 1) &&& 1431655765)) &&& 858993459) + ((ush32 (a0 - ((ush32 a0 1) &&& 1431655765)) 2) &&& 858993459)))]) C dJ6_bitCount_0f7a4_23 rfl (by decide) rfl 24 rfl ?_
  refine j_iload_n C dJ6_bitCount_0f7a4_24 rfl 0 rfl 25 rfl ?_
  refine j_iload_n C dJ6_bitCount_0f7a4_25 rfl 0 rfl 26 rfl ?_
  refine j_iconst C dJ6_bitCount_0f7a4_26 (v := 4) c_iconst_4 27 rfl ?_
  refine j_iushr C dJ6_bitCount_0f7a4_27 28 rfl ?_
  refine j_iadd C dJ6_bitCount_0f7a4_28 29 rfl ?_
  refine j_ldcw C dJ6_bitCount_0f7a4_29 qk_J6_267 32 rfl ?_
  refine j_iand C dJ6_bitCount_0f7a4_32 33 rfl ?_
  refine j_istore_n (lv2 := [(0, .int (((((a0 - ((ush32 a0 1) &&& 1431655765)) &&& 858993459) + ((ush32 (a0 - ((ush32 a0 1) &&& 1431655765)) 2) &&& 858993459)) + (ush32 (((a0 - ((ush32 a0 1) &&& 1431655765)) &&& 858993459) + ((ush32 (a0 - ((ush32 a0 1) &&& 1431655765)) 2) &&& 858993459)) 4)) &&& 252645135))]) C dJ6_bitCount_0f7a4_33 rfl (by decide) rfl 34 rfl ?_
  refine j_iload_n C dJ6_bitCount_0f7a4_34 rfl 0 rfl 35 rfl ?_
  refine j_iload_n C dJ6_bitCount_0f7a4_35 rfl 0 rfl 36 rfl ?_
  refine j_bipush C dJ6_bitCount_0f7a4_36 (v := 8) c_bipush_8 38 rfl ?_
  refine j_iushr C dJ6_bitCount_0f7a4_38 39 rfl ?_
  refine j_iadd C dJ6_bitCount_0f7a4_39 40 rfl ?_
  refine j_istore_n (lv2 := [(0, .int ((((((a0 - ((ush32 a0 1) &&& 1431655765)) &&& 858993459) + ((ush32 (a0 - ((ush32 a0 1) &&& 1431655765)) 2) &&& 858993459)) + (ush32 (((a0 - ((ush32 a0 1) &&& 1431655765)) &&& 858993459) + ((ush32 (a0 - ((ush32 a0 1) &&& 1431655765)) 2) &&& 858993459)) 4)) &&& 252645135) + (ush32 (((((a0 - ((ush32 a0 1) &&& 1431655765)) &&& 858993459) + ((ush32 (a0 - ((ush32 a0 1) &&& 1431655765)) 2) &&& 858993459)) + (ush32 (((a0 - ((ush32 a0 1) &&& 1431655765)) &&& 858993459) + ((ush32 (a0 - ((ush32 a0 1) &&& 1431655765)) 2) &&& 858993459)) 4)) &&& 252645135) 8)))]) C dJ6_bitCount_0f7a4_40 rfl (by decide) rfl 41 rfl ?_
  refine j_iload_n C dJ6_bitCount_0f7a4_41 rfl 0 rfl 42 rfl ?_
  refine j_iload_n C dJ6_bitCount_0f7a4_42 rfl 0 rfl 43 rfl ?_
  refine j_bipush C dJ6_bitCount_0f7a4_43 (v := 16) c_bipush_16 45 rfl ?_
  refine j_iushr C dJ6_bitCount_0f7a4_45 46 rfl ?_
  refine j_iadd C dJ6_bitCount_0f7a4_46 47 rfl ?_
  refine j_istore_n (lv2 := [(0, .int (((((((a0 - ((ush32 a0 1) &&& 1431655765)) &&& 858993459) + ((ush32 (a0 - ((ush32 a0 1) &&& 1431655765)) 2) &&& 858993459)) + (ush32 (((a0 - ((ush32 a0 1) &&& 1431655765)) &&& 858993459) + ((ush32 (a0 - ((ush32 a0 1) &&& 1431655765)) 2) &&& 858993459)) 4)) &&& 252645135) + (ush32 (((((a0 - ((ush32 a0 1) &&& 1431655765)) &&& 858993459) + ((ush32 (a0 - ((ush32 a0 1) &&& 1431655765)) 2) &&& 858993459)) + (ush32 (((a0 - ((ush32 a0 1) &&& 1431655765)) &&& 858993459) + ((ush32 (a0 - ((ush32 a0 1) &&& 1431655765)) 2) &&& 858993459)) 4)) &&& 252645135) 8)) + (ush32 ((((((a0 - ((ush32 a0 1) &&& 1431655765)) &&& 858993459) + ((ush32 (a0 - ((ush32 a0 1) &&& 1431655765)) 2) &&& 858993459)) + (ush32 (((a0 - ((ush32 a0 1) &&& 1431655765)) &&& 858993459) + ((ush32 (a0 - ((ush32 a0 1) &&& 1431655765)) 2) &&& 858993459)) 4)) &&& 252645135) + (ush32 (((((a0 - ((ush32 a0 1) &&& 1431655765)) &&& 858993459) + ((ush32 (a0 - ((ush32 a0 1) &&& 1431655765)) 2) &&& 858993459)) + (ush32 (((a0 - ((ush32 a0 1) &&& 1431655765)) &&& 858993459) + ((ush32 (a0 - ((ush32 a0 1) &&& 1431655765)) 2) &&& 858993459)) 4)) &&& 252645135) 8)) 16)))]) C dJ6_bitCount_0f7a4_47 rfl (by decide) rfl 48 rfl ?_
  refine j_iload_n C dJ6_bitCount_0f7a4_48 rfl 0 rfl 49 rfl ?_
  refine j_bipush C dJ6_bitCount_0f7a4_49 (v := 63) c_bipush_63 51 rfl ?_
  refine j_iand C dJ6_bitCount_0f7a4_51 52 rfl ?_
  subst hf
  exact j_iret C hr hlk dJ6_bitCount_0f7a4_52
set_option maxRecDepth 100000 in
set_option maxHeartbeats 4000000 in
theorem c_X1_goneOver (l : Launch) (g : GG) (sz : Nat) (x mm : St) (k : Nat) (hk : isSh k = true) (S : St) (r : Int32) (hf : X1_goneOver S = some r) : Met l yX1_goneOver (.code yX1_goneOver cX1_goneOver 1 (some .int) :: ALLW) (rmJ 1 23) (PcJ g sz (put x k 7 S) mm [.ref (ad g k)]) (QiJ g sz r (put x k 7 S) mm) 0 0 (Ag sz) := by
  refine j_met (own := RX1) (by decide) rfl (Nat.le_of_ble_eq_true rfl) rfl ?_
  intro p e s m args below meth c C hr hlk
  unfold X1_goneOver at hf
  refine j_aload_n C dX1_goneOver_0 rfl 0 rfl 1 rfl ?_
  refine j_bipush C dX1_goneOver_1 (v := 101) c_bipush_101 3 rfl ?_
  obtain ⟨r1, hr1, hf⟩ := bnd hf
  refine j_callVi (As := [.int 101]) (rest := []) C (c_X1_bitsAt l g sz x mm k hk 101 S _ hr1) (j_cwV C qc_X1_bitsAt qm_X1_53 qi_X1_bitsAt qs_X1_bitsAt qn_X1 hd_X1_bitsAt ⟨rfl, rfl⟩ ⟨by decide, by decide⟩) ((rcv_sh hk).cell C.2) rfl (Nat.le_of_ble_eq_true rfl) dX1_goneOver_3 6 rfl ?_
  refine j_aload_n C dX1_goneOver_6 rfl 0 rfl 7 rfl ?_
  refine j_bipush C dX1_goneOver_7 (v := 102) c_bipush_102 9 rfl ?_
  obtain ⟨r2, hr2, hf⟩ := bnd hf
  refine j_callVi (As := [.int 102]) (rest := [.int r1]) C (c_X1_bitsAt l g sz x mm k hk 102 S _ hr2) (j_cwV C qc_X1_bitsAt qm_X1_53 qi_X1_bitsAt qs_X1_bitsAt qn_X1 hd_X1_bitsAt ⟨rfl, rfl⟩ ⟨by decide, by decide⟩) ((rcv_sh hk).cell C.2) rfl (Nat.le_of_ble_eq_true rfl) dX1_goneOver_9 12 rfl ?_
  refine j_ior C dX1_goneOver_12 13 rfl ?_
  refine j_callSi (As := [.int (r1 ||| r2)]) (rest := []) C (c_J6_bitCount_0f7a4 l g sz (put x k 7 S) mm (r1 ||| r2) _ rfl) (j_cwO C qc_J6_bitCount_0f7a4 qm_X1_63 qs_J6_bitCount_0f7a4 qn_J6 hd_J6_bitCount_0f7a4 ⟨rfl, rfl⟩ ⟨by decide, by decide⟩)  rfl (Nat.le_of_ble_eq_true rfl) dX1_goneOver_13 16 rfl ?_
  obtain rfl := Option.some.inj hf
  exact j_iret C hr hlk dX1_goneOver_16
set_option maxRecDepth 100000 in
set_option maxHeartbeats 4000000 in
theorem c_X1_leastInHand (l : Launch) (g : GG) (sz : Nat) (x mm : St) (k : Nat) (hk : isSh k = true) (S : St) (r : Int32) (hf : X1_leastInHand S = some r) : Met l yX1_leastInHand (.code yX1_leastInHand cX1_leastInHand 2 (some .int) :: ALLW) (rmJ 0 0) (PcJ g sz (put x k 7 S) mm [.ref (ad g k)]) (QiJ g sz r (put x k 7 S) mm) 0 0 (Ag sz) := by
  refine j_met (own := RX1) (by decide) rfl (Nat.le_of_ble_eq_true rfl) rfl ?_
  intro p e s m args below meth c C hr hlk
  have hL2 : ∀ (n : Nat), ∀ (b1 : Int32) (S : St), X1_leastInHand_L2 n b1 S = some r → Wj p l e (rmJ 0 0) s m args below meth c (MQ below (QiJ g sz r (put x k 7 S) mm) args s 0 0 (Ag sz)) 2 g sz (put x k 7 S) mm 2 [(0, .ref (ad g k)), (1, .int b1)] [] := by
    intro  n
    induction n with
    | zero =>
      intro b1 S hf
      rw [X1_leastInHand_L2] at hf
      cases hf
    | succ n ih =>
      intro b1 S hf
      rw [X1_leastInHand_L2] at hf
      refine j_iload_n C dX1_leastInHand_2 rfl 1 rfl 3 rfl ?_
      refine j_aload_n C dX1_leastInHand_3 rfl 0 rfl 4 rfl ?_
      refine j1_get hk C 6 (by decide) qf_X1_30 (v := .int (S 0 6)) rfl dX1_leastInHand_4 7 rfl ?_
      refine j_icmp_ge C dX1_leastInHand_7 29 (by decide) 10 rfl (fun c1 => ?_) (fun c1 => ?_)
      · rw [if_pos c1] at hf
        refine j_iconst C dX1_leastInHand_29 (v := (-1)) c_iconst_m1 30 rfl ?_
        obtain rfl := Option.some.inj hf
        exact j_iret C hr hlk dX1_leastInHand_30
      · rw [if_neg c1] at hf
        refine j_aload_n C dX1_leastInHand_10 rfl 0 rfl 11 rfl ?_
        refine j1_get hk C 1 (by decide) qf_X1_15 (v := .ref (ad g (k + 2))) rfl dX1_leastInHand_11 14 rfl ?_
        refine j_iload_n C dX1_leastInHand_14 rfl 1 rfl 15 rfl ?_
        obtain ⟨v2, hv2, hf⟩ := bnd hf
        refine j1_ald hk 2 (by decide) (by decide) C hv2 dX1_leastInHand_15 16 rfl ?_
        refine j_bipush C dX1_leastInHand_16 (v := 100) c_bipush_100 18 rfl ?_
        refine j_icmp_ne C dX1_leastInHand_18 23 (by decide) 21 rfl (fun c3 => ?_) (fun c3 => ?_)
        · rw [if_neg c3] at hf
          refine j_iinc (lv2 := [(1, .int (b1 + 1)), (0, .ref (ad g k))]) C dX1_leastInHand_23 (k := 1) rfl (congrArg (HAdd.hAdd b1) c_oi_1) (by decide) rfl 26 rfl ?_
          refine j_goto C dX1_leastInHand_26 2 (by decide) ?_
          refine j_sub [1, 0] rfl ?_
          exact ih (b1 + 1) S hf
        · rw [if_pos c3] at hf
          refine j_iload_n C dX1_leastInHand_21 rfl 1 rfl 22 rfl ?_
          obtain rfl := Option.some.inj hf
          exact j_iret C hr hlk dX1_leastInHand_22
  unfold X1_leastInHand at hf
  refine j_iconst C dX1_leastInHand_0 (v := 0) c_iconst_0 1 rfl ?_
  refine j_istore_n (lv2 := [(1, .int 0), (0, .ref (ad g k))]) C dX1_leastInHand_1 rfl (by decide) rfl 2 rfl ?_
  refine j_sub [1, 0] rfl ?_
  exact hL2 FU 0 S hf
set_option maxRecDepth 100000 in
set_option maxHeartbeats 4000000 in
theorem c_X1_gain (l : Launch) (g : GG) (sz : Nat) (x mm : St) (k : Nat) (hk : isSh k = true) (S : St) (r : Int32) (hf : X1_gain S = some r) : Met l yX1_gain (.code yX1_gain cX1_gain 1 (some .int) :: ALLW) (rmJ 2 44) (PcJ g sz (put x k 7 S) mm [.ref (ad g k)]) (QiJ g sz r (put x k 7 S) mm) 0 0 (Ag sz) := by
  refine j_met (own := RX1) (by decide) rfl (Nat.le_of_ble_eq_true rfl) rfl ?_
  intro p e s m args below meth c C hr hlk
  unfold X1_gain at hf
  refine j_aload_n C dX1_gain_0 rfl 0 rfl 1 rfl ?_
  refine j_bipush C dX1_gain_1 (v := 101) c_bipush_101 3 rfl ?_
  obtain ⟨r1, hr1, hf⟩ := bnd hf
  refine j_callVi (As := [.int 101]) (rest := []) C (c_X1_worthAt l g sz x mm k hk 101 S _ hr1) (j_cwV C qc_X1_worthAt qm_X1_68 qi_X1_worthAt qs_X1_worthAt qn_X1 hd_X1_worthAt ⟨rfl, rfl⟩ ⟨by decide, by decide⟩) ((rcv_sh hk).cell C.2) rfl (Nat.le_of_ble_eq_true rfl) dX1_gain_3 6 rfl ?_
  refine j_aload_n C dX1_gain_6 rfl 0 rfl 7 rfl ?_
  refine j1_get hk C 8 (by decide) qf_X1_37 (v := .int (S 0 8)) rfl dX1_gain_7 10 rfl ?_
  refine j_isub C dX1_gain_10 11 rfl ?_
  obtain rfl := Option.some.inj hf
  exact j_iret C hr hlk dX1_gain_11
set_option maxRecDepth 100000 in
set_option maxHeartbeats 4000000 in
theorem c_X1_manyStacks (l : Launch) (g : GG) (sz : Nat) (x mm : St) (k : Nat) (hk : isSh k = true) (S : St) (r : Int32) (hf : X1_manyStacks S = some r) : Met l yX1_manyStacks (.code yX1_manyStacks cX1_manyStacks 3 (some .int) :: ALLW) (rmJ 0 0) (PcJ g sz (put x k 7 S) mm [.ref (ad g k)]) (QiJ g sz r (put x k 7 S) mm) 0 0 (Ag sz) := by
  refine j_met (own := RX1) (by decide) rfl (Nat.le_of_ble_eq_true rfl) rfl ?_
  intro p e s m args below meth c C hr hlk
  have hL4 : ∀ (n : Nat), ∀ (b1 : Int32) (b2 : Int32) (S : St), X1_manyStacks_L4 n b1 b2 S = some r → Wj p l e (rmJ 0 0) s m args below meth c (MQ below (QiJ g sz r (put x k 7 S) mm) args s 0 0 (Ag sz)) 3 g sz (put x k 7 S) mm 4 [(0, .ref (ad g k)), (1, .int b1), (2, .int b2)] [] := by
    intro  n
    induction n with
    | zero =>
      intro b1 b2 S hf
      rw [X1_manyStacks_L4] at hf
      cases hf
    | succ n ih =>
      intro b1 b2 S hf
      rw [X1_manyStacks_L4] at hf
      refine j_iload_n C dX1_manyStacks_4 rfl 2 rfl 5 rfl ?_
      refine j_bipush C dX1_manyStacks_5 (v := 42) c_bipush_42 7 rfl ?_
      refine j_icmp_ge C dX1_manyStacks_7 28 (by decide) 10 rfl (fun c1 => ?_) (fun c1 => ?_)
      · rw [if_pos c1] at hf
        refine j_iload_n C dX1_manyStacks_28 rfl 1 rfl 29 rfl ?_
        obtain rfl := Option.some.inj hf
        exact j_iret C hr hlk dX1_manyStacks_29
      · rw [if_neg c1] at hf
        refine j_aload_n C dX1_manyStacks_10 rfl 0 rfl 11 rfl ?_
        refine j1_get hk C 2 (by decide) qf_X1_18 (v := .ref (ad g (k + 3))) rfl dX1_manyStacks_11 14 rfl ?_
        refine j_iload_n C dX1_manyStacks_14 rfl 2 rfl 15 rfl ?_
        obtain ⟨v2, hv2, hf⟩ := bnd hf
        refine j1_ald hk 3 (by decide) (by decide) C hv2 dX1_manyStacks_15 16 rfl ?_
        refine j_if_le C dX1_manyStacks_16 22 (by decide) 19 rfl (fun c3 => ?_) (fun c3 => ?_)
        · rw [if_pos c3] at hf
          refine j_iinc (lv2 := [(2, .int (b2 + 1)), (0, .ref (ad g k)), (1, .int b1)]) C dX1_manyStacks_22 (k := 2) rfl (congrArg (HAdd.hAdd b2) c_oi_1) (by decide) rfl 25 rfl ?_
          refine j_goto C dX1_manyStacks_25 4 (by decide) ?_
          refine j_sub [1, 2, 0] rfl ?_
          exact ih b1 (b2 + 1) S hf
        · rw [if_neg c3] at hf
          refine j_iinc (lv2 := [(1, .int (b1 + 1)), (0, .ref (ad g k)), (2, .int b2)]) C dX1_manyStacks_19 (k := 1) rfl (congrArg (HAdd.hAdd b1) c_oi_1) (by decide) rfl 22 rfl ?_
          refine j_iinc (lv2 := [(2, .int (b2 + 1)), (1, .int (b1 + 1)), (0, .ref (ad g k))]) C dX1_manyStacks_22 (k := 2) rfl (congrArg (HAdd.hAdd b2) c_oi_1) (by decide) rfl 25 rfl ?_
          refine j_goto C dX1_manyStacks_25 4 (by decide) ?_
          refine j_sub [2, 1, 0] rfl ?_
          exact ih (b1 + 1) (b2 + 1) S hf
  unfold X1_manyStacks at hf
  refine j_iconst C dX1_manyStacks_0 (v := 0) c_iconst_0 1 rfl ?_
  refine j_istore_n (lv2 := [(1, .int 0), (0, .ref (ad g k))]) C dX1_manyStacks_1 rfl (by decide) rfl 2 rfl ?_
  refine j_iconst C dX1_manyStacks_2 (v := 0) c_iconst_0 3 rfl ?_
  refine j_istore_n (lv2 := [(2, .int 0), (1, .int 0), (0, .ref (ad g k))]) C dX1_manyStacks_3 rfl (by decide) rfl 4 rfl ?_
  refine j_sub [2, 1, 0] rfl ?_
  exact hL4 FU 0 0 S hf
set_option maxRecDepth 100000 in
set_option maxHeartbeats 4000000 in
theorem c_X1_highest (l : Launch) (g : GG) (sz : Nat) (x mm : St) (k : Nat) (hk : isSh k = true) (S : St) (r : Int32) (hf : X1_highest S = some r) : Met l yX1_highest (.code yX1_highest cX1_highest 3 (some .int) :: ALLW) (rmJ 1 21) (PcJ g sz (put x k 7 S) mm [.ref (ad g k)]) (QiJ g sz r (put x k 7 S) mm) 0 0 (Ag sz) := by
  refine j_met (own := RX1) (by decide) rfl (Nat.le_of_ble_eq_true rfl) rfl ?_
  intro p e s m args below meth c C hr hlk
  have hL4 : ∀ (n : Nat), ∀ (b1 : Int32) (b2 : Int32) (S : St), X1_highest_L4 n b1 b2 S = some r → Wj p l e (rmJ 1 21) s m args below meth c (MQ below (QiJ g sz r (put x k 7 S) mm) args s 0 0 (Ag sz)) 3 g sz (put x k 7 S) mm 4 [(0, .ref (ad g k)), (1, .int b1), (2, .int b2)] [] := by
    intro  n
    induction n with
    | zero =>
      intro b1 b2 S hf
      rw [X1_highest_L4] at hf
      cases hf
    | succ n ih =>
      intro b1 b2 S hf
      rw [X1_highest_L4] at hf
      refine j_iload_n C dX1_highest_4 rfl 2 rfl 5 rfl ?_
      refine j_bipush C dX1_highest_5 (v := 42) c_bipush_42 7 rfl ?_
      refine j_icmp_ge C dX1_highest_7 27 (by decide) 10 rfl (fun c1 => ?_) (fun c1 => ?_)
      · rw [if_pos c1] at hf
        refine j_iload_n C dX1_highest_27 rfl 1 rfl 28 rfl ?_
        obtain rfl := Option.some.inj hf
        exact j_iret C hr hlk dX1_highest_28
      · rw [if_neg c1] at hf
        refine j_iload_n C dX1_highest_10 rfl 1 rfl 11 rfl ?_
        refine j_aload_n C dX1_highest_11 rfl 0 rfl 12 rfl ?_
        refine j1_get hk C 2 (by decide) qf_X1_18 (v := .ref (ad g (k + 3))) rfl dX1_highest_12 15 rfl ?_
        refine j_iload_n C dX1_highest_15 rfl 2 rfl 16 rfl ?_
        obtain ⟨v2, hv2, hf⟩ := bnd hf
        refine j1_ald hk 3 (by decide) (by decide) C hv2 dX1_highest_16 17 rfl ?_
        refine j_mmax C qm_X1_71 dX1_highest_17 (Nat.le_of_ble_eq_true rfl) (Nat.le_of_ble_eq_true rfl) 20 rfl ?_
        refine j_istore_n (lv2 := [(1, .int (mxI b1 v2)), (0, .ref (ad g k)), (2, .int b2)]) C dX1_highest_20 rfl (by decide) rfl 21 rfl ?_
        refine j_iinc (lv2 := [(2, .int (b2 + 1)), (1, .int (mxI b1 v2)), (0, .ref (ad g k))]) C dX1_highest_21 (k := 2) rfl (congrArg (HAdd.hAdd b2) c_oi_1) (by decide) rfl 24 rfl ?_
        refine j_goto C dX1_highest_24 4 (by decide) ?_
        refine j_sub [2, 1, 0] rfl ?_
        exact ih (mxI b1 v2) (b2 + 1) S hf
  unfold X1_highest at hf
  refine j_iconst C dX1_highest_0 (v := 0) c_iconst_0 1 rfl ?_
  refine j_istore_n (lv2 := [(1, .int 0), (0, .ref (ad g k))]) C dX1_highest_1 rfl (by decide) rfl 2 rfl ?_
  refine j_iconst C dX1_highest_2 (v := 0) c_iconst_0 3 rfl ?_
  refine j_istore_n (lv2 := [(2, .int 0), (1, .int 0), (0, .ref (ad g k))]) C dX1_highest_3 rfl (by decide) rfl 4 rfl ?_
  refine j_sub [2, 1, 0] rfl ?_
  exact hL4 FU 0 0 S hf
set_option maxRecDepth 100000 in
set_option maxHeartbeats 4000000 in
theorem c_X1_manySpotsHeld (l : Launch) (g : GG) (sz : Nat) (x mm : St) (k : Nat) (hk : isSh k = true) (S : St) (r : Int32) (hf : X1_manySpotsHeld S = some r) : Met l yX1_manySpotsHeld (.code yX1_manySpotsHeld cX1_manySpotsHeld 3 (some .int) :: ALLW) (rmJ 0 0) (PcJ g sz (put x k 7 S) mm [.ref (ad g k)]) (QiJ g sz r (put x k 7 S) mm) 0 0 (Ag sz) := by
  refine j_met (own := RX1) (by decide) rfl (Nat.le_of_ble_eq_true rfl) rfl ?_
  intro p e s m args below meth c C hr hlk
  have hL4 : ∀ (n : Nat), ∀ (b1 : Int32) (b2 : Int32) (S : St), X1_manySpotsHeld_L4 n b1 b2 S = some r → Wj p l e (rmJ 0 0) s m args below meth c (MQ below (QiJ g sz r (put x k 7 S) mm) args s 0 0 (Ag sz)) 3 g sz (put x k 7 S) mm 4 [(0, .ref (ad g k)), (1, .int b1), (2, .int b2)] [] := by
    intro  n
    induction n with
    | zero =>
      intro b1 b2 S hf
      rw [X1_manySpotsHeld_L4] at hf
      cases hf
    | succ n ih =>
      intro b1 b2 S hf
      rw [X1_manySpotsHeld_L4] at hf
      refine j_iload_n C dX1_manySpotsHeld_4 rfl 2 rfl 5 rfl ?_
      refine j_bipush C dX1_manySpotsHeld_5 (v := 10) c_bipush_10 7 rfl ?_
      refine j_icmp_ge C dX1_manySpotsHeld_7 28 (by decide) 10 rfl (fun c1 => ?_) (fun c1 => ?_)
      · rw [if_pos c1] at hf
        refine j_iload_n C dX1_manySpotsHeld_28 rfl 1 rfl 29 rfl ?_
        obtain rfl := Option.some.inj hf
        exact j_iret C hr hlk dX1_manySpotsHeld_29
      · rw [if_neg c1] at hf
        refine j_aload_n C dX1_manySpotsHeld_10 rfl 0 rfl 11 rfl ?_
        refine j1_get hk C 5 (by decide) qf_X1_27 (v := .ref (ad g (k + 6))) rfl dX1_manySpotsHeld_11 14 rfl ?_
        refine j_iload_n C dX1_manySpotsHeld_14 rfl 2 rfl 15 rfl ?_
        obtain ⟨v2, hv2, hf⟩ := bnd hf
        refine j1_ald hk 6 (by decide) (by decide) C hv2 dX1_manySpotsHeld_15 16 rfl ?_
        refine j_if_lt C dX1_manySpotsHeld_16 22 (by decide) 19 rfl (fun c3 => ?_) (fun c3 => ?_)
        · rw [if_pos c3] at hf
          refine j_iinc (lv2 := [(2, .int (b2 + 1)), (0, .ref (ad g k)), (1, .int b1)]) C dX1_manySpotsHeld_22 (k := 2) rfl (congrArg (HAdd.hAdd b2) c_oi_1) (by decide) rfl 25 rfl ?_
          refine j_goto C dX1_manySpotsHeld_25 4 (by decide) ?_
          refine j_sub [1, 2, 0] rfl ?_
          exact ih b1 (b2 + 1) S hf
        · rw [if_neg c3] at hf
          refine j_iinc (lv2 := [(1, .int (b1 + 1)), (0, .ref (ad g k)), (2, .int b2)]) C dX1_manySpotsHeld_19 (k := 1) rfl (congrArg (HAdd.hAdd b1) c_oi_1) (by decide) rfl 22 rfl ?_
          refine j_iinc (lv2 := [(2, .int (b2 + 1)), (1, .int (b1 + 1)), (0, .ref (ad g k))]) C dX1_manySpotsHeld_22 (k := 2) rfl (congrArg (HAdd.hAdd b2) c_oi_1) (by decide) rfl 25 rfl ?_
          refine j_goto C dX1_manySpotsHeld_25 4 (by decide) ?_
          refine j_sub [2, 1, 0] rfl ?_
          exact ih (b1 + 1) (b2 + 1) S hf
  unfold X1_manySpotsHeld at hf
  refine j_iconst C dX1_manySpotsHeld_0 (v := 0) c_iconst_0 1 rfl ?_
  refine j_istore_n (lv2 := [(1, .int 0), (0, .ref (ad g k))]) C dX1_manySpotsHeld_1 rfl (by decide) rfl 2 rfl ?_
  refine j_iconst C dX1_manySpotsHeld_2 (v := 0) c_iconst_0 3 rfl ?_
  refine j_istore_n (lv2 := [(2, .int 0), (1, .int 0), (0, .ref (ad g k))]) C dX1_manySpotsHeld_3 rfl (by decide) rfl 4 rfl ?_
  refine j_sub [2, 1, 0] rfl ?_
  exact hL4 FU 0 0 S hf
set_option maxRecDepth 100000 in
set_option maxHeartbeats 4000000 in
theorem c_X1_runRows (l : Launch) (g : GG) (sz : Nat) (x mm : St) (k : Nat) (hk : isSh k = true) (a1 : Int32) (S : St) (r : Int32) (hf : X1_runRows a1 S = some r) : Met l yX1_runRows (.code yX1_runRows cX1_runRows 3 (some .int) :: ALLW) (rmJ 0 0) (PcJ g sz (put x k 7 S) mm [.ref (ad g k), .int a1]) (QiJ g sz r (put x k 7 S) mm) 0 0 (Ag sz) := by
  refine j_met (own := RX1) (by decide) rfl (Nat.le_of_ble_eq_true rfl) rfl ?_
  intro p e s m args below meth c C hr hlk
  have hL2 : ∀ (n : Nat), ∀ (b1 : Int32) (b2 : Int32) (S : St), X1_runRows_L2 n b1 b2 S = some r → Wj p l e (rmJ 0 0) s m args below meth c (MQ below (QiJ g sz r (put x k 7 S) mm) args s 0 0 (Ag sz)) 3 g sz (put x k 7 S) mm 2 [(0, .ref (ad g k)), (1, .int b1), (2, .int b2)] [] := by
    intro  n
    induction n with
    | zero =>
      intro b1 b2 S hf
      rw [X1_runRows_L2] at hf
      cases hf
    | succ n ih =>
      intro b1 b2 S hf
      rw [X1_runRows_L2] at hf
      refine j_iload_n C dX1_runRows_2 rfl 2 rfl 3 rfl ?_
      refine j_bipush C dX1_runRows_3 (v := 6) c_bipush_6 5 rfl ?_
      refine j_icmp_ge C dX1_runRows_5 28 (by decide) 8 rfl (fun c1 => ?_) (fun c1 => ?_)
      · rw [if_pos c1] at hf
        refine j_iload_n C dX1_runRows_28 rfl 2 rfl 29 rfl ?_
        obtain rfl := Option.some.inj hf
        exact j_iret C hr hlk dX1_runRows_29
      · rw [if_neg c1] at hf
        refine j_aload_n C dX1_runRows_8 rfl 0 rfl 9 rfl ?_
        refine j1_get hk C 2 (by decide) qf_X1_18 (v := .ref (ad g (k + 3))) rfl dX1_runRows_9 12 rfl ?_
        refine j_iload_n C dX1_runRows_12 rfl 1 rfl 13 rfl ?_
        refine j_bipush C dX1_runRows_13 (v := 6) c_bipush_6 15 rfl ?_
        refine j_imul C dX1_runRows_15 16 rfl ?_
        refine j_iload_n C dX1_runRows_16 rfl 2 rfl 17 rfl ?_
        refine j_iadd C dX1_runRows_17 18 rfl ?_
        obtain ⟨v2, hv2, hf⟩ := bnd hf
        refine j1_ald hk 3 (by decide) (by decide) C hv2 dX1_runRows_18 19 rfl ?_
        refine j_if_le C dX1_runRows_19 28 (by decide) 22 rfl (fun c3 => ?_) (fun c3 => ?_)
        · rw [if_pos c3] at hf
          refine j_iload_n C dX1_runRows_28 rfl 2 rfl 29 rfl ?_
          obtain rfl := Option.some.inj hf
          exact j_iret C hr hlk dX1_runRows_29
        · rw [if_neg c3] at hf
          refine j_iinc (lv2 := [(2, .int (b2 + 1)), (0, .ref (ad g k)), (1, .int b1)]) C dX1_runRows_22 (k := 2) rfl (congrArg (HAdd.hAdd b2) c_oi_1) (by decide) rfl 25 rfl ?_
          refine j_goto C dX1_runRows_25 2 (by decide) ?_
          refine j_sub [1, 2, 0] rfl ?_
          exact ih b1 (b2 + 1) S hf
  unfold X1_runRows at hf
  refine j_iconst C dX1_runRows_0 (v := 0) c_iconst_0 1 rfl ?_
  refine j_istore_n (lv2 := [(2, .int 0), (0, .ref (ad g k)), (1, .int a1)]) C dX1_runRows_1 rfl (by decide) rfl 2 rfl ?_
  refine j_sub [1, 2, 0] rfl ?_
  exact hL2 FU a1 0 S hf
set_option maxRecDepth 100000 in
set_option maxHeartbeats 4000000 in
theorem c_X1_runWeight (l : Launch) (g : GG) (sz : Nat) (x mm : St) (k : Nat) (hk : isSh k = true) (a1 : Int32) (S : St) (r : Int32) (hf : X1_runWeight a1 S = some r) : Met l yX1_runWeight (.code yX1_runWeight cX1_runWeight 6 (some .int) :: ALLW) (rmJ 0 0) (PcJ g sz (put x k 7 S) mm [.ref (ad g k), .int a1]) (QiJ g sz r (put x k 7 S) mm) 0 0 (Ag sz) := by
  refine j_met (own := RX1) (by decide) rfl (Nat.le_of_ble_eq_true rfl) rfl ?_
  intro p e s m args below meth c C hr hlk
  have hL34 : ∀ (k4 : Int32 → Int32 → Int32 → St → Option Int32) (_ : ∀ (b1 : Int32) (b2 : Int32) (b3 : Int32) (S : St), k4 b1 b2 b3 S = some r → Wj p l e (rmJ 0 0) s m args below meth c (MQ below (QiJ g sz r (put x k 7 S) mm) args s 0 0 (Ag sz)) 6 g sz (put x k 7 S) mm 4 [(0, .ref (ad g k)), (1, .int b1), (2, .int b2), (3, .int b3)] []), ∀ (n : Nat), ∀ (b1 : Int32) (b2 : Int32) (b3 : Int32) (b4 : Int32) (b5 : Int32) (S : St), X1_runWeight_L34 k4 n b1 b2 b3 b4 b5 S = some r → Wj p l e (rmJ 0 0) s m args below meth c (MQ below (QiJ g sz r (put x k 7 S) mm) args s 0 0 (Ag sz)) 6 g sz (put x k 7 S) mm 34 [(0, .ref (ad g k)), (1, .int b1), (2, .int b2), (3, .int b3), (4, .int b4), (5, .int b5)] [] := by
    intro k4 hk4 n
    induction n with
    | zero =>
      intro b1 b2 b3 b4 b5 S hf
      rw [X1_runWeight_L34] at hf
      cases hf
    | succ n ih =>
      intro b1 b2 b3 b4 b5 S hf
      rw [X1_runWeight_L34] at hf
      refine j_iload C dX1_runWeight_34 5 rfl 36 rfl ?_
      refine j_aload_n C dX1_runWeight_36 rfl 0 rfl 37 rfl ?_
      refine j1_get hk C 2 (by decide) qf_X1_18 (v := .ref (ad g (k + 3))) rfl dX1_runWeight_37 40 rfl ?_
      refine j_iload C dX1_runWeight_40 4 rfl 42 rfl ?_
      obtain ⟨v4, hv4, hf⟩ := bnd hf
      refine j1_ald hk 3 (by decide) (by decide) C hv4 dX1_runWeight_42 43 rfl ?_
      refine j_icmp_ge C dX1_runWeight_43 76 (by decide) 46 rfl (fun c5 => ?_) (fun c5 => ?_)
      · rw [if_pos c5] at hf
        refine j_iinc (lv2 := [(3, .int (b3 + 1)), (0, .ref (ad g k)), (1, .int b1), (2, .int b2), (4, .int b4), (5, .int b5)]) C dX1_runWeight_76 (k := 3) rfl (congrArg (HAdd.hAdd b3) c_oi_1) (by decide) rfl 79 rfl ?_
        refine j_goto C dX1_runWeight_79 4 (by decide) ?_
        refine j_sub [1, 2, 3, 0] rfl ?_
        exact hk4 b1 b2 (b3 + 1) S hf
      · rw [if_neg c5] at hf
        refine j_iload_n C dX1_runWeight_46 rfl 2 rfl 47 rfl ?_
        refine j_getsN C 2 (by decide) C.2.2.2.2.2.1.2.1 dX1_runWeight_47 50 rfl ?_
        refine j_aload_n C dX1_runWeight_50 rfl 0 rfl 51 rfl ?_
        refine j1_get hk C 0 (by decide) qf_X1_9 (v := .ref (ad g (k + 1))) rfl dX1_runWeight_51 54 rfl ?_
        refine j_aload_n C dX1_runWeight_54 rfl 0 rfl 55 rfl ?_
        refine j1_get hk C 3 (by decide) qf_X1_21 (v := .ref (ad g (k + 4))) rfl dX1_runWeight_55 58 rfl ?_
        refine j_iload C dX1_runWeight_58 4 rfl 60 rfl ?_
        refine j_iconst C dX1_runWeight_60 (v := 4) c_iconst_4 61 rfl ?_
        refine j_imul C dX1_runWeight_61 62 rfl ?_
        refine j_iload C dX1_runWeight_62 5 rfl 64 rfl ?_
        refine j_iadd C dX1_runWeight_64 65 rfl ?_
        obtain ⟨v6, hv6, hf⟩ := bnd hf
        refine j1_ald hk 4 (by decide) (by decide) C hv6 dX1_runWeight_65 66 rfl ?_
        obtain ⟨v7, hv7, hf⟩ := bnd hf
        refine j1_ald hk 1 (by decide) (by decide) C hv7 dX1_runWeight_66 67 rfl ?_
        obtain ⟨v8, hv8, hf⟩ := bnd hf
        refine j_sald C 2 (by decide) hv8 dX1_runWeight_67 68 rfl ?_
        refine j_iadd C dX1_runWeight_68 69 rfl ?_
        refine j_istore_n (lv2 := [(2, .int (b2 + v8)), (0, .ref (ad g k)), (1, .int b1), (3, .int b3), (4, .int b4), (5, .int b5)]) C dX1_runWeight_69 rfl (by decide) rfl 70 rfl ?_
        refine j_iinc (lv2 := [(5, .int (b5 + 1)), (2, .int (b2 + v8)), (0, .ref (ad g k)), (1, .int b1), (3, .int b3), (4, .int b4)]) C dX1_runWeight_70 (k := 5) rfl (congrArg (HAdd.hAdd b5) c_oi_1) (by decide) rfl 73 rfl ?_
        refine j_goto C dX1_runWeight_73 34 (by decide) ?_
        refine j_sub [2, 3, 1, 4, 5, 0] rfl ?_
        exact ih b1 (b2 + v8) b3 b4 (b5 + 1) S hf
  have hL4 : ∀ (n : Nat), ∀ (b1 : Int32) (b2 : Int32) (b3 : Int32) (S : St), X1_runWeight_L4 n b1 b2 b3 S = some r → Wj p l e (rmJ 0 0) s m args below meth c (MQ below (QiJ g sz r (put x k 7 S) mm) args s 0 0 (Ag sz)) 6 g sz (put x k 7 S) mm 4 [(0, .ref (ad g k)), (1, .int b1), (2, .int b2), (3, .int b3)] [] := by
    intro  n
    induction n with
    | zero =>
      intro b1 b2 b3 S hf
      rw [X1_runWeight_L4] at hf
      cases hf
    | succ n ih =>
      intro b1 b2 b3 S hf
      rw [X1_runWeight_L4] at hf
      refine j_iload_n C dX1_runWeight_4 rfl 3 rfl 5 rfl ?_
      refine j_bipush C dX1_runWeight_5 (v := 6) c_bipush_6 7 rfl ?_
      refine j_icmp_ge C dX1_runWeight_7 82 (by decide) 10 rfl (fun c1 => ?_) (fun c1 => ?_)
      · rw [if_pos c1] at hf
        refine j_iload_n C dX1_runWeight_82 rfl 2 rfl 83 rfl ?_
        obtain rfl := Option.some.inj hf
        exact j_iret C hr hlk dX1_runWeight_83
      · rw [if_neg c1] at hf
        refine j_iload_n C dX1_runWeight_10 rfl 1 rfl 11 rfl ?_
        refine j_bipush C dX1_runWeight_11 (v := 6) c_bipush_6 13 rfl ?_
        refine j_imul C dX1_runWeight_13 14 rfl ?_
        refine j_iload_n C dX1_runWeight_14 rfl 3 rfl 15 rfl ?_
        refine j_iadd C dX1_runWeight_15 16 rfl ?_
        refine j_istore (lv2 := [(4, .int ((b1 * 6) + b3)), (0, .ref (ad g k)), (1, .int b1), (2, .int b2), (3, .int b3)]) C dX1_runWeight_16 (by decide) rfl 18 rfl ?_
        refine j_aload_n C dX1_runWeight_18 rfl 1 rfl 19 rfl ?_
        refine j1_get hk C 2 (by decide) qf_X1_18 (v := .ref (ad g (k + 3))) rfl dX1_runWeight_19 22 rfl ?_
        refine j_iload C dX1_runWeight_22 0 rfl 24 rfl ?_
        obtain ⟨v2, hv2, hf⟩ := bnd hf
        refine j1_ald hk 3 (by decide) (by decide) C hv2 dX1_runWeight_24 25 rfl ?_
        refine j_if_ne C dX1_runWeight_25 31 (by decide) 28 rfl (fun c3 => ?_) (fun c3 => ?_)
        · rw [if_neg c3] at hf
          refine j_iconst C dX1_runWeight_31 (v := 0) c_iconst_0 32 rfl ?_
          refine j_istore (lv2 := [(5, .int 0), (4, .int ((b1 * 6) + b3)), (0, .ref (ad g k)), (1, .int b1), (2, .int b2), (3, .int b3)]) C dX1_runWeight_32 (by decide) rfl 34 rfl ?_
          refine j_sub [2, 3, 4, 5, 1, 0] rfl ?_
          exact hL34 _ ih FU b1 b2 b3 ((b1 * 6) + b3) 0 S hf
        · rw [if_pos c3] at hf
          refine j_goto C dX1_runWeight_28 82 (by decide) ?_
          refine j_iload_n C dX1_runWeight_82 rfl 3 rfl 83 rfl ?_
          obtain rfl := Option.some.inj hf
          exact j_iret C hr hlk dX1_runWeight_83
  unfold X1_runWeight at hf
  refine j_iconst C dX1_runWeight_0 (v := 0) c_iconst_0 1 rfl ?_
  refine j_istore_n (lv2 := [(2, .int 0), (0, .ref (ad g k)), (1, .int a1)]) C dX1_runWeight_1 rfl (by decide) rfl 2 rfl ?_
  refine j_iconst C dX1_runWeight_2 (v := 0) c_iconst_0 3 rfl ?_
  refine j_istore_n (lv2 := [(3, .int 0), (2, .int 0), (0, .ref (ad g k)), (1, .int a1)]) C dX1_runWeight_3 rfl (by decide) rfl 4 rfl ?_
  refine j_sub [2, 3, 1, 0] rfl ?_
  exact hL4 FU a1 0 0 S hf
set_option maxRecDepth 100000 in
set_option maxHeartbeats 4000000 in
theorem c_X1_pushMoves (l : Launch) (g : GG) (sz : Nat) (x mm : St) (k : Nat) (hk : isSh k = true) (a1 : Int32) (S : St) (r : Int32) (hf : X1_pushMoves a1 S = some r) : Met l yX1_pushMoves (.code yX1_pushMoves cX1_pushMoves 3 (some .boolean) :: ALLW) (rmJ 1 25) (PcJ g sz (put x k 7 S) mm [.ref (ad g k), .int a1]) (QiJ g sz r (put x k 7 S) mm) 0 0 (Ag sz) := by
  refine j_met (own := RX1) (by decide) rfl (Nat.le_of_ble_eq_true rfl) rfl ?_
  intro p e s m args below meth c C hr hlk
  unfold X1_pushMoves at hf
  refine j_aload_n C dX1_pushMoves_0 rfl 0 rfl 1 rfl ?_
  refine j_iload_n C dX1_pushMoves_1 rfl 1 rfl 2 rfl ?_
  obtain ⟨r1, hr1, hf⟩ := bnd hf
  refine j_callVi (As := [.int a1]) (rest := []) C (c_X1_runWeight l g sz x mm k hk a1 S _ hr1) (j_cwV C qc_X1_runWeight qm_X1_80 qi_X1_runWeight qs_X1_runWeight qn_X1 hd_X1_runWeight ⟨rfl, rfl⟩ ⟨by decide, by decide⟩) ((rcv_sh hk).cell C.2) rfl (Nat.le_of_ble_eq_true rfl) dX1_pushMoves_2 5 rfl ?_
  refine j_istore_n (lv2 := [(2, .int r1), (0, .ref (ad g k)), (1, .int a1)]) C dX1_pushMoves_5 rfl (by decide) rfl 6 rfl ?_
  refine j_iload_n C dX1_pushMoves_6 rfl 0 rfl 7 rfl ?_
  refine j_if_le C dX1_pushMoves_7 24 (by decide) 10 rfl (fun c2 => ?_) (fun c2 => ?_)
  · rw [if_pos c2] at hf
    refine j_iconst C dX1_pushMoves_24 (v := 0) c_iconst_0 25 rfl ?_
    obtain rfl := Option.some.inj hf
    exact j_zret C hr hlk (Or.inl rfl) dX1_pushMoves_25
  · rw [if_neg c2] at hf
    refine j_iload_n C dX1_pushMoves_10 rfl 0 rfl 11 rfl ?_
    refine j_aload_n C dX1_pushMoves_11 rfl 1 rfl 12 rfl ?_
    refine j1_get hk C 4 (by decide) qf_X1_24 (v := .ref (ad g (k + 5))) rfl dX1_pushMoves_12 15 rfl ?_
    refine j_iconst C dX1_pushMoves_15 (v := 0) c_iconst_0 16 rfl ?_
    obtain ⟨v3, hv3, hf⟩ := bnd hf
    refine j1_ald hk 5 (by decide) (by decide) C hv3 dX1_pushMoves_16 17 rfl ?_
    refine j_icmp_gt C dX1_pushMoves_17 24 (by decide) 20 rfl (fun c4 => ?_) (fun c4 => ?_)
    · rw [if_pos c4] at hf
      refine j_iconst C dX1_pushMoves_24 (v := 0) c_iconst_0 25 rfl ?_
      obtain rfl := Option.some.inj hf
      exact j_zret C hr hlk (Or.inl rfl) dX1_pushMoves_25
    · rw [if_neg c4] at hf
      refine j_iconst C dX1_pushMoves_20 (v := 1) c_iconst_1 21 rfl ?_
      refine j_goto C dX1_pushMoves_21 25 (by decide) ?_
      obtain rfl := Option.some.inj hf
      exact j_zret C hr hlk (Or.inr rfl) dX1_pushMoves_25
set_option maxRecDepth 100000 in
set_option maxHeartbeats 4000000 in
theorem c_X1_topSlides (l : Launch) (g : GG) (sz : Nat) (x mm : St) (k : Nat) (hk : isSh k = true) (a1 : Int32) (S : St) (r : Int32) (hf : X1_topSlides a1 S = some r) : Met l yX1_topSlides (.code yX1_topSlides cX1_topSlides 3 (some .boolean) :: ALLW) (rmJ 0 0) (PcJ g sz (put x k 7 S) mm [.ref (ad g k), .int a1]) (QiJ g sz r (put x k 7 S) mm) 0 0 (Ag sz) := by
  refine j_met (own := RX1) (by decide) rfl (Nat.le_of_ble_eq_true rfl) rfl ?_
  intro p e s m args below meth c C hr hlk
  unfold X1_topSlides at hf
  refine j_aload_n C dX1_topSlides_0 rfl 0 rfl 1 rfl ?_
  refine j1_get hk C 2 (by decide) qf_X1_18 (v := .ref (ad g (k + 3))) rfl dX1_topSlides_1 4 rfl ?_
  refine j_iload_n C dX1_topSlides_4 rfl 1 rfl 5 rfl ?_
  obtain ⟨v1, hv1, hf⟩ := bnd hf
  refine j1_ald hk 3 (by decide) (by decide) C hv1 dX1_topSlides_5 6 rfl ?_
  refine j_istore_n (lv2 := [(2, .int v1), (0, .ref (ad g k)), (1, .int a1)]) C dX1_topSlides_6 rfl (by decide) rfl 7 rfl ?_
  refine j_iload_n C dX1_topSlides_7 rfl 0 rfl 8 rfl ?_
  refine j_if_le C dX1_topSlides_8 40 (by decide) 11 rfl (fun c2 => ?_) (fun c2 => ?_)
  · rw [if_pos c2] at hf
    refine j_iconst C dX1_topSlides_40 (v := 0) c_iconst_0 41 rfl ?_
    obtain rfl := Option.some.inj hf
    exact j_zret C hr hlk (Or.inl rfl) dX1_topSlides_41
  · rw [if_neg c2] at hf
    refine j_getsN C 3 (by decide) C.2.2.2.2.2.1.2.2 dX1_topSlides_11 14 rfl ?_
    refine j_aload_n C dX1_topSlides_14 rfl 1 rfl 15 rfl ?_
    refine j1_get hk C 0 (by decide) qf_X1_9 (v := .ref (ad g (k + 1))) rfl dX1_topSlides_15 18 rfl ?_
    refine j_aload_n C dX1_topSlides_18 rfl 1 rfl 19 rfl ?_
    refine j1_get hk C 3 (by decide) qf_X1_21 (v := .ref (ad g (k + 4))) rfl dX1_topSlides_19 22 rfl ?_
    refine j_iload_n C dX1_topSlides_22 rfl 2 rfl 23 rfl ?_
    refine j_iconst C dX1_topSlides_23 (v := 4) c_iconst_4 24 rfl ?_
    refine j_imul C dX1_topSlides_24 25 rfl ?_
    refine j_iload_n C dX1_topSlides_25 rfl 0 rfl 26 rfl ?_
    refine j_iadd C dX1_topSlides_26 27 rfl ?_
    refine j_iconst C dX1_topSlides_27 (v := 1) c_iconst_1 28 rfl ?_
    refine j_isub C dX1_topSlides_28 29 rfl ?_
    obtain ⟨v3, hv3, hf⟩ := bnd hf
    refine j1_ald hk 4 (by decide) (by decide) C hv3 dX1_topSlides_29 30 rfl ?_
    obtain ⟨v4, hv4, hf⟩ := bnd hf
    refine j1_ald hk 1 (by decide) (by decide) C hv4 dX1_topSlides_30 31 rfl ?_
    obtain ⟨v5, hv5, hf⟩ := bnd hf
    refine j_sald C 3 (by decide) hv5 dX1_topSlides_31 32 rfl ?_
    refine j_iconst C dX1_topSlides_32 (v := 1) c_iconst_1 33 rfl ?_
    refine j_icmp_ne C dX1_topSlides_33 40 (by decide) 36 rfl (fun c6 => ?_) (fun c6 => ?_)
    · rw [if_neg c6] at hf
      refine j_iconst C dX1_topSlides_40 (v := 0) c_iconst_0 41 rfl ?_
      obtain rfl := Option.some.inj hf
      exact j_zret C hr hlk (Or.inl rfl) dX1_topSlides_41
    · rw [if_pos c6] at hf
      refine j_iconst C dX1_topSlides_36 (v := 1) c_iconst_1 37 rfl ?_
      refine j_goto C dX1_topSlides_37 41 (by decide) ?_
      obtain rfl := Option.some.inj hf
      exact j_zret C hr hlk (Or.inr rfl) dX1_topSlides_41
set_option maxRecDepth 100000 in
set_option maxHeartbeats 4000000 in
theorem c_X1_leans (l : Launch) (g : GG) (sz : Nat) (x mm : St) (k : Nat) (hk : isSh k = true) (a1 : Int32) (S : St) (r : Int32) (hf : X1_leans a1 S = some r) : Met l yX1_leans (.code yX1_leans cX1_leans 4 (some .boolean) :: ALLW) (rmJ 1 22) (PcJ g sz (put x k 7 S) mm [.ref (ad g k), .int a1]) (QiJ g sz r (put x k 7 S) mm) 0 0 (Ag sz) := by
  refine j_met (own := RX1) (by decide) rfl (Nat.le_of_ble_eq_true rfl) rfl ?_
  intro p e s m args below meth c C hr hlk
  have hL27 : ∀ (b1 : Int32) (b2 : Int32) (t0 : Int32) (S : St), X1_leans_L27 b1 b2 t0 S = some r → Wj p l e (rmJ 1 22) s m args below meth c (MQ below (QiJ g sz r (put x k 7 S) mm) args s 0 0 (Ag sz)) 4 g sz (put x k 7 S) mm 27 [(0, .ref (ad g k)), (1, .int b1), (2, .int b2)] [.int t0] := by
    intro  b1 b2 t0 S hf
    unfold X1_leans_L27 at hf
    refine j_istore_n (lv2 := [(3, .int t0), (0, .ref (ad g k)), (1, .int b1), (2, .int b2)]) C dX1_leans_27 rfl (by decide) rfl 28 rfl ?_
    refine j_iload_n C dX1_leans_28 rfl 3 rfl 29 rfl ?_
    refine j_iload_n C dX1_leans_29 rfl 0 rfl 30 rfl ?_
    refine j_iconst C dX1_leans_30 (v := 3) c_iconst_3 31 rfl ?_
    refine j_iadd C dX1_leans_31 32 rfl ?_
    refine j_icmp_lt C dX1_leans_32 47 (by decide) 35 rfl (fun c4 => ?_) (fun c4 => ?_)
    · rw [if_pos c4] at hf
      refine j_iconst C dX1_leans_47 (v := 0) c_iconst_0 48 rfl ?_
      obtain rfl := Option.some.inj hf
      exact j_zret C hr hlk (Or.inl rfl) dX1_leans_48
    · rw [if_neg c4] at hf
      refine j_aload_n C dX1_leans_35 rfl 1 rfl 36 rfl ?_
      refine j_iload_n C dX1_leans_36 rfl 2 rfl 37 rfl ?_
      obtain ⟨r5, hr5, hf⟩ := bnd hf
      refine j_callVi (As := [.int b1]) (rest := []) C (c_X1_topSlides l g sz x mm k hk b1 S _ hr5) (j_cwV C qc_X1_topSlides qm_X1_83 qi_X1_topSlides qs_X1_topSlides qn_X1 hd_X1_topSlides ⟨rfl, rfl⟩ ⟨by decide, by decide⟩) ((rcv_sh hk).cell C.2) rfl (Nat.le_of_ble_eq_true rfl) dX1_leans_37 40 rfl ?_
      refine j_if_eq C dX1_leans_40 47 (by decide) 43 rfl (fun c6 => ?_) (fun c6 => ?_)
      · rw [if_pos c6] at hf
        refine j_iconst C dX1_leans_47 (v := 0) c_iconst_0 48 rfl ?_
        obtain rfl := Option.some.inj hf
        exact j_zret C hr hlk (Or.inl rfl) dX1_leans_48
      · rw [if_neg c6] at hf
        refine j_iconst C dX1_leans_43 (v := 1) c_iconst_1 44 rfl ?_
        refine j_goto C dX1_leans_44 48 (by decide) ?_
        obtain rfl := Option.some.inj hf
        exact j_zret C hr hlk (Or.inr rfl) dX1_leans_48
  unfold X1_leans at hf
  refine j_aload_n C dX1_leans_0 rfl 0 rfl 1 rfl ?_
  refine j1_get hk C 2 (by decide) qf_X1_18 (v := .ref (ad g (k + 3))) rfl dX1_leans_1 4 rfl ?_
  refine j_iload_n C dX1_leans_4 rfl 1 rfl 5 rfl ?_
  obtain ⟨v1, hv1, hf⟩ := bnd hf
  refine j1_ald hk 3 (by decide) (by decide) C hv1 dX1_leans_5 6 rfl ?_
  refine j_istore_n (lv2 := [(2, .int v1), (0, .ref (ad g k)), (1, .int a1)]) C dX1_leans_6 rfl (by decide) rfl 7 rfl ?_
  refine j_iload_n C dX1_leans_7 rfl 2 rfl 8 rfl ?_
  refine j_bipush C dX1_leans_8 (v := 6) c_bipush_6 10 rfl ?_
  refine j_iremc C dX1_leans_10 (by decide) 11 rfl ?_
  refine j_iconst C dX1_leans_11 (v := 5) c_iconst_5 12 rfl ?_
  refine j_icmp_ne C dX1_leans_12 19 (by decide) 15 rfl (fun c2 => ?_) (fun c2 => ?_)
  · rw [if_neg c2] at hf
    refine j_aload_n C dX1_leans_19 rfl 1 rfl 20 rfl ?_
    refine j1_get hk C 2 (by decide) qf_X1_18 (v := .ref (ad g (k + 3))) rfl dX1_leans_20 23 rfl ?_
    refine j_iload_n C dX1_leans_23 rfl 2 rfl 24 rfl ?_
    refine j_iconst C dX1_leans_24 (v := 1) c_iconst_1 25 rfl ?_
    refine j_iadd C dX1_leans_25 26 rfl ?_
    obtain ⟨v3, hv3, hf⟩ := bnd hf
    refine j1_ald hk 3 (by decide) (by decide) C hv3 dX1_leans_26 27 rfl ?_
    refine j_sub [1, 2, 0] rfl ?_
    exact hL27 a1 v1 v3 S hf
  · rw [if_pos c2] at hf
    refine j_iconst C dX1_leans_15 (v := 0) c_iconst_0 16 rfl ?_
    refine j_goto C dX1_leans_16 27 (by decide) ?_
    refine j_sub [1, 2, 0] rfl ?_
    exact hL27 a1 v1 0 S hf
set_option maxRecDepth 100000 in
set_option maxHeartbeats 4000000 in
theorem c_X1_goOver (l : Launch) (g : GG) (sz : Nat) (x mm : St) (k : Nat) (hk : isSh k = true) (a1 : Int32) (a2 : Int32) (S : St) (S' : St) (hf : X1_goOver a1 a2 S = some S') : Met l yX1_goOver (.code yX1_goOver cX1_goOver 4 none :: ALLW) (rmJ 0 0) (PcJ g sz (put x k 7 S) mm [.ref (ad g k), .int a1, .int a2]) (QvJ g sz (put x k 7 S') mm) 0 0 (Ag sz) := by
  refine j_met (own := RX1) (by decide) rfl (Nat.le_of_ble_eq_true rfl) rfl ?_
  intro p e s m args below meth c C hr hlk
  have hL28 : ∀ (b1 : Int32) (t0 : Int32) (S : St), X1_goOver_L28 b1 t0 S = some S' → Wj p l e (rmJ 0 0) s m args below meth c (MQ below (QvJ g sz (put x k 7 S') mm) args s 0 0 (Ag sz)) 4 g sz (put x k 7 S) mm 28 [(0, .ref (ad g k)), (1, .int b1)] [.int t0] := by
    intro  b1 t0 S hf
    unfold X1_goOver_L28 at hf
    refine j_istore_n (lv2 := [(3, .int t0), (0, .ref (ad g k)), (1, .int b1)]) C dX1_goOver_28 rfl (by decide) rfl 29 rfl ?_
    refine j_aload_n C dX1_goOver_29 rfl 1 rfl 30 rfl ?_
    refine j1_get hk C 1 (by decide) qf_X1_15 (v := .ref (ad g (k + 2))) rfl dX1_goOver_30 33 rfl ?_
    refine j_iload_n C dX1_goOver_33 rfl 2 rfl 34 rfl ?_
    refine j_iload_n C dX1_goOver_34 rfl 0 rfl 35 rfl ?_
    refine j_if_eq C dX1_goOver_35 43 (by decide) 38 rfl (fun c3 => ?_) (fun c3 => ?_)
    · rw [if_pos c3] at hf
      refine j_bipush C dX1_goOver_43 (v := 101) c_bipush_101 45 rfl ?_
      obtain ⟨S4, hS4, hf⟩ := bnd hf
      refine j1_ast hk 2 (by decide) (by decide) C hS4 dX1_goOver_45 46 rfl ?_
      obtain rfl := Option.some.inj hf
      exact j_vret C hr hlk dX1_goOver_46
    · rw [if_neg c3] at hf
      refine j_bipush C dX1_goOver_38 (v := 102) c_bipush_102 40 rfl ?_
      refine j_goto C dX1_goOver_40 45 (by decide) ?_
      obtain ⟨S5, hS5, hf⟩ := bnd hf
      refine j1_ast hk 2 (by decide) (by decide) C hS5 dX1_goOver_45 46 rfl ?_
      obtain rfl := Option.some.inj hf
      exact j_vret C hr hlk dX1_goOver_46
  have hL23 : ∀ (b1 : Int32) (S : St), X1_goOver_L23 b1 S = some S' → Wj p l e (rmJ 0 0) s m args below meth c (MQ below (QvJ g sz (put x k 7 S') mm) args s 0 0 (Ag sz)) 4 g sz (put x k 7 S) mm 23 [(0, .ref (ad g k)), (1, .int b1)] [] := by
    intro  b1 S hf
    unfold X1_goOver_L23 at hf
    refine j_iconst C dX1_goOver_23 (v := 1) c_iconst_1 24 rfl ?_
    refine j_goto C dX1_goOver_24 28 (by decide) ?_
    exact hL28 b1 1 S hf
  unfold X1_goOver at hf
  refine j_iload_n C dX1_goOver_0 rfl 2 rfl 1 rfl ?_
  refine j_aload_n C dX1_goOver_1 rfl 0 rfl 2 rfl ?_
  refine j1_get hk C 4 (by decide) qf_X1_24 (v := .ref (ad g (k + 5))) rfl dX1_goOver_2 5 rfl ?_
  refine j_iconst C dX1_goOver_5 (v := 2) c_iconst_2 6 rfl ?_
  obtain ⟨v1, hv1, hf⟩ := bnd hf
  refine j1_ald hk 5 (by decide) (by decide) C hv1 dX1_goOver_6 7 rfl ?_
  refine j_icmp_lt C dX1_goOver_7 23 (by decide) 10 rfl (fun c2 => ?_) (fun c2 => ?_)
  · rw [if_pos c2] at hf
    refine j_sub [0, 1] rfl ?_
    exact hL23 a1 S hf
  · rw [if_neg c2] at hf
    refine j_iload_n C dX1_goOver_10 rfl 2 rfl 11 rfl ?_
    refine j_bipush C dX1_goOver_11 (v := 7) c_bipush_7 13 rfl ?_
    refine j_aload_n C dX1_goOver_13 rfl 0 rfl 14 rfl ?_
    refine j1_get hk C 4 (by decide) qf_X1_24 (v := .ref (ad g (k + 5))) rfl dX1_goOver_14 17 rfl ?_
    refine j_iconst C dX1_goOver_17 (v := 2) c_iconst_2 18 rfl ?_
    obtain ⟨v6, hv6, hf⟩ := bnd hf
    refine j1_ald hk 5 (by decide) (by decide) C hv6 dX1_goOver_18 19 rfl ?_
    refine j_isub C dX1_goOver_19 20 rfl ?_
    refine j_icmp_lt C dX1_goOver_20 27 (by decide) 23 rfl (fun c7 => ?_) (fun c7 => ?_)
    · rw [if_pos c7] at hf
      refine j_iconst C dX1_goOver_27 (v := 0) c_iconst_0 28 rfl ?_
      refine j_sub [0, 1] rfl ?_
      exact hL28 a1 0 S hf
    · rw [if_neg c7] at hf
      refine j_sub [0, 1] rfl ?_
      exact hL23 a1 S hf
set_option maxRecDepth 100000 in
set_option maxHeartbeats 4000000 in
theorem c_X1_slideTop (l : Launch) (g : GG) (sz : Nat) (x mm : St) (k : Nat) (hk : isSh k = true) (a1 : Int32) (S : St) (S' : St) (hf : X1_slideTop a1 S = some S') : Met l yX1_slideTop (.code yX1_slideTop cX1_slideTop 3 none :: ALLW) (rmJ 1 23) (PcJ g sz (put x k 7 S) mm [.ref (ad g k), .int a1]) (QvJ g sz (put x k 7 S') mm) 0 0 (Ag sz) := by
  refine j_met (own := RX1) (by decide) rfl (Nat.le_of_ble_eq_true rfl) rfl ?_
  intro p e s m args below meth c C hr hlk
  unfold X1_slideTop at hf
  refine j_aload_n C dX1_slideTop_0 rfl 0 rfl 1 rfl ?_
  refine j_iload_n C dX1_slideTop_1 rfl 1 rfl 2 rfl ?_
  obtain ⟨⟨r2, S3⟩, hq1, hf⟩ := bnd hf
  dsimp only at hf
  refine j_callVi (As := [.int a1]) (rest := []) C (c_X1_pull l g sz x mm k hk a1 S _ _ hq1) (j_cwV C qc_X1_pull qm_X1_89 qi_X1_pull qs_X1_pull qn_X1 hd_X1_pull ⟨rfl, rfl⟩ ⟨by decide, by decide⟩) ((rcv_sh hk).cell C.2) rfl (Nat.le_of_ble_eq_true rfl) dX1_slideTop_2 5 rfl ?_
  refine j_istore_n (lv2 := [(2, .int r2), (0, .ref (ad g k)), (1, .int a1)]) C dX1_slideTop_5 rfl (by decide) rfl 6 rfl ?_
  refine j_iload_n C dX1_slideTop_6 rfl 0 rfl 7 rfl ?_
  refine j_if_ge C dX1_slideTop_7 11 (by decide) 10 rfl (fun c4 => ?_) (fun c4 => ?_)
  · rw [if_pos c4] at hf
    refine j_iload_n C dX1_slideTop_11 rfl 2 rfl 12 rfl ?_
    refine j_bipush C dX1_slideTop_12 (v := 6) c_bipush_6 14 rfl ?_
    refine j_iremc C dX1_slideTop_14 (by decide) 15 rfl ?_
    refine j_iconst C dX1_slideTop_15 (v := 5) c_iconst_5 16 rfl ?_
    refine j_icmp_ne C dX1_slideTop_16 31 (by decide) 19 rfl (fun c5 => ?_) (fun c5 => ?_)
    · rw [if_neg c5] at hf
      refine j_aload_n C dX1_slideTop_31 rfl 1 rfl 32 rfl ?_
      refine j_iload_n C dX1_slideTop_32 rfl 0 rfl 33 rfl ?_
      refine j_iload_n C dX1_slideTop_33 rfl 2 rfl 34 rfl ?_
      refine j_iconst C dX1_slideTop_34 (v := 1) c_iconst_1 35 rfl ?_
      refine j_iadd C dX1_slideTop_35 36 rfl ?_
      obtain ⟨S6, hS6, hf⟩ := bnd hf
      refine j_callVv (As := [.int r2, .int (a1 + 1)]) (rest := []) C (c_X1_put l g sz x mm k hk r2 (a1 + 1) S3 _ hS6) (j_cwV C qc_X1_put qm_X1_96 qi_X1_put qs_X1_put qn_X1 hd_X1_put ⟨rfl, rfl⟩ ⟨by decide, by decide⟩) ((rcv_sh hk).cell C.2) rfl (Nat.le_of_ble_eq_true rfl) dX1_slideTop_36 39 rfl ?_
      obtain rfl := Option.some.inj hf
      exact j_vret C hr hlk dX1_slideTop_39
    · rw [if_pos c5] at hf
      refine j_aload_n C dX1_slideTop_19 rfl 1 rfl 20 rfl ?_
      refine j_iload_n C dX1_slideTop_20 rfl 0 rfl 21 rfl ?_
      refine j_iload_n C dX1_slideTop_21 rfl 2 rfl 22 rfl ?_
      refine j_bipush C dX1_slideTop_22 (v := 6) c_bipush_6 24 rfl ?_
      refine j_idivc C dX1_slideTop_24 (by decide) 25 rfl ?_
      obtain ⟨S7, hS7, hf⟩ := bnd hf
      refine j_callVv (As := [.int r2, .int (a1 / 6)]) (rest := []) C (c_X1_goOver l g sz x mm k hk r2 (a1 / 6) S3 _ hS7) (j_cwV C qc_X1_goOver qm_X1_92 qi_X1_goOver qs_X1_goOver qn_X1 hd_X1_goOver ⟨rfl, rfl⟩ ⟨by decide, by decide⟩) ((rcv_sh hk).cell C.2) rfl (Nat.le_of_ble_eq_true rfl) dX1_slideTop_25 28 rfl ?_
      refine j_goto C dX1_slideTop_28 39 (by decide) ?_
      obtain rfl := Option.some.inj hf
      exact j_vret C hr hlk dX1_slideTop_39
  · rw [if_neg c4] at hf
    obtain rfl := Option.some.inj hf
    exact j_vret C hr hlk dX1_slideTop_10
set_option maxRecDepth 100000 in
set_option maxHeartbeats 4000000 in
theorem c_X1_pushRun (l : Launch) (g : GG) (sz : Nat) (x mm : St) (k : Nat) (hk : isSh k = true) (a1 : Int32) (S : St) (S' : St) (hf : X1_pushRun a1 S = some S') : Met l yX1_pushRun (.code yX1_pushRun cX1_pushRun 6 none :: ALLW) (rmJ 1 23) (PcJ g sz (put x k 7 S) mm [.ref (ad g k), .int a1]) (QvJ g sz (put x k 7 S') mm) 0 0 (Ag sz) := by
  refine j_met (own := RX1) (by decide) rfl (Nat.le_of_ble_eq_true rfl) rfl ?_
  intro p e s m args below meth c C hr hlk
  have hL22 : ∀ (k8 : Int32 → Int32 → St → Option St) (_ : ∀ (b1 : Int32) (b2 : Int32) (S : St), k8 b1 b2 S = some S' → Wj p l e (rmJ 1 23) s m args below meth c (MQ below (QvJ g sz (put x k 7 S') mm) args s 0 0 (Ag sz)) 6 g sz (put x k 7 S) mm 8 [(0, .ref (ad g k)), (1, .int b1), (2, .int b2)] []), ∀ (n : Nat), ∀ (b1 : Int32) (b2 : Int32) (b3 : Int32) (b4 : Int32) (S : St), X1_pushRun_L22 k8 n b1 b2 b3 b4 S = some S' → Wj p l e (rmJ 1 23) s m args below meth c (MQ below (QvJ g sz (put x k 7 S') mm) args s 0 0 (Ag sz)) 6 g sz (put x k 7 S) mm 22 [(0, .ref (ad g k)), (1, .int b1), (2, .int b2), (3, .int b3), (4, .int b4)] [] := by
    intro k8 hk8 n
    induction n with
    | zero =>
      intro b1 b2 b3 b4 S hf
      rw [X1_pushRun_L22] at hf
      cases hf
    | succ n ih =>
      intro b1 b2 b3 b4 S hf
      rw [X1_pushRun_L22] at hf
      refine j_iload C dX1_pushRun_22 4 rfl 24 rfl ?_
      refine j_aload_n C dX1_pushRun_24 rfl 0 rfl 25 rfl ?_
      refine j1_get hk C 2 (by decide) qf_X1_18 (v := .ref (ad g (k + 3))) rfl dX1_pushRun_25 28 rfl ?_
      refine j_iload_n C dX1_pushRun_28 rfl 3 rfl 29 rfl ?_
      obtain ⟨v3, hv3, hf⟩ := bnd hf
      refine j1_ald hk 3 (by decide) (by decide) C hv3 dX1_pushRun_29 30 rfl ?_
      refine j_icmp_ge C dX1_pushRun_30 76 (by decide) 33 rfl (fun c4 => ?_) (fun c4 => ?_)
      · rw [if_pos c4] at hf
        refine j_aload_n C dX1_pushRun_76 rfl 0 rfl 77 rfl ?_
        refine j1_get hk C 2 (by decide) qf_X1_18 (v := .ref (ad g (k + 3))) rfl dX1_pushRun_77 80 rfl ?_
        refine j_iload_n C dX1_pushRun_80 rfl 3 rfl 81 rfl ?_
        refine j_iconst C dX1_pushRun_81 (v := 0) c_iconst_0 82 rfl ?_
        obtain ⟨S5, hS5, hf⟩ := bnd hf
        refine j1_ast hk 3 (by decide) (by decide) C hS5 dX1_pushRun_82 83 rfl ?_
        refine j_iinc (lv2 := [(2, .int (b2 + (-1))), (0, .ref (ad g k)), (1, .int b1), (3, .int b3), (4, .int b4)]) C dX1_pushRun_83 (k := 2) rfl (congrArg (HAdd.hAdd b2) c_oi_m1) (by decide) rfl 86 rfl ?_
        refine j_goto C dX1_pushRun_86 8 (by decide) ?_
        refine j_sub [1, 2, 0] rfl ?_
        exact hk8 b1 (b2 + (-1)) S5 hf
      · rw [if_neg c4] at hf
        refine j_aload_n C dX1_pushRun_33 rfl 0 rfl 34 rfl ?_
        refine j1_get hk C 3 (by decide) qf_X1_21 (v := .ref (ad g (k + 4))) rfl dX1_pushRun_34 37 rfl ?_
        refine j_iload_n C dX1_pushRun_37 rfl 3 rfl 38 rfl ?_
        refine j_iconst C dX1_pushRun_38 (v := 4) c_iconst_4 39 rfl ?_
        refine j_imul C dX1_pushRun_39 40 rfl ?_
        refine j_iload C dX1_pushRun_40 4 rfl 42 rfl ?_
        refine j_iadd C dX1_pushRun_42 43 rfl ?_
        obtain ⟨v6, hv6, hf⟩ := bnd hf
        refine j1_ald hk 4 (by decide) (by decide) C hv6 dX1_pushRun_43 44 rfl ?_
        refine j_istore (lv2 := [(5, .int v6), (0, .ref (ad g k)), (1, .int b1), (2, .int b2), (3, .int b3), (4, .int b4)]) C dX1_pushRun_44 (by decide) rfl 46 rfl ?_
        refine j_iload_n C dX1_pushRun_46 rfl 3 rfl 47 rfl ?_
        refine j_iconst C dX1_pushRun_47 (v := 5) c_iconst_5 48 rfl ?_
        refine j_icmp_ne C dX1_pushRun_48 61 (by decide) 51 rfl (fun c7 => ?_) (fun c7 => ?_)
        · rw [if_neg c7] at hf
          refine j_aload_n C dX1_pushRun_61 rfl 1 rfl 62 rfl ?_
          refine j_iload C dX1_pushRun_62 0 rfl 64 rfl ?_
          refine j_iload_n C dX1_pushRun_64 rfl 4 rfl 65 rfl ?_
          refine j_iconst C dX1_pushRun_65 (v := 1) c_iconst_1 66 rfl ?_
          refine j_iadd C dX1_pushRun_66 67 rfl ?_
          obtain ⟨S8, hS8, hf⟩ := bnd hf
          refine j_callVv (As := [.int v6, .int (b3 + 1)]) (rest := []) C (c_X1_put l g sz x mm k hk v6 (b3 + 1) S _ hS8) (j_cwV C qc_X1_put qm_X1_96 qi_X1_put qs_X1_put qn_X1 hd_X1_put ⟨rfl, rfl⟩ ⟨by decide, by decide⟩) ((rcv_sh hk).cell C.2) rfl (Nat.le_of_ble_eq_true rfl) dX1_pushRun_67 70 rfl ?_
          refine j_iinc (lv2 := [(4, .int (b4 + 1)), (5, .int v6), (0, .ref (ad g k)), (1, .int b1), (2, .int b2), (3, .int b3)]) C dX1_pushRun_70 (k := 5) rfl (congrArg (HAdd.hAdd b4) c_oi_1) (by decide) rfl 73 rfl ?_
          refine j_goto C dX1_pushRun_73 22 (by decide) ?_
          refine j_sub [2, 3, 4, 5, 0] rfl ?_
          exact ih b1 b2 b3 (b4 + 1) S8 hf
        · rw [if_pos c7] at hf
          refine j_aload_n C dX1_pushRun_51 rfl 1 rfl 52 rfl ?_
          refine j_iload C dX1_pushRun_52 0 rfl 54 rfl ?_
          refine j_iload_n C dX1_pushRun_54 rfl 2 rfl 55 rfl ?_
          obtain ⟨S9, hS9, hf⟩ := bnd hf
          refine j_callVv (As := [.int v6, .int b1]) (rest := []) C (c_X1_goOver l g sz x mm k hk v6 b1 S _ hS9) (j_cwV C qc_X1_goOver qm_X1_92 qi_X1_goOver qs_X1_goOver qn_X1 hd_X1_goOver ⟨rfl, rfl⟩ ⟨by decide, by decide⟩) ((rcv_sh hk).cell C.2) rfl (Nat.le_of_ble_eq_true rfl) dX1_pushRun_55 58 rfl ?_
          refine j_goto C dX1_pushRun_58 70 (by decide) ?_
          refine j_iinc (lv2 := [(4, .int (b4 + 1)), (5, .int v6), (0, .ref (ad g k)), (1, .int b1), (2, .int b2), (3, .int b3)]) C dX1_pushRun_70 (k := 5) rfl (congrArg (HAdd.hAdd b4) c_oi_1) (by decide) rfl 73 rfl ?_
          refine j_goto C dX1_pushRun_73 22 (by decide) ?_
          refine j_sub [2, 3, 4, 5, 0] rfl ?_
          exact ih b1 b2 b3 (b4 + 1) S9 hf
  have hL8 : ∀ (n : Nat), ∀ (b1 : Int32) (b2 : Int32) (S : St), X1_pushRun_L8 n b1 b2 S = some S' → Wj p l e (rmJ 1 23) s m args below meth c (MQ below (QvJ g sz (put x k 7 S') mm) args s 0 0 (Ag sz)) 6 g sz (put x k 7 S) mm 8 [(0, .ref (ad g k)), (1, .int b1), (2, .int b2)] [] := by
    intro  n
    induction n with
    | zero =>
      intro b1 b2 S hf
      rw [X1_pushRun_L8] at hf
      cases hf
    | succ n ih =>
      intro b1 b2 S hf
      rw [X1_pushRun_L8] at hf
      refine j_iload_n C dX1_pushRun_8 rfl 2 rfl 9 rfl ?_
      refine j_if_lt C dX1_pushRun_9 89 (by decide) 12 rfl (fun c2 => ?_) (fun c2 => ?_)
      · rw [if_pos c2] at hf
        obtain rfl := Option.some.inj hf
        exact j_vret C hr hlk dX1_pushRun_89
      · rw [if_neg c2] at hf
        refine j_iload_n C dX1_pushRun_12 rfl 1 rfl 13 rfl ?_
        refine j_bipush C dX1_pushRun_13 (v := 6) c_bipush_6 15 rfl ?_
        refine j_imul C dX1_pushRun_15 16 rfl ?_
        refine j_iload_n C dX1_pushRun_16 rfl 2 rfl 17 rfl ?_
        refine j_iadd C dX1_pushRun_17 18 rfl ?_
        refine j_istore_n (lv2 := [(3, .int ((b1 * 6) + b2)), (0, .ref (ad g k)), (1, .int b1), (2, .int b2)]) C dX1_pushRun_18 rfl (by decide) rfl 19 rfl ?_
        refine j_iconst C dX1_pushRun_19 (v := 0) c_iconst_0 20 rfl ?_
        refine j_istore (lv2 := [(4, .int 0), (3, .int ((b1 * 6) + b2)), (0, .ref (ad g k)), (1, .int b1), (2, .int b2)]) C dX1_pushRun_20 (by decide) rfl 22 rfl ?_
        refine j_sub [2, 3, 4, 1, 0] rfl ?_
        exact hL22 _ ih FU b1 b2 ((b1 * 6) + b2) 0 S hf
  unfold X1_pushRun at hf
  refine j_aload_n C dX1_pushRun_0 rfl 0 rfl 1 rfl ?_
  refine j_iload_n C dX1_pushRun_1 rfl 1 rfl 2 rfl ?_
  obtain ⟨r1, hr1, hf⟩ := bnd hf
  refine j_callVi (As := [.int a1]) (rest := []) C (c_X1_runRows l g sz x mm k hk a1 S _ hr1) (j_cwV C qc_X1_runRows qm_X1_99 qi_X1_runRows qs_X1_runRows qn_X1 hd_X1_runRows ⟨rfl, rfl⟩ ⟨by decide, by decide⟩) ((rcv_sh hk).cell C.2) rfl (Nat.le_of_ble_eq_true rfl) dX1_pushRun_2 5 rfl ?_
  refine j_iconst C dX1_pushRun_5 (v := 1) c_iconst_1 6 rfl ?_
  refine j_isub C dX1_pushRun_6 7 rfl ?_
  refine j_istore_n (lv2 := [(2, .int (r1 - 1)), (0, .ref (ad g k)), (1, .int a1)]) C dX1_pushRun_7 rfl (by decide) rfl 8 rfl ?_
  refine j_sub [1, 2, 0] rfl ?_
  exact hL8 FU a1 (r1 - 1) S hf
set_option maxRecDepth 100000 in
set_option maxHeartbeats 4000000 in
theorem c_X1_pushAll (l : Launch) (g : GG) (sz : Nat) (x mm : St) (k : Nat) (hk : isSh k = true) (S : St) (r : Int32) (S' : St) (hf : X1_pushAll S = some (r, S')) : Met l yX1_pushAll (.code yX1_pushAll cX1_pushAll 3 (some .boolean) :: ALLW) (rmJ 2 48) (PcJ g sz (put x k 7 S) mm [.ref (ad g k)]) (QiJ g sz r (put x k 7 S') mm) 0 0 (Ag sz) := by
  refine j_met (own := RX1) (by decide) rfl (Nat.le_of_ble_eq_true rfl) rfl ?_
  intro p e s m args below meth c C hr hlk
  have hL4 : ∀ (n : Nat), ∀ (b1 : Int32) (b2 : Int32) (S : St), X1_pushAll_L4 n b1 b2 S = some (r, S') → Wj p l e (rmJ 2 48) s m args below meth c (MQ below (QiJ g sz r (put x k 7 S') mm) args s 0 0 (Ag sz)) 3 g sz (put x k 7 S) mm 4 [(0, .ref (ad g k)), (1, .int b1), (2, .int b2)] [] := by
    intro  n
    induction n with
    | zero =>
      intro b1 b2 S hf
      rw [X1_pushAll_L4] at hf
      cases hf
    | succ n ih =>
      intro b1 b2 S hf
      rw [X1_pushAll_L4] at hf
      refine j_iload_n C dX1_pushAll_4 rfl 2 rfl 5 rfl ?_
      refine j_bipush C dX1_pushAll_5 (v := 7) c_bipush_7 7 rfl ?_
      refine j_icmp_ge C dX1_pushAll_7 31 (by decide) 10 rfl (fun c1 => ?_) (fun c1 => ?_)
      · rw [if_pos c1] at hf
        refine j_iload_n C dX1_pushAll_31 rfl 1 rfl 32 rfl ?_
        obtain ⟨v2, hv2, hf⟩ := bnd hf
        obtain ⟨rfl, rfl⟩ := Prod.mk.inj (Option.some.inj hf)
        exact j_zret C hr hlk (bl_ok hv2).2 dX1_pushAll_32
      · rw [if_neg c1] at hf
        refine j_aload_n C dX1_pushAll_10 rfl 0 rfl 11 rfl ?_
        refine j_iload_n C dX1_pushAll_11 rfl 2 rfl 12 rfl ?_
        obtain ⟨r3, hr3, hf⟩ := bnd hf
        refine j_callVi (As := [.int b2]) (rest := []) C (c_X1_pushMoves l g sz x mm k hk b2 S _ hr3) (j_cwV C qc_X1_pushMoves qm_X1_102 qi_X1_pushMoves qs_X1_pushMoves qn_X1 hd_X1_pushMoves ⟨rfl, rfl⟩ ⟨by decide, by decide⟩) ((rcv_sh hk).cell C.2) rfl (Nat.le_of_ble_eq_true rfl) dX1_pushAll_12 15 rfl ?_
        refine j_if_eq C dX1_pushAll_15 25 (by decide) 18 rfl (fun c4 => ?_) (fun c4 => ?_)
        · rw [if_pos c4] at hf
          refine j_iinc (lv2 := [(2, .int (b2 + 1)), (0, .ref (ad g k)), (1, .int b1)]) C dX1_pushAll_25 (k := 2) rfl (congrArg (HAdd.hAdd b2) c_oi_1) (by decide) rfl 28 rfl ?_
          refine j_goto C dX1_pushAll_28 4 (by decide) ?_
          refine j_sub [1, 2, 0] rfl ?_
          exact ih b1 (b2 + 1) S hf
        · rw [if_neg c4] at hf
          refine j_aload_n C dX1_pushAll_18 rfl 0 rfl 19 rfl ?_
          refine j_iload_n C dX1_pushAll_19 rfl 2 rfl 20 rfl ?_
          obtain ⟨S5, hS5, hf⟩ := bnd hf
          refine j_callVv (As := [.int b2]) (rest := []) C (c_X1_pushRun l g sz x mm k hk b2 S _ hS5) (j_cwV C qc_X1_pushRun qm_X1_105 qi_X1_pushRun qs_X1_pushRun qn_X1 hd_X1_pushRun ⟨rfl, rfl⟩ ⟨by decide, by decide⟩) ((rcv_sh hk).cell C.2) rfl (Nat.le_of_ble_eq_true rfl) dX1_pushAll_20 23 rfl ?_
          refine j_iconst C dX1_pushAll_23 (v := 1) c_iconst_1 24 rfl ?_
          refine j_istore_n (lv2 := [(1, .int 1), (0, .ref (ad g k)), (2, .int b2)]) C dX1_pushAll_24 rfl (by decide) rfl 25 rfl ?_
          refine j_iinc (lv2 := [(2, .int (b2 + 1)), (1, .int 1), (0, .ref (ad g k))]) C dX1_pushAll_25 (k := 2) rfl (congrArg (HAdd.hAdd b2) c_oi_1) (by decide) rfl 28 rfl ?_
          refine j_goto C dX1_pushAll_28 4 (by decide) ?_
          refine j_sub [2, 1, 0] rfl ?_
          exact ih 1 (b2 + 1) S5 hf
  unfold X1_pushAll at hf
  refine j_iconst C dX1_pushAll_0 (v := 0) c_iconst_0 1 rfl ?_
  refine j_istore_n (lv2 := [(1, .int 0), (0, .ref (ad g k))]) C dX1_pushAll_1 rfl (by decide) rfl 2 rfl ?_
  refine j_iconst C dX1_pushAll_2 (v := 0) c_iconst_0 3 rfl ?_
  refine j_istore_n (lv2 := [(2, .int 0), (1, .int 0), (0, .ref (ad g k))]) C dX1_pushAll_3 rfl (by decide) rfl 4 rfl ?_
  refine j_sub [2, 1, 0] rfl ?_
  exact hL4 FU 0 0 S hf
set_option maxRecDepth 100000 in
set_option maxHeartbeats 4000000 in
theorem c_X1_slideAll (l : Launch) (g : GG) (sz : Nat) (x mm : St) (k : Nat) (hk : isSh k = true) (S : St) (r : Int32) (S' : St) (hf : X1_slideAll S = some (r, S')) : Met l yX1_slideAll (.code yX1_slideAll cX1_slideAll 4 (some .boolean) :: ALLW) (rmJ 2 45) (PcJ g sz (put x k 7 S) mm [.ref (ad g k)]) (QiJ g sz r (put x k 7 S') mm) 0 0 (Ag sz) := by
  refine j_met (own := RX1) (by decide) rfl (Nat.le_of_ble_eq_true rfl) rfl ?_
  intro p e s m args below meth c C hr hlk
  have hL10 : ∀ (k4 : Int32 → Int32 → St → Option (Int32 × St)) (_ : ∀ (b1 : Int32) (b2 : Int32) (S : St), k4 b1 b2 S = some (r, S') → Wj p l e (rmJ 2 45) s m args below meth c (MQ below (QiJ g sz r (put x k 7 S') mm) args s 0 0 (Ag sz)) 4 g sz (put x k 7 S) mm 4 [(0, .ref (ad g k)), (1, .int b1), (2, .int b2)] []), ∀ (n : Nat), ∀ (b1 : Int32) (b2 : Int32) (b3 : Int32) (S : St), X1_slideAll_L10 k4 n b1 b2 b3 S = some (r, S') → Wj p l e (rmJ 2 45) s m args below meth c (MQ below (QiJ g sz r (put x k 7 S') mm) args s 0 0 (Ag sz)) 4 g sz (put x k 7 S) mm 10 [(0, .ref (ad g k)), (1, .int b1), (2, .int b2), (3, .int b3)] [] := by
    intro k4 hk4 n
    induction n with
    | zero =>
      intro b1 b2 b3 S hf
      rw [X1_slideAll_L10] at hf
      cases hf
    | succ n ih =>
      intro b1 b2 b3 S hf
      rw [X1_slideAll_L10] at hf
      refine j_iload_n C dX1_slideAll_10 rfl 3 rfl 11 rfl ?_
      refine j_bipush C dX1_slideAll_11 (v := 42) c_bipush_42 13 rfl ?_
      refine j_icmp_ge C dX1_slideAll_13 37 (by decide) 16 rfl (fun c3 => ?_) (fun c3 => ?_)
      · rw [if_pos c3] at hf
        refine j_iinc (lv2 := [(2, .int (b2 + (-1))), (0, .ref (ad g k)), (1, .int b1), (3, .int b3)]) C dX1_slideAll_37 (k := 2) rfl (congrArg (HAdd.hAdd b2) c_oi_m1) (by decide) rfl 40 rfl ?_
        refine j_goto C dX1_slideAll_40 4 (by decide) ?_
        refine j_sub [1, 2, 0] rfl ?_
        exact hk4 b1 (b2 + (-1)) S hf
      · rw [if_neg c3] at hf
        refine j_aload_n C dX1_slideAll_16 rfl 0 rfl 17 rfl ?_
        refine j_iload_n C dX1_slideAll_17 rfl 3 rfl 18 rfl ?_
        obtain ⟨r4, hr4, hf⟩ := bnd hf
        refine j_callVi (As := [.int b3]) (rest := []) C (c_X1_leans l g sz x mm k hk b3 S _ hr4) (j_cwV C qc_X1_leans qm_X1_109 qi_X1_leans qs_X1_leans qn_X1 hd_X1_leans ⟨rfl, rfl⟩ ⟨by decide, by decide⟩) ((rcv_sh hk).cell C.2) rfl (Nat.le_of_ble_eq_true rfl) dX1_slideAll_18 21 rfl ?_
        refine j_if_eq C dX1_slideAll_21 31 (by decide) 24 rfl (fun c5 => ?_) (fun c5 => ?_)
        · rw [if_pos c5] at hf
          refine j_iinc (lv2 := [(3, .int (b3 + 6)), (0, .ref (ad g k)), (1, .int b1), (2, .int b2)]) C dX1_slideAll_31 (k := 3) rfl (congrArg (HAdd.hAdd b3) c_oi_6) (by decide) rfl 34 rfl ?_
          refine j_goto C dX1_slideAll_34 10 (by decide) ?_
          refine j_sub [1, 2, 3, 0] rfl ?_
          exact ih b1 b2 (b3 + 6) S hf
        · rw [if_neg c5] at hf
          refine j_aload_n C dX1_slideAll_24 rfl 0 rfl 25 rfl ?_
          refine j_iload_n C dX1_slideAll_25 rfl 3 rfl 26 rfl ?_
          obtain ⟨S6, hS6, hf⟩ := bnd hf
          refine j_callVv (As := [.int b3]) (rest := []) C (c_X1_slideTop l g sz x mm k hk b3 S _ hS6) (j_cwV C qc_X1_slideTop qm_X1_112 qi_X1_slideTop qs_X1_slideTop qn_X1 hd_X1_slideTop ⟨rfl, rfl⟩ ⟨by decide, by decide⟩) ((rcv_sh hk).cell C.2) rfl (Nat.le_of_ble_eq_true rfl) dX1_slideAll_26 29 rfl ?_
          refine j_iconst C dX1_slideAll_29 (v := 1) c_iconst_1 30 rfl ?_
          refine j_istore_n (lv2 := [(1, .int 1), (0, .ref (ad g k)), (2, .int b2), (3, .int b3)]) C dX1_slideAll_30 rfl (by decide) rfl 31 rfl ?_
          refine j_iinc (lv2 := [(3, .int (b3 + 6)), (1, .int 1), (0, .ref (ad g k)), (2, .int b2)]) C dX1_slideAll_31 (k := 3) rfl (congrArg (HAdd.hAdd b3) c_oi_6) (by decide) rfl 34 rfl ?_
          refine j_goto C dX1_slideAll_34 10 (by decide) ?_
          refine j_sub [2, 1, 3, 0] rfl ?_
          exact ih 1 b2 (b3 + 6) S6 hf
  have hL4 : ∀ (n : Nat), ∀ (b1 : Int32) (b2 : Int32) (S : St), X1_slideAll_L4 n b1 b2 S = some (r, S') → Wj p l e (rmJ 2 45) s m args below meth c (MQ below (QiJ g sz r (put x k 7 S') mm) args s 0 0 (Ag sz)) 4 g sz (put x k 7 S) mm 4 [(0, .ref (ad g k)), (1, .int b1), (2, .int b2)] [] := by
    intro  n
    induction n with
    | zero =>
      intro b1 b2 S hf
      rw [X1_slideAll_L4] at hf
      cases hf
    | succ n ih =>
      intro b1 b2 S hf
      rw [X1_slideAll_L4] at hf
      refine j_iload_n C dX1_slideAll_4 rfl 2 rfl 5 rfl ?_
      refine j_if_lt C dX1_slideAll_5 43 (by decide) 8 rfl (fun c1 => ?_) (fun c1 => ?_)
      · rw [if_pos c1] at hf
        refine j_iload_n C dX1_slideAll_43 rfl 1 rfl 44 rfl ?_
        obtain ⟨v2, hv2, hf⟩ := bnd hf
        obtain ⟨rfl, rfl⟩ := Prod.mk.inj (Option.some.inj hf)
        exact j_zret C hr hlk (bl_ok hv2).2 dX1_slideAll_44
      · rw [if_neg c1] at hf
        refine j_iload_n C dX1_slideAll_8 rfl 2 rfl 9 rfl ?_
        refine j_istore_n (lv2 := [(3, .int b2), (0, .ref (ad g k)), (1, .int b1), (2, .int b2)]) C dX1_slideAll_9 rfl (by decide) rfl 10 rfl ?_
        refine j_sub [1, 2, 3, 0] rfl ?_
        exact hL10 _ ih FU b1 b2 b2 S hf
  unfold X1_slideAll at hf
  refine j_iconst C dX1_slideAll_0 (v := 0) c_iconst_0 1 rfl ?_
  refine j_istore_n (lv2 := [(1, .int 0), (0, .ref (ad g k))]) C dX1_slideAll_1 rfl (by decide) rfl 2 rfl ?_
  refine j_iconst C dX1_slideAll_2 (v := 5) c_iconst_5 3 rfl ?_
  refine j_istore_n (lv2 := [(2, .int 5), (1, .int 0), (0, .ref (ad g k))]) C dX1_slideAll_3 rfl (by decide) rfl 4 rfl ?_
  refine j_sub [2, 1, 0] rfl ?_
  exact hL4 FU 0 5 S hf
set_option maxRecDepth 100000 in
set_option maxHeartbeats 4000000 in
theorem c_X1_passBeat (l : Launch) (g : GG) (sz : Nat) (x mm : St) (k : Nat) (hk : isSh k = true) (S : St) (r : Int32) (S' : St) (hf : X1_passBeat S = some (r, S')) : Met l yX1_passBeat (.code yX1_passBeat cX1_passBeat 4 (some .boolean) :: ALLW) (rmJ 3 70) (PcJ g sz (put x k 7 S) mm [.ref (ad g k)]) (QiJ g sz r (put x k 7 S') mm) 0 0 (Ag sz) := by
  refine j_met (own := RX1) (by decide) rfl (Nat.le_of_ble_eq_true rfl) rfl ?_
  intro p e s m args below meth c C hr hlk
  have hL32 : ∀ (t0 : Int32) (S : St), X1_passBeat_L32 t0 S = some (r, S') → Wj p l e (rmJ 3 70) s m args below meth c (MQ below (QiJ g sz r (put x k 7 S') mm) args s 0 0 (Ag sz)) 4 g sz (put x k 7 S) mm 32 [(0, .ref (ad g k))] [.int t0] := by
    intro  t0 S hf
    unfold X1_passBeat_L32 at hf
    refine j_istore_n (lv2 := [(2, .int t0), (0, .ref (ad g k))]) C dX1_passBeat_32 rfl (by decide) rfl 33 rfl ?_
    refine j_aload_n C dX1_passBeat_33 rfl 1 rfl 34 rfl ?_
    obtain ⟨⟨r4, S5⟩, hq3, hf⟩ := bnd hf
    dsimp only at hf
    refine j_callVi (As := []) (rest := []) C (c_X1_slideAll l g sz x mm k hk  S _ _ hq3) (j_cwV C qc_X1_slideAll qm_X1_119 qi_X1_slideAll qs_X1_slideAll qn_X1 hd_X1_slideAll ⟨rfl, rfl⟩ ⟨by decide, by decide⟩) ((rcv_sh hk).cell C.2) rfl (Nat.le_of_ble_eq_true rfl) dX1_passBeat_34 37 rfl ?_
    refine j_istore_n (lv2 := [(3, .int r4), (2, .int t0), (0, .ref (ad g k))]) C dX1_passBeat_37 rfl (by decide) rfl 38 rfl ?_
    refine j_aload_n C dX1_passBeat_38 rfl 2 rfl 39 rfl ?_
    refine j_dup C dX1_passBeat_39 rfl 40 rfl ?_
    refine j1_get hk C 7 (by decide) qf_X1_34 (v := .int (S5 0 7)) rfl dX1_passBeat_40 43 rfl ?_
    refine j_iconst C dX1_passBeat_43 (v := 1) c_iconst_1 44 rfl ?_
    refine j_iadd C dX1_passBeat_44 45 rfl ?_
    obtain ⟨S6, hS6, hf⟩ := bnd hf
    refine j1_put hk C 7 (by decide) (by decide) rfl rfl qf_X1_34 dX1_passBeat_45 48 rfl ?_
    rw [Option.some.inj hS6]
    refine j_iload_n C dX1_passBeat_48 rfl 1 rfl 49 rfl ?_
    refine j_if_ne C dX1_passBeat_49 56 (by decide) 52 rfl (fun c7 => ?_) (fun c7 => ?_)
    · rw [if_neg c7] at hf
      refine j_iconst C dX1_passBeat_56 (v := 1) c_iconst_1 57 rfl ?_
      refine j_goto C dX1_passBeat_57 61 (by decide) ?_
      obtain ⟨rfl, rfl⟩ := Prod.mk.inj (Option.some.inj hf)
      exact j_zret C hr hlk (Or.inr rfl) dX1_passBeat_61
    · rw [if_pos c7] at hf
      refine j_iload_n C dX1_passBeat_52 rfl 0 rfl 53 rfl ?_
      refine j_if_eq C dX1_passBeat_53 60 (by decide) 56 rfl (fun c8 => ?_) (fun c8 => ?_)
      · rw [if_pos c8] at hf
        refine j_iconst C dX1_passBeat_60 (v := 0) c_iconst_0 61 rfl ?_
        obtain ⟨rfl, rfl⟩ := Prod.mk.inj (Option.some.inj hf)
        exact j_zret C hr hlk (Or.inl rfl) dX1_passBeat_61
      · rw [if_neg c8] at hf
        refine j_iconst C dX1_passBeat_56 (v := 1) c_iconst_1 57 rfl ?_
        refine j_goto C dX1_passBeat_57 61 (by decide) ?_
        obtain ⟨rfl, rfl⟩ := Prod.mk.inj (Option.some.inj hf)
        exact j_zret C hr hlk (Or.inr rfl) dX1_passBeat_61
  have hL31 : ∀ (S : St), X1_passBeat_L31 S = some (r, S') → Wj p l e (rmJ 3 70) s m args below meth c (MQ below (QiJ g sz r (put x k 7 S') mm) args s 0 0 (Ag sz)) 4 g sz (put x k 7 S) mm 31 [(0, .ref (ad g k))] [] := by
    intro  S hf
    unfold X1_passBeat_L31 at hf
    refine j_iconst C dX1_passBeat_31 (v := 0) c_iconst_0 32 rfl ?_
    exact hL32 0 S hf
  unfold X1_passBeat at hf
  refine j_aload_n C dX1_passBeat_0 rfl 0 rfl 1 rfl ?_
  refine j1_get hk C 4 (by decide) qf_X1_24 (v := .ref (ad g (k + 5))) rfl dX1_passBeat_1 4 rfl ?_
  refine j_iconst C dX1_passBeat_4 (v := 1) c_iconst_1 5 rfl ?_
  obtain ⟨v1, hv1, hf⟩ := bnd hf
  refine j1_ald hk 5 (by decide) (by decide) C hv1 dX1_passBeat_5 6 rfl ?_
  refine j_istore_n (lv2 := [(1, .int v1), (0, .ref (ad g k))]) C dX1_passBeat_6 rfl (by decide) rfl 7 rfl ?_
  refine j_iload_n C dX1_passBeat_7 rfl 0 rfl 8 rfl ?_
  refine j_if_le C dX1_passBeat_8 31 (by decide) 11 rfl (fun c2 => ?_) (fun c2 => ?_)
  · rw [if_pos c2] at hf
    refine j_sub [1] rfl ?_
    exact hL31 S hf
  · rw [if_neg c2] at hf
    refine j_aload_n C dX1_passBeat_11 rfl 1 rfl 12 rfl ?_
    refine j1_get hk C 7 (by decide) qf_X1_34 (v := .int (S 0 7)) rfl dX1_passBeat_12 15 rfl ?_
    refine j_iload_n C dX1_passBeat_15 rfl 0 rfl 16 rfl ?_
    obtain ⟨v9, hv9, hf⟩ := bnd hf
    refine j_irem C dX1_passBeat_16 hv9 17 rfl ?_
    refine j_if_ne C dX1_passBeat_17 31 (by decide) 20 rfl (fun c10 => ?_) (fun c10 => ?_)
    · rw [if_neg c10] at hf
      refine j_sub [1] rfl ?_
      exact hL31 S hf
    · rw [if_pos c10] at hf
      refine j_aload_n C dX1_passBeat_20 rfl 1 rfl 21 rfl ?_
      obtain ⟨⟨r12, S13⟩, hq11, hf⟩ := bnd hf
      dsimp only at hf
      refine j_callVi (As := []) (rest := []) C (c_X1_pushAll l g sz x mm k hk  S _ _ hq11) (j_cwV C qc_X1_pushAll qm_X1_115 qi_X1_pushAll qs_X1_pushAll qn_X1 hd_X1_pushAll ⟨rfl, rfl⟩ ⟨by decide, by decide⟩) ((rcv_sh hk).cell C.2) rfl (Nat.le_of_ble_eq_true rfl) dX1_passBeat_21 24 rfl ?_
      refine j_if_eq C dX1_passBeat_24 31 (by decide) 27 rfl (fun c14 => ?_) (fun c14 => ?_)
      · rw [if_pos c14] at hf
        refine j_sub [1] rfl ?_
        exact hL31 S13 hf
      · rw [if_neg c14] at hf
        refine j_iconst C dX1_passBeat_27 (v := 1) c_iconst_1 28 rfl ?_
        refine j_goto C dX1_passBeat_28 32 (by decide) ?_
        refine j_sub [1] rfl ?_
        exact hL32 1 S13 hf
set_option maxRecDepth 100000 in
set_option maxHeartbeats 4000000 in
theorem c_X1_advance (l : Launch) (g : GG) (sz : Nat) (x mm : St) (k : Nat) (hk : isSh k = true) (a1 : Int32) (S : St) (S' : St) (hf : X1_advance a1 S = some S') : Met l yX1_advance (.code yX1_advance cX1_advance 4 none :: ALLW) (rmJ 4 93) (PcJ g sz (put x k 7 S) mm [.ref (ad g k), .int a1]) (QvJ g sz (put x k 7 S') mm) 0 0 (Ag sz) := by
  refine j_met (own := RX1) (by decide) rfl (Nat.le_of_ble_eq_true rfl) rfl ?_
  intro p e s m args below meth c C hr hlk
  have hL4 : ∀ (n : Nat), ∀ (b1 : Int32) (b2 : Int32) (b3 : Int32) (S : St), X1_advance_L4 n b1 b2 b3 S = some S' → Wj p l e (rmJ 4 93) s m args below meth c (MQ below (QvJ g sz (put x k 7 S') mm) args s 0 0 (Ag sz)) 4 g sz (put x k 7 S) mm 4 [(0, .ref (ad g k)), (1, .int b1), (2, .int b2), (3, .int b3)] [] := by
    intro  n
    induction n with
    | zero =>
      intro b1 b2 b3 S hf
      rw [X1_advance_L4] at hf
      cases hf
    | succ n ih =>
      intro b1 b2 b3 S hf
      rw [X1_advance_L4] at hf
      refine j_iload_n C dX1_advance_4 rfl 3 rfl 5 rfl ?_
      refine j_iload_n C dX1_advance_5 rfl 1 rfl 6 rfl ?_
      refine j_icmp_ge C dX1_advance_6 53 (by decide) 9 rfl (fun c1 => ?_) (fun c1 => ?_)
      · rw [if_pos c1] at hf
        obtain rfl := Option.some.inj hf
        exact j_vret C hr hlk dX1_advance_53
      · rw [if_neg c1] at hf
        refine j_iload_n C dX1_advance_9 rfl 2 rfl 10 rfl ?_
        refine j_aload_n C dX1_advance_10 rfl 0 rfl 11 rfl ?_
        refine j1_get hk C 4 (by decide) qf_X1_24 (v := .ref (ad g (k + 5))) rfl dX1_advance_11 14 rfl ?_
        refine j_iconst C dX1_advance_14 (v := 1) c_iconst_1 15 rfl ?_
        obtain ⟨v2, hv2, hf⟩ := bnd hf
        refine j1_ald hk 5 (by decide) (by decide) C hv2 dX1_advance_15 16 rfl ?_
        refine j_icmp_lt C dX1_advance_16 32 (by decide) 19 rfl (fun c3 => ?_) (fun c3 => ?_)
        · rw [if_pos c3] at hf
          refine j_aload_n C dX1_advance_32 rfl 0 rfl 33 rfl ?_
          obtain ⟨⟨r5, S6⟩, hq4, hf⟩ := bnd hf
          dsimp only at hf
          refine j_callVi (As := []) (rest := []) C (c_X1_passBeat l g sz x mm k hk  S _ _ hq4) (j_cwV C qc_X1_passBeat qm_X1_122 qi_X1_passBeat qs_X1_passBeat qn_X1 hd_X1_passBeat ⟨rfl, rfl⟩ ⟨by decide, by decide⟩) ((rcv_sh hk).cell C.2) rfl (Nat.le_of_ble_eq_true rfl) dX1_advance_33 36 rfl ?_
          refine j_if_eq C dX1_advance_36 43 (by decide) 39 rfl (fun c7 => ?_) (fun c7 => ?_)
          · rw [if_pos c7] at hf
            refine j_iload_n C dX1_advance_43 rfl 2 rfl 44 rfl ?_
            refine j_iconst C dX1_advance_44 (v := 1) c_iconst_1 45 rfl ?_
            refine j_iadd C dX1_advance_45 46 rfl ?_
            refine j_istore_n (lv2 := [(2, .int (b2 + 1)), (0, .ref (ad g k)), (1, .int b1), (3, .int b3)]) C dX1_advance_46 rfl (by decide) rfl 47 rfl ?_
            refine j_iinc (lv2 := [(3, .int (b3 + 1)), (2, .int (b2 + 1)), (0, .ref (ad g k)), (1, .int b1)]) C dX1_advance_47 (k := 3) rfl (congrArg (HAdd.hAdd b3) c_oi_1) (by decide) rfl 50 rfl ?_
            refine j_goto C dX1_advance_50 4 (by decide) ?_
            refine j_sub [2, 3, 1, 0] rfl ?_
            exact ih b1 (b2 + 1) (b3 + 1) S6 hf
          · rw [if_neg c7] at hf
            refine j_iconst C dX1_advance_39 (v := 0) c_iconst_0 40 rfl ?_
            refine j_goto C dX1_advance_40 46 (by decide) ?_
            refine j_istore_n (lv2 := [(2, .int 0), (0, .ref (ad g k)), (1, .int b1), (3, .int b3)]) C dX1_advance_46 rfl (by decide) rfl 47 rfl ?_
            refine j_iinc (lv2 := [(3, .int (b3 + 1)), (2, .int 0), (0, .ref (ad g k)), (1, .int b1)]) C dX1_advance_47 (k := 3) rfl (congrArg (HAdd.hAdd b3) c_oi_1) (by decide) rfl 50 rfl ?_
            refine j_goto C dX1_advance_50 4 (by decide) ?_
            refine j_sub [2, 3, 1, 0] rfl ?_
            exact ih b1 0 (b3 + 1) S6 hf
        · rw [if_neg c3] at hf
          refine j_aload_n C dX1_advance_19 rfl 0 rfl 20 rfl ?_
          refine j_dup C dX1_advance_20 rfl 21 rfl ?_
          refine j1_get hk C 7 (by decide) qf_X1_34 (v := .int (S 0 7)) rfl dX1_advance_21 24 rfl ?_
          refine j_iload_n C dX1_advance_24 rfl 1 rfl 25 rfl ?_
          refine j_iload_n C dX1_advance_25 rfl 3 rfl 26 rfl ?_
          refine j_isub C dX1_advance_26 27 rfl ?_
          refine j_iadd C dX1_advance_27 28 rfl ?_
          obtain ⟨S8, hS8, hf⟩ := bnd hf
          refine j1_put hk C 7 (by decide) (by decide) rfl rfl qf_X1_34 dX1_advance_28 31 rfl ?_
          rw [Option.some.inj hS8]
          obtain rfl := Option.some.inj hf
          exact j_vret C hr hlk dX1_advance_31
  unfold X1_advance at hf
  refine j_iconst C dX1_advance_0 (v := 0) c_iconst_0 1 rfl ?_
  refine j_istore_n (lv2 := [(2, .int 0), (0, .ref (ad g k)), (1, .int a1)]) C dX1_advance_1 rfl (by decide) rfl 2 rfl ?_
  refine j_iconst C dX1_advance_2 (v := 0) c_iconst_0 3 rfl ?_
  refine j_istore_n (lv2 := [(3, .int 0), (2, .int 0), (0, .ref (ad g k)), (1, .int a1)]) C dX1_advance_3 rfl (by decide) rfl 4 rfl ?_
  refine j_sub [2, 3, 1, 0] rfl ?_
  exact hL4 FU a1 0 0 S hf
set_option maxRecDepth 100000 in
set_option maxHeartbeats 4000000 in
theorem c_X1_release (l : Launch) (g : GG) (sz : Nat) (x mm : St) (k : Nat) (hk : isSh k = true) (a1 : Int32) (a2 : Int32) (S : St) (S' : St) (hf : X1_release a1 a2 S = some S') : Met l yX1_release (.code yX1_release cX1_release 4 none :: ALLW) (rmJ 4 93) (PcJ g sz (put x k 7 S) mm [.ref (ad g k), .int a1, .int a2]) (QvJ g sz (put x k 7 S') mm) 0 0 (Ag sz) := by
  refine j_met (own := RX1) (by decide) rfl (Nat.le_of_ble_eq_true rfl) rfl ?_
  intro p e s m args below meth c C hr hlk
  have hL62 : ∀ (S : St), X1_release_L62 S = some S' → Wj p l e (rmJ 4 93) s m args below meth c (MQ below (QvJ g sz (put x k 7 S') mm) args s 0 0 (Ag sz)) 4 g sz (put x k 7 S) mm 62 [(0, .ref (ad g k))] [] := by
    intro  S hf
    unfold X1_release_L62 at hf
    refine j_aload_n C dX1_release_62 rfl 0 rfl 63 rfl ?_
    refine j_dup C dX1_release_63 rfl 64 rfl ?_
    refine j1_get hk C 8 (by decide) qf_X1_37 (v := .int (S 0 8)) rfl dX1_release_64 67 rfl ?_
    refine j_iconst C dX1_release_67 (v := 1) c_iconst_1 68 rfl ?_
    refine j_iadd C dX1_release_68 69 rfl ?_
    obtain ⟨S5, hS5, hf⟩ := bnd hf
    refine j1_put hk C 8 (by decide) (by decide) rfl rfl qf_X1_37 dX1_release_69 72 rfl ?_
    rw [Option.some.inj hS5]
    refine j_aload_n C dX1_release_72 rfl 0 rfl 73 rfl ?_
    obtain ⟨⟨r7, S8⟩, hq6, hf⟩ := bnd hf
    dsimp only at hf
    refine j_callVi (As := []) (rest := []) C (c_X1_passBeat l g sz x mm k hk  S5 _ _ hq6) (j_cwV C qc_X1_passBeat qm_X1_122 qi_X1_passBeat qs_X1_passBeat qn_X1 hd_X1_passBeat ⟨rfl, rfl⟩ ⟨by decide, by decide⟩) ((rcv_sh hk).cell C.2) rfl (Nat.le_of_ble_eq_true rfl) dX1_release_73 76 rfl ?_
    refine j_pop C dX1_release_76 rfl 77 rfl ?_
    obtain rfl := Option.some.inj hf
    exact j_vret C hr hlk dX1_release_77
  have hL39 : ∀ (b1 : Int32) (b3 : Int32) (S : St), X1_release_L39 b1 b3 S = some S' → Wj p l e (rmJ 4 93) s m args below meth c (MQ below (QvJ g sz (put x k 7 S') mm) args s 0 0 (Ag sz)) 4 g sz (put x k 7 S) mm 39 [(0, .ref (ad g k)), (1, .int b1), (3, .int b3)] [] := by
    intro  b1 b3 S hf
    unfold X1_release_L39 at hf
    refine j_iload_n C dX1_release_39 rfl 2 rfl 40 rfl ?_
    refine j_bipush C dX1_release_40 (v := 42) c_bipush_42 42 rfl ?_
    refine j_icmp_ge C dX1_release_42 54 (by decide) 45 rfl (fun c3 => ?_) (fun c3 => ?_)
    · rw [if_pos c3] at hf
      refine j_aload_n C dX1_release_54 rfl 0 rfl 55 rfl ?_
      refine j1_get hk C 1 (by decide) qf_X1_15 (v := .ref (ad g (k + 2))) rfl dX1_release_55 58 rfl ?_
      refine j_iload_n C dX1_release_58 rfl 1 rfl 59 rfl ?_
      refine j_bipush C dX1_release_59 (v := 102) c_bipush_102 61 rfl ?_
      obtain ⟨S4, hS4, hf⟩ := bnd hf
      refine j1_ast hk 2 (by decide) (by decide) C hS4 dX1_release_61 62 rfl ?_
      refine j_sub [0] rfl ?_
      exact hL62 S4 hf
    · rw [if_neg c3] at hf
      refine j_aload_n C dX1_release_45 rfl 0 rfl 46 rfl ?_
      refine j_iload_n C dX1_release_46 rfl 1 rfl 47 rfl ?_
      refine j_iload_n C dX1_release_47 rfl 2 rfl 48 rfl ?_
      obtain ⟨S9, hS9, hf⟩ := bnd hf
      refine j_callVv (As := [.int b1, .int b3]) (rest := []) C (c_X1_put l g sz x mm k hk b1 b3 S _ hS9) (j_cwV C qc_X1_put qm_X1_96 qi_X1_put qs_X1_put qn_X1 hd_X1_put ⟨rfl, rfl⟩ ⟨by decide, by decide⟩) ((rcv_sh hk).cell C.2) rfl (Nat.le_of_ble_eq_true rfl) dX1_release_48 51 rfl ?_
      refine j_goto C dX1_release_51 62 (by decide) ?_
      refine j_sub [0] rfl ?_
      exact hL62 S9 hf
  have hL17 : ∀ (n : Nat), ∀ (b1 : Int32) (b3 : Int32) (S : St), X1_release_L17 n b1 b3 S = some S' → Wj p l e (rmJ 4 93) s m args below meth c (MQ below (QvJ g sz (put x k 7 S') mm) args s 0 0 (Ag sz)) 4 g sz (put x k 7 S) mm 17 [(0, .ref (ad g k)), (1, .int b1), (3, .int b3)] [] := by
    intro  n
    induction n with
    | zero =>
      intro b1 b3 S hf
      rw [X1_release_L17] at hf
      cases hf
    | succ n ih =>
      intro b1 b3 S hf
      rw [X1_release_L17] at hf
      refine j_iload_n C dX1_release_17 rfl 2 rfl 18 rfl ?_
      refine j_bipush C dX1_release_18 (v := 42) c_bipush_42 20 rfl ?_
      refine j_icmp_ge C dX1_release_20 39 (by decide) 23 rfl (fun c2 => ?_) (fun c2 => ?_)
      · rw [if_pos c2] at hf
        exact hL39 b1 b3 S hf
      · rw [if_neg c2] at hf
        refine j_aload_n C dX1_release_23 rfl 0 rfl 24 rfl ?_
        refine j1_get hk C 2 (by decide) qf_X1_18 (v := .ref (ad g (k + 3))) rfl dX1_release_24 27 rfl ?_
        refine j_iload_n C dX1_release_27 rfl 2 rfl 28 rfl ?_
        obtain ⟨v10, hv10, hf⟩ := bnd hf
        refine j1_ald hk 3 (by decide) (by decide) C hv10 dX1_release_28 29 rfl ?_
        refine j_iconst C dX1_release_29 (v := 4) c_iconst_4 30 rfl ?_
        refine j_icmp_lt C dX1_release_30 39 (by decide) 33 rfl (fun c11 => ?_) (fun c11 => ?_)
        · rw [if_pos c11] at hf
          exact hL39 b1 b3 S hf
        · rw [if_neg c11] at hf
          refine j_iinc (lv2 := [(3, .int (b3 + 6)), (0, .ref (ad g k)), (1, .int b1)]) C dX1_release_33 (k := 2) rfl (congrArg (HAdd.hAdd b3) c_oi_6) (by decide) rfl 36 rfl ?_
          refine j_goto C dX1_release_36 17 (by decide) ?_
          refine j_sub [1, 2, 0] rfl ?_
          exact ih b1 (b3 + 6) S hf
  unfold X1_release at hf
  refine j_iload_n C dX1_release_0 rfl 1 rfl 1 rfl ?_
  refine j_if_ge C dX1_release_1 5 (by decide) 4 rfl (fun c1 => ?_) (fun c1 => ?_)
  · rw [if_pos c1] at hf
    refine j_iload_n C dX1_release_5 rfl 2 rfl 6 rfl ?_
    refine j_bipush C dX1_release_6 (v := 6) c_bipush_6 8 rfl ?_
    refine j_imul C dX1_release_8 9 rfl ?_
    refine j_aload_n C dX1_release_9 rfl 0 rfl 10 rfl ?_
    refine j1_get hk C 7 (by decide) qf_X1_34 (v := .int (S 0 7)) rfl dX1_release_10 13 rfl ?_
    refine j_iconst C dX1_release_13 (v := 2) c_iconst_2 14 rfl ?_
    refine j_iremc C dX1_release_14 (by decide) 15 rfl ?_
    refine j_iadd C dX1_release_15 16 rfl ?_
    refine j_istore_n (lv2 := [(3, .int ((a2 * 6) + (irm (S 0 7) 2))), (0, .ref (ad g k)), (1, .int a1), (2, .int a2)]) C dX1_release_16 rfl (by decide) rfl 17 rfl ?_
    refine j_sub [1, 2, 0] rfl ?_
    exact hL17 FU a1 ((a2 * 6) + (irm (S 0 7) 2)) S hf
  · rw [if_neg c1] at hf
    obtain rfl := Option.some.inj hf
    exact j_vret C hr hlk dX1_release_4
set_option maxRecDepth 100000 in
set_option maxHeartbeats 4000000 in
theorem c_X1_shake (l : Launch) (g : GG) (sz : Nat) (x mm : St) (k : Nat) (hk : isSh k = true) (S : St) (r : Int32) (S' : St) (hf : X1_shake S = some (r, S')) : Met l yX1_shake (.code yX1_shake cX1_shake 5 (some .int) :: ALLW) (rmJ 2 45) (PcJ g sz (put x k 7 S) mm [.ref (ad g k)]) (QiJ g sz r (put x k 7 S') mm) 0 0 (Ag sz) := by
  refine j_met (own := RX1) (by decide) rfl (Nat.le_of_ble_eq_true rfl) rfl ?_
  intro p e s m args below meth c C hr hlk
  have hL36 : ∀ (k4 : Int32 → Int32 → St → Option (Int32 × St)) (_ : ∀ (b1 : Int32) (b2 : Int32) (S : St), k4 b1 b2 S = some (r, S') → Wj p l e (rmJ 2 45) s m args below meth c (MQ below (QiJ g sz r (put x k 7 S') mm) args s 0 0 (Ag sz)) 5 g sz (put x k 7 S) mm 4 [(0, .ref (ad g k)), (1, .int b1), (2, .int b2)] []) (k10 : Int32 → Int32 → Int32 → St → Option (Int32 × St)) (_ : ∀ (b1 : Int32) (b2 : Int32) (b3 : Int32) (S : St), k10 b1 b2 b3 S = some (r, S') → Wj p l e (rmJ 2 45) s m args below meth c (MQ below (QiJ g sz r (put x k 7 S') mm) args s 0 0 (Ag sz)) 5 g sz (put x k 7 S) mm 10 [(0, .ref (ad g k)), (1, .int b1), (2, .int b2), (3, .int b3)] []), ∀ (b1 : Int32) (b2 : Int32) (b3 : Int32) (t0 : Int32) (S : St), X1_shake_L36 k4 k10 b1 b2 b3 t0 S = some (r, S') → Wj p l e (rmJ 2 45) s m args below meth c (MQ below (QiJ g sz r (put x k 7 S') mm) args s 0 0 (Ag sz)) 5 g sz (put x k 7 S) mm 36 [(0, .ref (ad g k)), (1, .int b1), (2, .int b2), (3, .int b3)] [.int t0] := by
    intro k4 hk4 k10 hk10 b1 b2 b3 t0 S hf
    unfold X1_shake_L36 at hf
    refine j_istore (lv2 := [(4, .int t0), (0, .ref (ad g k)), (1, .int b1), (2, .int b2), (3, .int b3)]) C dX1_shake_36 (by decide) rfl 38 rfl ?_
    refine j_iload C dX1_shake_38 0 rfl 40 rfl ?_
    refine j_if_eq C dX1_shake_40 69 (by decide) 43 rfl (fun c4 => ?_) (fun c4 => ?_)
    · rw [if_pos c4] at hf
      refine j_iinc (lv2 := [(3, .int (b3 + 6)), (4, .int t0), (0, .ref (ad g k)), (1, .int b1), (2, .int b2)]) C dX1_shake_69 (k := 4) rfl (congrArg (HAdd.hAdd b3) c_oi_6) (by decide) rfl 72 rfl ?_
      refine j_goto C dX1_shake_72 10 (by decide) ?_
      refine j_sub [2, 3, 4, 0] rfl ?_
      exact hk10 b1 b2 (b3 + 6) S hf
    · rw [if_neg c4] at hf
      refine j_aload_n C dX1_shake_43 rfl 1 rfl 44 rfl ?_
      refine j1_get hk C 2 (by decide) qf_X1_18 (v := .ref (ad g (k + 3))) rfl dX1_shake_44 47 rfl ?_
      refine j_iload_n C dX1_shake_47 rfl 4 rfl 48 rfl ?_
      obtain ⟨v5, hv5, hf⟩ := bnd hf
      refine j1_ald hk 3 (by decide) (by decide) C hv5 dX1_shake_48 49 rfl ?_
      refine j_iconst C dX1_shake_49 (v := 2) c_iconst_2 50 rfl ?_
      refine j_icmp_lt C dX1_shake_50 69 (by decide) 53 rfl (fun c6 => ?_) (fun c6 => ?_)
      · rw [if_pos c6] at hf
        refine j_iinc (lv2 := [(3, .int (b3 + 6)), (4, .int t0), (0, .ref (ad g k)), (1, .int b1), (2, .int b2)]) C dX1_shake_69 (k := 4) rfl (congrArg (HAdd.hAdd b3) c_oi_6) (by decide) rfl 72 rfl ?_
        refine j_goto C dX1_shake_72 10 (by decide) ?_
        refine j_sub [2, 3, 4, 0] rfl ?_
        exact hk10 b1 b2 (b3 + 6) S hf
      · rw [if_neg c6] at hf
        refine j_aload_n C dX1_shake_53 rfl 1 rfl 54 rfl ?_
        refine j_iload_n C dX1_shake_54 rfl 4 rfl 55 rfl ?_
        obtain ⟨r7, hr7, hf⟩ := bnd hf
        refine j_callVi (As := [.int b3]) (rest := []) C (c_X1_topSlides l g sz x mm k hk b3 S _ hr7) (j_cwV C qc_X1_topSlides qm_X1_83 qi_X1_topSlides qs_X1_topSlides qn_X1 hd_X1_topSlides ⟨rfl, rfl⟩ ⟨by decide, by decide⟩) ((rcv_sh hk).cell C.2) rfl (Nat.le_of_ble_eq_true rfl) dX1_shake_55 58 rfl ?_
        refine j_if_eq C dX1_shake_58 69 (by decide) 61 rfl (fun c8 => ?_) (fun c8 => ?_)
        · rw [if_pos c8] at hf
          refine j_iinc (lv2 := [(3, .int (b3 + 6)), (4, .int t0), (0, .ref (ad g k)), (1, .int b1), (2, .int b2)]) C dX1_shake_69 (k := 4) rfl (congrArg (HAdd.hAdd b3) c_oi_6) (by decide) rfl 72 rfl ?_
          refine j_goto C dX1_shake_72 10 (by decide) ?_
          refine j_sub [2, 3, 4, 0] rfl ?_
          exact hk10 b1 b2 (b3 + 6) S hf
        · rw [if_neg c8] at hf
          refine j_aload_n C dX1_shake_61 rfl 1 rfl 62 rfl ?_
          refine j_iload_n C dX1_shake_62 rfl 4 rfl 63 rfl ?_
          obtain ⟨S9, hS9, hf⟩ := bnd hf
          refine j_callVv (As := [.int b3]) (rest := []) C (c_X1_slideTop l g sz x mm k hk b3 S _ hS9) (j_cwV C qc_X1_slideTop qm_X1_112 qi_X1_slideTop qs_X1_slideTop qn_X1 hd_X1_slideTop ⟨rfl, rfl⟩ ⟨by decide, by decide⟩) ((rcv_sh hk).cell C.2) rfl (Nat.le_of_ble_eq_true rfl) dX1_shake_63 66 rfl ?_
          refine j_iinc (lv2 := [(1, .int (b1 + 1)), (4, .int t0), (0, .ref (ad g k)), (2, .int b2), (3, .int b3)]) C dX1_shake_66 (k := 2) rfl (congrArg (HAdd.hAdd b1) c_oi_1) (by decide) rfl 69 rfl ?_
          refine j_iinc (lv2 := [(3, .int (b3 + 6)), (1, .int (b1 + 1)), (4, .int t0), (0, .ref (ad g k)), (2, .int b2)]) C dX1_shake_69 (k := 4) rfl (congrArg (HAdd.hAdd b3) c_oi_6) (by decide) rfl 72 rfl ?_
          refine j_goto C dX1_shake_72 10 (by decide) ?_
          refine j_sub [3, 1, 4, 0] rfl ?_
          exact hk10 (b1 + 1) b2 (b3 + 6) S9 hf
  have hL31 : ∀ (k4 : Int32 → Int32 → St → Option (Int32 × St)) (_ : ∀ (b1 : Int32) (b2 : Int32) (S : St), k4 b1 b2 S = some (r, S') → Wj p l e (rmJ 2 45) s m args below meth c (MQ below (QiJ g sz r (put x k 7 S') mm) args s 0 0 (Ag sz)) 5 g sz (put x k 7 S) mm 4 [(0, .ref (ad g k)), (1, .int b1), (2, .int b2)] []) (k10 : Int32 → Int32 → Int32 → St → Option (Int32 × St)) (_ : ∀ (b1 : Int32) (b2 : Int32) (b3 : Int32) (S : St), k10 b1 b2 b3 S = some (r, S') → Wj p l e (rmJ 2 45) s m args below meth c (MQ below (QiJ g sz r (put x k 7 S') mm) args s 0 0 (Ag sz)) 5 g sz (put x k 7 S) mm 10 [(0, .ref (ad g k)), (1, .int b1), (2, .int b2), (3, .int b3)] []), ∀ (b1 : Int32) (b2 : Int32) (b3 : Int32) (S : St), X1_shake_L31 k4 k10 b1 b2 b3 S = some (r, S') → Wj p l e (rmJ 2 45) s m args below meth c (MQ below (QiJ g sz r (put x k 7 S') mm) args s 0 0 (Ag sz)) 5 g sz (put x k 7 S) mm 31 [(0, .ref (ad g k)), (1, .int b1), (2, .int b2), (3, .int b3)] [] := by
    intro k4 hk4 k10 hk10 b1 b2 b3 S hf
    unfold X1_shake_L31 at hf
    refine j_iconst C dX1_shake_31 (v := 1) c_iconst_1 32 rfl ?_
    refine j_goto C dX1_shake_32 36 (by decide) ?_
    exact hL36 k4 hk4 k10 hk10 b1 b2 b3 1 S hf
  have hL10 : ∀ (k4 : Int32 → Int32 → St → Option (Int32 × St)) (_ : ∀ (b1 : Int32) (b2 : Int32) (S : St), k4 b1 b2 S = some (r, S') → Wj p l e (rmJ 2 45) s m args below meth c (MQ below (QiJ g sz r (put x k 7 S') mm) args s 0 0 (Ag sz)) 5 g sz (put x k 7 S) mm 4 [(0, .ref (ad g k)), (1, .int b1), (2, .int b2)] []), ∀ (n : Nat), ∀ (b1 : Int32) (b2 : Int32) (b3 : Int32) (S : St), X1_shake_L10 k4 n b1 b2 b3 S = some (r, S') → Wj p l e (rmJ 2 45) s m args below meth c (MQ below (QiJ g sz r (put x k 7 S') mm) args s 0 0 (Ag sz)) 5 g sz (put x k 7 S) mm 10 [(0, .ref (ad g k)), (1, .int b1), (2, .int b2), (3, .int b3)] [] := by
    intro k4 hk4 n
    induction n with
    | zero =>
      intro b1 b2 b3 S hf
      rw [X1_shake_L10] at hf
      cases hf
    | succ n ih =>
      intro b1 b2 b3 S hf
      rw [X1_shake_L10] at hf
      refine j_iload_n C dX1_shake_10 rfl 3 rfl 11 rfl ?_
      refine j_bipush C dX1_shake_11 (v := 42) c_bipush_42 13 rfl ?_
      refine j_icmp_ge C dX1_shake_13 75 (by decide) 16 rfl (fun c2 => ?_) (fun c2 => ?_)
      · rw [if_pos c2] at hf
        refine j_iinc (lv2 := [(2, .int (b2 + (-1))), (0, .ref (ad g k)), (1, .int b1), (3, .int b3)]) C dX1_shake_75 (k := 2) rfl (congrArg (HAdd.hAdd b2) c_oi_m1) (by decide) rfl 78 rfl ?_
        refine j_goto C dX1_shake_78 4 (by decide) ?_
        refine j_sub [1, 2, 0] rfl ?_
        exact hk4 b1 (b2 + (-1)) S hf
      · rw [if_neg c2] at hf
        refine j_iload_n C dX1_shake_16 rfl 2 rfl 17 rfl ?_
        refine j_iconst C dX1_shake_17 (v := 5) c_iconst_5 18 rfl ?_
        refine j_icmp_eq C dX1_shake_18 31 (by decide) 21 rfl (fun c3 => ?_) (fun c3 => ?_)
        · rw [if_pos c3] at hf
          exact hL31 k4 hk4 _ ih b1 b2 b3 S hf
        · rw [if_neg c3] at hf
          refine j_aload_n C dX1_shake_21 rfl 0 rfl 22 rfl ?_
          refine j_iload_n C dX1_shake_22 rfl 3 rfl 23 rfl ?_
          refine j_iconst C dX1_shake_23 (v := 1) c_iconst_1 24 rfl ?_
          refine j_iadd C dX1_shake_24 25 rfl ?_
          obtain ⟨r10, hr10, hf⟩ := bnd hf
          refine j_callVi (As := [.int (b3 + 1)]) (rest := []) C (c_X1_hasRoom l g sz x mm k hk (b3 + 1) S _ hr10) (j_cwV C qc_X1_hasRoom qm_X1_125 qi_X1_hasRoom qs_X1_hasRoom qn_X1 hd_X1_hasRoom ⟨rfl, rfl⟩ ⟨by decide, by decide⟩) ((rcv_sh hk).cell C.2) rfl (Nat.le_of_ble_eq_true rfl) dX1_shake_25 28 rfl ?_
          refine j_if_eq C dX1_shake_28 35 (by decide) 31 rfl (fun c11 => ?_) (fun c11 => ?_)
          · rw [if_pos c11] at hf
            refine j_iconst C dX1_shake_35 (v := 0) c_iconst_0 36 rfl ?_
            exact hL36 k4 hk4 _ ih b1 b2 b3 0 S hf
          · rw [if_neg c11] at hf
            exact hL31 k4 hk4 _ ih b1 b2 b3 S hf
  have hL4 : ∀ (n : Nat), ∀ (b1 : Int32) (b2 : Int32) (S : St), X1_shake_L4 n b1 b2 S = some (r, S') → Wj p l e (rmJ 2 45) s m args below meth c (MQ below (QiJ g sz r (put x k 7 S') mm) args s 0 0 (Ag sz)) 5 g sz (put x k 7 S) mm 4 [(0, .ref (ad g k)), (1, .int b1), (2, .int b2)] [] := by
    intro  n
    induction n with
    | zero =>
      intro b1 b2 S hf
      rw [X1_shake_L4] at hf
      cases hf
    | succ n ih =>
      intro b1 b2 S hf
      rw [X1_shake_L4] at hf
      refine j_iload_n C dX1_shake_4 rfl 2 rfl 5 rfl ?_
      refine j_if_lt C dX1_shake_5 81 (by decide) 8 rfl (fun c1 => ?_) (fun c1 => ?_)
      · rw [if_pos c1] at hf
        refine j_iload_n C dX1_shake_81 rfl 1 rfl 82 rfl ?_
        obtain ⟨rfl, rfl⟩ := Prod.mk.inj (Option.some.inj hf)
        exact j_iret C hr hlk dX1_shake_82
      · rw [if_neg c1] at hf
        refine j_iload_n C dX1_shake_8 rfl 2 rfl 9 rfl ?_
        refine j_istore_n (lv2 := [(3, .int b2), (0, .ref (ad g k)), (1, .int b1), (2, .int b2)]) C dX1_shake_9 rfl (by decide) rfl 10 rfl ?_
        refine j_sub [1, 2, 3, 0] rfl ?_
        exact hL10 _ ih FU b1 b2 b2 S hf
  unfold X1_shake at hf
  refine j_iconst C dX1_shake_0 (v := 0) c_iconst_0 1 rfl ?_
  refine j_istore_n (lv2 := [(1, .int 0), (0, .ref (ad g k))]) C dX1_shake_1 rfl (by decide) rfl 2 rfl ?_
  refine j_iconst C dX1_shake_2 (v := 5) c_iconst_5 3 rfl ?_
  refine j_istore_n (lv2 := [(2, .int 5), (1, .int 0), (0, .ref (ad g k))]) C dX1_shake_3 rfl (by decide) rfl 4 rfl ?_
  refine j_sub [2, 1, 0] rfl ?_
  exact hL4 FU 0 5 S hf
set_option maxRecDepth 100000 in
set_option maxHeartbeats 4000000 in
theorem c_X1_draw (l : Launch) (g : GG) (sz : Nat) (x mm : St) (k : Nat) (hk : isSh k = true) (S : St) (r : Int32) (S' : St) (hf : X1_draw S = some (r, S')) : Met l yX1_draw (.code yX1_draw cX1_draw 1 (some .int) :: ALLW) (rmJ 0 0) (PcJ g sz (put x k 7 S) mm [.ref (ad g k)]) (QiJ g sz r (put x k 7 S') mm) 0 0 (Ag sz) := by
  refine j_met (own := RX1) (by decide) rfl (Nat.le_of_ble_eq_true rfl) rfl ?_
  intro p e s m args below meth c C hr hlk
  unfold X1_draw at hf
  refine j_aload_n C dX1_draw_0 rfl 0 rfl 1 rfl ?_
  refine j_aload_n C dX1_draw_1 rfl 0 rfl 2 rfl ?_
  refine j1_get hk C 9 (by decide) qf_X1_40 (v := .int (S 0 9)) rfl dX1_draw_2 5 rfl ?_
  refine j_ldc C dX1_draw_5 qk_X1_128 7 rfl ?_
  refine j_imul C dX1_draw_7 8 rfl ?_
  refine j_sipush C dX1_draw_8 (v := 12345) c_sipush_12345 11 rfl ?_
  refine j_iadd C dX1_draw_11 12 rfl ?_
  obtain ⟨S1, hS1, hf⟩ := bnd hf
  refine j1_put hk C 9 (by decide) (by decide) rfl rfl qf_X1_40 dX1_draw_12 15 rfl ?_
  rw [Option.some.inj hS1]
  refine j_aload_n C dX1_draw_15 rfl 0 rfl 16 rfl ?_
  refine j1_get hk C 9 (by decide) qf_X1_40 (v := .int (S1 0 9)) rfl dX1_draw_16 19 rfl ?_
  refine j_bipush C dX1_draw_19 (v := 8) c_bipush_8 21 rfl ?_
  refine j_iushr C dX1_draw_21 22 rfl ?_
  obtain ⟨rfl, rfl⟩ := Prod.mk.inj (Option.some.inj hf)
  exact j_iret C hr hlk dX1_draw_22
