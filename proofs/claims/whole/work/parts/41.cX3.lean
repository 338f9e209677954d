set_option maxRecDepth 100000 in
set_option maxHeartbeats 4000000 in
theorem c_X0_renew (l : Launch) (g : GG) (sz : Nat) (x mm : St) (k : Nat) (hk : isSt k = true) (a1 : Int32) (a2 : Int32) (S : St) (S' : St) (hf : X0_renew a1 a2 S = some S') : Met l yX0_renew (.code yX0_renew cX0_renew 4 none :: ALLW) (rmJ 0 0) (PcJ g sz (put x k 2 S) mm [.ref (ad g k), .int a1, .int a2]) (QvJ g sz (put x k 2 S') mm) 0 0 (Ag sz) := by
  refine j_met (own := RX0) (by decide) rfl (Nat.le_of_ble_eq_true rfl) rfl ?_
  intro p e s m args below meth c C hr hlk
  have hL12 : ∀ (n : Nat), ∀ (b3 : Int32) (S : St), X0_renew_L12 n b3 S = some S' → Wj p l e (rmJ 0 0) s m args below meth c (MQ below (QvJ g sz (put x k 2 S') mm) args s 0 0 (Ag sz)) 4 g sz (put x k 2 S) mm 12 [(0, .ref (ad g k)), (3, .int b3)] [] := by
    intro  n
    induction n with
    | zero =>
      intro b3 S hf
      rw [X0_renew_L12] at hf
      cases hf
    | succ n ih =>
      intro b3 S hf
      rw [X0_renew_L12] at hf
      refine j_iload_n C dX0_renew_12 rfl 1 rfl 13 rfl ?_
      refine j_bipush C dX0_renew_13 (v := 40) c_bipush_40 15 rfl ?_
      refine j_icmp_ge C dX0_renew_15 31 (by decide) 18 rfl (fun c3 => ?_) (fun c3 => ?_)
      · rw [if_pos c3] at hf
        obtain rfl := Option.some.inj hf
        exact j_vret C hr hlk dX0_renew_31
      · rw [if_neg c3] at hf
        refine j_aload_n C dX0_renew_18 rfl 0 rfl 19 rfl ?_
        refine j0_get hk C 0 (by decide) qf_X0_9 (v := .ref (ad g (k + 1))) rfl dX0_renew_19 22 rfl ?_
        refine j_iload_n C dX0_renew_22 rfl 1 rfl 23 rfl ?_
        refine j_iconst C dX0_renew_23 (v := 0) c_iconst_0 24 rfl ?_
        obtain ⟨S4, hS4, hf⟩ := bnd hf
        refine j0_ast hk C hS4 dX0_renew_24 25 rfl ?_
        refine j_iinc (lv2 := [(3, .int (b3 + 1)), (0, .ref (ad g k))]) C dX0_renew_25 (k := 1) rfl (congrArg (HAdd.hAdd b3) c_oi_1) (by decide) rfl 28 rfl ?_
        refine j_goto C dX0_renew_28 12 (by decide) ?_
        refine j_sub [1, 0] rfl ?_
        exact ih (b3 + 1) S4 hf
  unfold X0_renew at hf
  refine j_aload_n C dX0_renew_0 rfl 0 rfl 1 rfl ?_
  refine j_iload_n C dX0_renew_1 rfl 1 rfl 2 rfl ?_
  obtain ⟨S1, hS1, hf⟩ := bnd hf
  refine j0_put hk C 1 (by decide) (by decide) rfl rfl qf_X0_15 dX0_renew_2 5 rfl ?_
  rw [Option.some.inj hS1]
  refine j_aload_n C dX0_renew_5 rfl 0 rfl 6 rfl ?_
  refine j_iload_n C dX0_renew_6 rfl 2 rfl 7 rfl ?_
  obtain ⟨S2, hS2, hf⟩ := bnd hf
  refine j0_put hk C 2 (by decide) (by decide) rfl rfl qf_X0_19 dX0_renew_7 10 rfl ?_
  rw [Option.some.inj hS2]
  refine j_iconst C dX0_renew_10 (v := 0) c_iconst_0 11 rfl ?_
  refine j_istore_n (lv2 := [(3, .int 0), (0, .ref (ad g k)), (1, .int a1), (2, .int a2)]) C dX0_renew_11 rfl (by decide) rfl 12 rfl ?_
  refine j_sub [1, 0] rfl ?_
  exact hL12 FU 0 S2 hf
set_option maxRecDepth 100000 in
set_option maxHeartbeats 4000000 in
theorem c_X0_put (l : Launch) (g : GG) (sz : Nat) (x mm : St) (k : Nat) (hk : isSt k = true) (a1 : Int32) (a2 : Int32) (S : St) (S' : St) (hf : X0_put a1 a2 S = some S') : Met l yX0_put (.code yX0_put cX0_put 3 none :: ALLW) (rmJ 0 0) (PcJ g sz (put x k 2 S) mm [.ref (ad g k), .int a1, .int a2]) (QvJ g sz (put x k 2 S') mm) 0 0 (Ag sz) := by
  refine j_met (own := RX0) (by decide) rfl (Nat.le_of_ble_eq_true rfl) rfl ?_
  intro p e s m args below meth c C hr hlk
  unfold X0_put at hf
  refine j_aload_n C dX0_put_0 rfl 0 rfl 1 rfl ?_
  refine j0_get hk C 1 (by decide) qf_X0_15 (v := .int (S 0 1)) rfl dX0_put_1 4 rfl ?_
  refine j_bipush C dX0_put_4 (v := 8) c_bipush_8 6 rfl ?_
  refine j_icmp_ne C dX0_put_6 20 (by decide) 9 rfl (fun c1 => ?_) (fun c1 => ?_)
  · rw [if_neg c1] at hf
    refine j_aload_n C dX0_put_20 rfl 0 rfl 21 rfl ?_
    refine j0_get hk C 1 (by decide) qf_X0_15 (v := .int (S 0 1)) rfl dX0_put_21 24 rfl ?_
    refine j_bipush C dX0_put_24 (v := 16) c_bipush_16 26 rfl ?_
    refine j_icmp_ne C dX0_put_26 40 (by decide) 29 rfl (fun c2 => ?_) (fun c2 => ?_)
    · rw [if_neg c2] at hf
      refine j_aload_n C dX0_put_40 rfl 0 rfl 41 rfl ?_
      refine j0_get hk C 0 (by decide) qf_X0_9 (v := .ref (ad g (k + 1))) rfl dX0_put_41 44 rfl ?_
      refine j_iload_n C dX0_put_44 rfl 1 rfl 45 rfl ?_
      refine j_iload_n C dX0_put_45 rfl 2 rfl 46 rfl ?_
      obtain ⟨S3, hS3, hf⟩ := bnd hf
      refine j0_ast hk C hS3 dX0_put_46 47 rfl ?_
      obtain rfl := Option.some.inj hf
      exact j_vret C hr hlk dX0_put_47
    · rw [if_pos c2] at hf
      refine j_aload_n C dX0_put_29 rfl 0 rfl 30 rfl ?_
      refine j0_get hk C 0 (by decide) qf_X0_9 (v := .ref (ad g (k + 1))) rfl dX0_put_30 33 rfl ?_
      refine j_iload_n C dX0_put_33 rfl 1 rfl 34 rfl ?_
      refine j_iload_n C dX0_put_34 rfl 2 rfl 35 rfl ?_
      refine j_i2s C dX0_put_35 36 rfl ?_
      obtain ⟨S4, hS4, hf⟩ := bnd hf
      refine j0_ast hk C hS4 dX0_put_36 37 rfl ?_
      refine j_goto C dX0_put_37 47 (by decide) ?_
      obtain rfl := Option.some.inj hf
      exact j_vret C hr hlk dX0_put_47
  · rw [if_pos c1] at hf
    refine j_aload_n C dX0_put_9 rfl 0 rfl 10 rfl ?_
    refine j0_get hk C 0 (by decide) qf_X0_9 (v := .ref (ad g (k + 1))) rfl dX0_put_10 13 rfl ?_
    refine j_iload_n C dX0_put_13 rfl 1 rfl 14 rfl ?_
    refine j_iload_n C dX0_put_14 rfl 2 rfl 15 rfl ?_
    refine j_i2b C dX0_put_15 16 rfl ?_
    obtain ⟨S5, hS5, hf⟩ := bnd hf
    refine j0_ast hk C hS5 dX0_put_16 17 rfl ?_
    refine j_goto C dX0_put_17 47 (by decide) ?_
    obtain rfl := Option.some.inj hf
    exact j_vret C hr hlk dX0_put_47
set_option maxRecDepth 100000 in
set_option maxHeartbeats 4000000 in
theorem c_X0_hasFrom (l : Launch) (g : GG) (sz : Nat) (x mm : St) (k : Nat) (hk : isSt k = true) (a1 : Int32) (a2 : Int32) (S : St) (r : Int32) (hf : X0_hasFrom a1 a2 S = r) : Met l yX0_hasFrom (.code yX0_hasFrom cX0_hasFrom 3 (some .boolean) :: ALLW) (rmJ 0 0) (PcJ g sz (put x k 2 S) mm [.ref (ad g k), .int a1, .int a2]) (QiJ g sz r (put x k 2 S) mm) 0 0 (Ag sz) := by
  refine j_met (own := RX0) (by decide) rfl (Nat.le_of_ble_eq_true rfl) rfl ?_
  intro p e s m args below meth c C hr hlk
  unfold X0_hasFrom at hf
  refine j_iload_n C dX0_hasFrom_0 rfl 1 rfl 1 rfl ?_
  refine j_if_lt C dX0_hasFrom_1 18 (by decide) 4 rfl (fun c1 => ?_) (fun c1 => ?_)
  · rw [if_pos c1] at hf
    refine j_iconst C dX0_hasFrom_18 (v := 0) c_iconst_0 19 rfl ?_
    subst hf
    exact j_zret C hr hlk (Or.inl rfl) dX0_hasFrom_19
  · rw [if_neg c1] at hf
    refine j_iload_n C dX0_hasFrom_4 rfl 1 rfl 5 rfl ?_
    refine j_aload_n C dX0_hasFrom_5 rfl 0 rfl 6 rfl ?_
    refine j0_get hk C 2 (by decide) qf_X0_19 (v := .int (S 0 2)) rfl dX0_hasFrom_6 9 rfl ?_
    refine j_iload_n C dX0_hasFrom_9 rfl 2 rfl 10 rfl ?_
    refine j_isub C dX0_hasFrom_10 11 rfl ?_
    refine j_icmp_gt C dX0_hasFrom_11 18 (by decide) 14 rfl (fun c2 => ?_) (fun c2 => ?_)
    · rw [if_pos c2] at hf
      refine j_iconst C dX0_hasFrom_18 (v := 0) c_iconst_0 19 rfl ?_
      subst hf
      exact j_zret C hr hlk (Or.inl rfl) dX0_hasFrom_19
    · rw [if_neg c2] at hf
      refine j_iconst C dX0_hasFrom_14 (v := 1) c_iconst_1 15 rfl ?_
      refine j_goto C dX0_hasFrom_15 19 (by decide) ?_
      subst hf
      exact j_zret C hr hlk (Or.inr rfl) dX0_hasFrom_19
set_option maxRecDepth 100000 in
set_option maxHeartbeats 4000000 in
theorem c_X2_append (l : Launch) (g : GG) (sz : Nat) (x mm : St) (a1 : Int32) (S : St) (S' : St) (hf : X2_append a1 S = some S') : Met l yX2_append (.code yX2_append cX2_append 2 none :: ALLW) (rmJ 0 0) (PcJ g sz (put x 23 2 S) mm [.ref (ad g 23), .int a1]) (QvJ g sz (put x 23 2 S') mm) 0 0 (Ag sz) := by
  refine j_met (own := RX2) (by decide) rfl (Nat.le_of_ble_eq_true rfl) rfl ?_
  intro p e s m args below meth c C hr hlk
  unfold X2_append at hf
  refine j_aload_n C dX2_append_0 rfl 0 rfl 1 rfl ?_
  refine j2_get C 1 (by decide) qf_X2_15 (v := .int (S 0 1)) rfl dX2_append_1 4 rfl ?_
  refine j_bipush C dX2_append_4 (v := 120) c_bipush_120 6 rfl ?_
  refine j_icmp_ge C dX2_append_6 29 (by decide) 9 rfl (fun c1 => ?_) (fun c1 => ?_)
  · rw [if_pos c1] at hf
    obtain rfl := Option.some.inj hf
    exact j_vret C hr hlk dX2_append_29
  · rw [if_neg c1] at hf
    refine j_aload_n C dX2_append_9 rfl 0 rfl 10 rfl ?_
    refine j2_get C 0 (by decide) qf_X2_9 (v := .ref (ad g 24)) rfl dX2_append_10 13 rfl ?_
    refine j_aload_n C dX2_append_13 rfl 0 rfl 14 rfl ?_
    refine j2_get C 1 (by decide) qf_X2_15 (v := .int (S 0 1)) rfl dX2_append_14 17 rfl ?_
    refine j_iload_n C dX2_append_17 rfl 1 rfl 18 rfl ?_
    obtain ⟨S2, hS2, hf⟩ := bnd hf
    refine j2_ast C hS2 dX2_append_18 19 rfl ?_
    refine j_aload_n C dX2_append_19 rfl 0 rfl 20 rfl ?_
    refine j_dup C dX2_append_20 rfl 21 rfl ?_
    refine j2_get C 1 (by decide) qf_X2_15 (v := .int (S2 0 1)) rfl dX2_append_21 24 rfl ?_
    refine j_iconst C dX2_append_24 (v := 1) c_iconst_1 25 rfl ?_
    refine j_iadd C dX2_append_25 26 rfl ?_
    obtain ⟨S3, hS3, hf⟩ := bnd hf
    refine j2_put C 1 (by decide) (by decide) rfl rfl qf_X2_15 dX2_append_26 29 rfl ?_
    rw [Option.some.inj hS3]
    obtain rfl := Option.some.inj hf
    exact j_vret C hr hlk dX2_append_29
set_option maxRecDepth 100000 in
set_option maxHeartbeats 4000000 in
theorem c_X2_rewind (l : Launch) (g : GG) (sz : Nat) (x mm : St) (S : St) (S' : St) (hf : X2_rewind S = some S') : Met l yX2_rewind (.code yX2_rewind cX2_rewind 1 none :: ALLW) (rmJ 0 0) (PcJ g sz (put x 23 2 S) mm [.ref (ad g 23)]) (QvJ g sz (put x 23 2 S') mm) 0 0 (Ag sz) := by
  refine j_met (own := RX2) (by decide) rfl (Nat.le_of_ble_eq_true rfl) rfl ?_
  intro p e s m args below meth c C hr hlk
  unfold X2_rewind at hf
  refine j_aload_n C dX2_rewind_0 rfl 0 rfl 1 rfl ?_
  refine j_iconst C dX2_rewind_1 (v := 0) c_iconst_0 2 rfl ?_
  obtain ⟨S1, hS1, hf⟩ := bnd hf
  refine j2_put C 4 (by decide) (by decide) rfl rfl qf_X2_25 dX2_rewind_2 5 rfl ?_
  rw [Option.some.inj hS1]
  obtain rfl := Option.some.inj hf
  exact j_vret C hr hlk dX2_rewind_5
set_option maxRecDepth 100000 in
set_option maxHeartbeats 4000000 in
theorem c_X2_isLetter (l : Launch) (g : GG) (sz : Nat) (x mm : St) (a0 : Int32) (r : Int32) (hf : X2_isLetter a0 = r) : Met l yX2_isLetter (.code yX2_isLetter cX2_isLetter 1 (some .boolean) :: ALLW) (rmJ 0 0) (PcJ g sz x mm [.int a0]) (QiJ g sz r x mm) 0 0 (Ag sz) := by
  refine j_met (own := RX2) (by decide) rfl (Nat.le_of_ble_eq_true rfl) rfl ?_
  intro p e s m args below meth c C hr hlk
  unfold X2_isLetter at hf
  refine j_iload_n C dX2_isLetter_0 rfl 0 rfl 1 rfl ?_
  refine j_bipush C dX2_isLetter_1 (v := 97) c_bipush_97 3 rfl ?_
  refine j_icmp_lt C dX2_isLetter_3 16 (by decide) 6 rfl (fun c1 => ?_) (fun c1 => ?_)
  · rw [if_pos c1] at hf
    refine j_iconst C dX2_isLetter_16 (v := 0) c_iconst_0 17 rfl ?_
    subst hf
    exact j_zret C hr hlk (Or.inl rfl) dX2_isLetter_17
  · rw [if_neg c1] at hf
    refine j_iload_n C dX2_isLetter_6 rfl 0 rfl 7 rfl ?_
    refine j_bipush C dX2_isLetter_7 (v := 122) c_bipush_122 9 rfl ?_
    refine j_icmp_gt C dX2_isLetter_9 16 (by decide) 12 rfl (fun c2 => ?_) (fun c2 => ?_)
    · rw [if_pos c2] at hf
      refine j_iconst C dX2_isLetter_16 (v := 0) c_iconst_0 17 rfl ?_
      subst hf
      exact j_zret C hr hlk (Or.inl rfl) dX2_isLetter_17
    · rw [if_neg c2] at hf
      refine j_iconst C dX2_isLetter_12 (v := 1) c_iconst_1 13 rfl ?_
      refine j_goto C dX2_isLetter_13 17 (by decide) ?_
      subst hf
      exact j_zret C hr hlk (Or.inr rfl) dX2_isLetter_17
set_option maxRecDepth 100000 in
set_option maxHeartbeats 4000000 in
theorem c_X2_isDigit (l : Launch) (g : GG) (sz : Nat) (x mm : St) (a0 : Int32) (r : Int32) (hf : X2_isDigit a0 = r) : Met l yX2_isDigit (.code yX2_isDigit cX2_isDigit 1 (some .boolean) :: ALLW) (rmJ 0 0) (PcJ g sz x mm [.int a0]) (QiJ g sz r x mm) 0 0 (Ag sz) := by
  refine j_met (own := RX2) (by decide) rfl (Nat.le_of_ble_eq_true rfl) rfl ?_
  intro p e s m args below meth c C hr hlk
  unfold X2_isDigit at hf
  refine j_iload_n C dX2_isDigit_0 rfl 0 rfl 1 rfl ?_
  refine j_bipush C dX2_isDigit_1 (v := 48) c_bipush_48 3 rfl ?_
  refine j_icmp_lt C dX2_isDigit_3 16 (by decide) 6 rfl (fun c1 => ?_) (fun c1 => ?_)
  · rw [if_pos c1] at hf
    refine j_iconst C dX2_isDigit_16 (v := 0) c_iconst_0 17 rfl ?_
    subst hf
    exact j_zret C hr hlk (Or.inl rfl) dX2_isDigit_17
  · rw [if_neg c1] at hf
    refine j_iload_n C dX2_isDigit_6 rfl 0 rfl 7 rfl ?_
    refine j_bipush C dX2_isDigit_7 (v := 57) c_bipush_57 9 rfl ?_
    refine j_icmp_gt C dX2_isDigit_9 16 (by decide) 12 rfl (fun c2 => ?_) (fun c2 => ?_)
    · rw [if_pos c2] at hf
      refine j_iconst C dX2_isDigit_16 (v := 0) c_iconst_0 17 rfl ?_
      subst hf
      exact j_zret C hr hlk (Or.inl rfl) dX2_isDigit_17
    · rw [if_neg c2] at hf
      refine j_iconst C dX2_isDigit_12 (v := 1) c_iconst_1 13 rfl ?_
      refine j_goto C dX2_isDigit_13 17 (by decide) ?_
      subst hf
      exact j_zret C hr hlk (Or.inr rfl) dX2_isDigit_17
set_option maxRecDepth 100000 in
set_option maxHeartbeats 4000000 in
theorem c_X2_readWord (l : Launch) (g : GG) (sz : Nat) (x mm : St) (S : St) (S' : St) (hf : X2_readWord S = some S') : Met l yX2_readWord (.code yX2_readWord cX2_readWord 1 none :: ALLW) (rmJ 1 20) (PcJ g sz (put x 23 2 S) mm [.ref (ad g 23)]) (QvJ g sz (put x 23 2 S') mm) 0 0 (Ag sz) := by
  refine j_met (own := RX2) (by decide) rfl (Nat.le_of_ble_eq_true rfl) rfl ?_
  intro p e s m args below meth c C hr hlk
  have hL5 : ∀ (n : Nat), ∀ (S : St), X2_readWord_L5 n S = some S' → Wj p l e (rmJ 1 20) s m args below meth c (MQ below (QvJ g sz (put x 23 2 S') mm) args s 0 0 (Ag sz)) 1 g sz (put x 23 2 S) mm 5 [(0, .ref (ad g 23))] [] := by
    intro  n
    induction n with
    | zero =>
      intro S hf
      rw [X2_readWord_L5] at hf
      cases hf
    | succ n ih =>
      intro S hf
      rw [X2_readWord_L5] at hf
      refine j_aload_n C dX2_readWord_5 rfl 0 rfl 6 rfl ?_
      refine j2_get C 4 (by decide) qf_X2_25 (v := .int (S 0 4)) rfl dX2_readWord_6 9 rfl ?_
      refine j_aload_n C dX2_readWord_9 rfl 0 rfl 10 rfl ?_
      refine j2_get C 1 (by decide) qf_X2_15 (v := .int (S 0 1)) rfl dX2_readWord_10 13 rfl ?_
      refine j_icmp_ge C dX2_readWord_13 44 (by decide) 16 rfl (fun c2 => ?_) (fun c2 => ?_)
      · rw [if_pos c2] at hf
        obtain rfl := Option.some.inj hf
        exact j_vret C hr hlk dX2_readWord_44
      · rw [if_neg c2] at hf
        refine j_aload_n C dX2_readWord_16 rfl 0 rfl 17 rfl ?_
        refine j2_get C 0 (by decide) qf_X2_9 (v := .ref (ad g 24)) rfl dX2_readWord_17 20 rfl ?_
        refine j_aload_n C dX2_readWord_20 rfl 0 rfl 21 rfl ?_
        refine j2_get C 4 (by decide) qf_X2_25 (v := .int (S 0 4)) rfl dX2_readWord_21 24 rfl ?_
        obtain ⟨v3, hv3, hf⟩ := bnd hf
        refine j2_ald C hv3 dX2_readWord_24 25 rfl ?_
        refine j_callSi (As := [.int v3]) (rest := []) C (c_X2_isLetter l g sz (put x 23 2 S) mm v3 _ rfl) (j_cwS C qc_X2_isLetter qm_X2_31 qs_X2_isLetter qn_X2 hd_X2_isLetter ⟨rfl, rfl⟩ ⟨by decide, by decide⟩)  rfl (Nat.le_of_ble_eq_true rfl) dX2_readWord_25 28 rfl ?_
        refine j_if_eq C dX2_readWord_28 44 (by decide) 31 rfl (fun c4 => ?_) (fun c4 => ?_)
        · rw [if_pos c4] at hf
          obtain rfl := Option.some.inj hf
          exact j_vret C hr hlk dX2_readWord_44
        · rw [if_neg c4] at hf
          refine j_aload_n C dX2_readWord_31 rfl 0 rfl 32 rfl ?_
          refine j_dup C dX2_readWord_32 rfl 33 rfl ?_
          refine j2_get C 4 (by decide) qf_X2_25 (v := .int (S 0 4)) rfl dX2_readWord_33 36 rfl ?_
          refine j_iconst C dX2_readWord_36 (v := 1) c_iconst_1 37 rfl ?_
          refine j_iadd C dX2_readWord_37 38 rfl ?_
          obtain ⟨S5, hS5, hf⟩ := bnd hf
          refine j2_put C 4 (by decide) (by decide) rfl rfl qf_X2_25 dX2_readWord_38 41 rfl ?_
          rw [Option.some.inj hS5]
          refine j_goto C dX2_readWord_41 5 (by decide) ?_
          exact ih S5 hf
  unfold X2_readWord at hf
  refine j_aload_n C dX2_readWord_0 rfl 0 rfl 1 rfl ?_
  refine j_iconst C dX2_readWord_1 (v := 1) c_iconst_1 2 rfl ?_
  obtain ⟨S1, hS1, hf⟩ := bnd hf
  refine j2_put C 2 (by decide) (by decide) rfl rfl qf_X2_19 dX2_readWord_2 5 rfl ?_
  rw [Option.some.inj hS1]
  exact hL5 FU S1 hf
set_option maxRecDepth 100000 in
set_option maxHeartbeats 4000000 in
theorem c_X2_readNumber (l : Launch) (g : GG) (sz : Nat) (x mm : St) (S : St) (S' : St) (hf : X2_readNumber S = some S') : Met l yX2_readNumber (.code yX2_readNumber cX2_readNumber 1 none :: ALLW) (rmJ 1 21) (PcJ g sz (put x 23 2 S) mm [.ref (ad g 23)]) (QvJ g sz (put x 23 2 S') mm) 0 0 (Ag sz) := by
  refine j_met (own := RX2) (by decide) rfl (Nat.le_of_ble_eq_true rfl) rfl ?_
  intro p e s m args below meth c C hr hlk
  have hL10 : ∀ (n : Nat), ∀ (S : St), X2_readNumber_L10 n S = some S' → Wj p l e (rmJ 1 21) s m args below meth c (MQ below (QvJ g sz (put x 23 2 S') mm) args s 0 0 (Ag sz)) 1 g sz (put x 23 2 S) mm 10 [(0, .ref (ad g 23))] [] := by
    intro  n
    induction n with
    | zero =>
      intro S hf
      rw [X2_readNumber_L10] at hf
      cases hf
    | succ n ih =>
      intro S hf
      rw [X2_readNumber_L10] at hf
      refine j_aload_n C dX2_readNumber_10 rfl 0 rfl 11 rfl ?_
      refine j2_get C 4 (by decide) qf_X2_25 (v := .int (S 0 4)) rfl dX2_readNumber_11 14 rfl ?_
      refine j_aload_n C dX2_readNumber_14 rfl 0 rfl 15 rfl ?_
      refine j2_get C 1 (by decide) qf_X2_15 (v := .int (S 0 1)) rfl dX2_readNumber_15 18 rfl ?_
      refine j_icmp_ge C dX2_readNumber_18 79 (by decide) 21 rfl (fun c3 => ?_) (fun c3 => ?_)
      · rw [if_pos c3] at hf
        obtain rfl := Option.some.inj hf
        exact j_vret C hr hlk dX2_readNumber_79
      · rw [if_neg c3] at hf
        refine j_aload_n C dX2_readNumber_21 rfl 0 rfl 22 rfl ?_
        refine j2_get C 0 (by decide) qf_X2_9 (v := .ref (ad g 24)) rfl dX2_readNumber_22 25 rfl ?_
        refine j_aload_n C dX2_readNumber_25 rfl 0 rfl 26 rfl ?_
        refine j2_get C 4 (by decide) qf_X2_25 (v := .int (S 0 4)) rfl dX2_readNumber_26 29 rfl ?_
        obtain ⟨v4, hv4, hf⟩ := bnd hf
        refine j2_ald C hv4 dX2_readNumber_29 30 rfl ?_
        refine j_callSi (As := [.int v4]) (rest := []) C (c_X2_isDigit l g sz (put x 23 2 S) mm v4 _ rfl) (j_cwS C qc_X2_isDigit qm_X2_38 qs_X2_isDigit qn_X2 hd_X2_isDigit ⟨rfl, rfl⟩ ⟨by decide, by decide⟩)  rfl (Nat.le_of_ble_eq_true rfl) dX2_readNumber_30 33 rfl ?_
        refine j_if_eq C dX2_readNumber_33 79 (by decide) 36 rfl (fun c5 => ?_) (fun c5 => ?_)
        · rw [if_pos c5] at hf
          obtain rfl := Option.some.inj hf
          exact j_vret C hr hlk dX2_readNumber_79
        · rw [if_neg c5] at hf
          refine j_aload_n C dX2_readNumber_36 rfl 0 rfl 37 rfl ?_
          refine j_aload_n C dX2_readNumber_37 rfl 0 rfl 38 rfl ?_
          refine j2_get C 5 (by decide) qf_X2_28 (v := .int (S 0 5)) rfl dX2_readNumber_38 41 rfl ?_
          refine j_bipush C dX2_readNumber_41 (v := 10) c_bipush_10 43 rfl ?_
          refine j_imul C dX2_readNumber_43 44 rfl ?_
          refine j_aload_n C dX2_readNumber_44 rfl 0 rfl 45 rfl ?_
          refine j2_get C 0 (by decide) qf_X2_9 (v := .ref (ad g 24)) rfl dX2_readNumber_45 48 rfl ?_
          refine j_aload_n C dX2_readNumber_48 rfl 0 rfl 49 rfl ?_
          refine j2_get C 4 (by decide) qf_X2_25 (v := .int (S 0 4)) rfl dX2_readNumber_49 52 rfl ?_
          obtain ⟨v6, hv6, hf⟩ := bnd hf
          refine j2_ald C hv6 dX2_readNumber_52 53 rfl ?_
          refine j_iadd C dX2_readNumber_53 54 rfl ?_
          refine j_bipush C dX2_readNumber_54 (v := 48) c_bipush_48 56 rfl ?_
          refine j_isub C dX2_readNumber_56 57 rfl ?_
          refine j_sipush C dX2_readNumber_57 (v := 10000) c_sipush_10000 60 rfl ?_
          refine j_mmin C qm_X2_44 dX2_readNumber_60 (Nat.le_of_ble_eq_true rfl) (Nat.le_of_ble_eq_true rfl) 63 rfl ?_
          obtain ⟨S7, hS7, hf⟩ := bnd hf
          refine j2_put C 5 (by decide) (by decide) rfl rfl qf_X2_28 dX2_readNumber_63 66 rfl ?_
          rw [Option.some.inj hS7]
          refine j_aload_n C dX2_readNumber_66 rfl 0 rfl 67 rfl ?_
          refine j_dup C dX2_readNumber_67 rfl 68 rfl ?_
          refine j2_get C 4 (by decide) qf_X2_25 (v := .int (S7 0 4)) rfl dX2_readNumber_68 71 rfl ?_
          refine j_iconst C dX2_readNumber_71 (v := 1) c_iconst_1 72 rfl ?_
          refine j_iadd C dX2_readNumber_72 73 rfl ?_
          obtain ⟨S8, hS8, hf⟩ := bnd hf
          refine j2_put C 4 (by decide) (by decide) rfl rfl qf_X2_25 dX2_readNumber_73 76 rfl ?_
          rw [Option.some.inj hS8]
          refine j_goto C dX2_readNumber_76 10 (by decide) ?_
          exact ih S8 hf
  unfold X2_readNumber at hf
  refine j_aload_n C dX2_readNumber_0 rfl 0 rfl 1 rfl ?_
  refine j_iconst C dX2_readNumber_1 (v := 2) c_iconst_2 2 rfl ?_
  obtain ⟨S1, hS1, hf⟩ := bnd hf
  refine j2_put C 2 (by decide) (by decide) rfl rfl qf_X2_19 dX2_readNumber_2 5 rfl ?_
  rw [Option.some.inj hS1]
  refine j_aload_n C dX2_readNumber_5 rfl 0 rfl 6 rfl ?_
  refine j_iconst C dX2_readNumber_6 (v := 0) c_iconst_0 7 rfl ?_
  obtain ⟨S2, hS2, hf⟩ := bnd hf
  refine j2_put C 5 (by decide) (by decide) rfl rfl qf_X2_28 dX2_readNumber_7 10 rfl ?_
  rw [Option.some.inj hS2]
  exact hL10 FU S2 hf
set_option maxRecDepth 100000 in
set_option maxHeartbeats 4000000 in
theorem c_X2_next (l : Launch) (g : GG) (sz : Nat) (x mm : St) (S : St) (S' : St) (hf : X2_next S = some S') : Met l yX2_next (.code yX2_next cX2_next 1 none :: ALLW) (rmJ 2 41) (PcJ g sz (put x 23 2 S) mm [.ref (ad g 23)]) (QvJ g sz (put x 23 2 S') mm) 0 0 (Ag sz) := by
  refine j_met (own := RX2) (by decide) rfl (Nat.le_of_ble_eq_true rfl) rfl ?_
  intro p e s m args below meth c C hr hlk
  have hL38 : ∀ (S : St), X2_next_L38 S = some S' → Wj p l e (rmJ 2 41) s m args below meth c (MQ below (QvJ g sz (put x 23 2 S') mm) args s 0 0 (Ag sz)) 1 g sz (put x 23 2 S) mm 38 [(0, .ref (ad g 23))] [] := by
    intro  S hf
    unfold X2_next_L38 at hf
    refine j_aload_n C dX2_next_38 rfl 0 rfl 39 rfl ?_
    refine j_aload_n C dX2_next_39 rfl 0 rfl 40 rfl ?_
    refine j2_get C 4 (by decide) qf_X2_25 (v := .int (S 0 4)) rfl dX2_next_40 43 rfl ?_
    obtain ⟨S2, hS2, hf⟩ := bnd hf
    refine j2_put C 3 (by decide) (by decide) rfl rfl qf_X2_22 dX2_next_43 46 rfl ?_
    rw [Option.some.inj hS2]
    refine j_aload_n C dX2_next_46 rfl 0 rfl 47 rfl ?_
    refine j2_get C 3 (by decide) qf_X2_22 (v := .int (S2 0 3)) rfl dX2_next_47 50 rfl ?_
    refine j_aload_n C dX2_next_50 rfl 0 rfl 51 rfl ?_
    refine j2_get C 1 (by decide) qf_X2_15 (v := .int (S2 0 1)) rfl dX2_next_51 54 rfl ?_
    refine j_icmp_lt C dX2_next_54 65 (by decide) 57 rfl (fun c3 => ?_) (fun c3 => ?_)
    · rw [if_pos c3] at hf
      refine j_aload_n C dX2_next_65 rfl 0 rfl 66 rfl ?_
      refine j2_get C 0 (by decide) qf_X2_9 (v := .ref (ad g 24)) rfl dX2_next_66 69 rfl ?_
      refine j_aload_n C dX2_next_69 rfl 0 rfl 70 rfl ?_
      refine j2_get C 3 (by decide) qf_X2_22 (v := .int (S2 0 3)) rfl dX2_next_70 73 rfl ?_
      obtain ⟨v4, hv4, hf⟩ := bnd hf
      refine j2_ald C hv4 dX2_next_73 74 rfl ?_
      refine j_callSi (As := [.int v4]) (rest := []) C (c_X2_isLetter l g sz (put x 23 2 S2) mm v4 _ rfl) (j_cwS C qc_X2_isLetter qm_X2_31 qs_X2_isLetter qn_X2 hd_X2_isLetter ⟨rfl, rfl⟩ ⟨by decide, by decide⟩)  rfl (Nat.le_of_ble_eq_true rfl) dX2_next_74 77 rfl ?_
      refine j_if_eq C dX2_next_77 87 (by decide) 80 rfl (fun c5 => ?_) (fun c5 => ?_)
      · rw [if_pos c5] at hf
        refine j_aload_n C dX2_next_87 rfl 0 rfl 88 rfl ?_
        refine j2_get C 0 (by decide) qf_X2_9 (v := .ref (ad g 24)) rfl dX2_next_88 91 rfl ?_
        refine j_aload_n C dX2_next_91 rfl 0 rfl 92 rfl ?_
        refine j2_get C 3 (by decide) qf_X2_22 (v := .int (S2 0 3)) rfl dX2_next_92 95 rfl ?_
        obtain ⟨v6, hv6, hf⟩ := bnd hf
        refine j2_ald C hv6 dX2_next_95 96 rfl ?_
        refine j_callSi (As := [.int v6]) (rest := []) C (c_X2_isDigit l g sz (put x 23 2 S2) mm v6 _ rfl) (j_cwS C qc_X2_isDigit qm_X2_38 qs_X2_isDigit qn_X2 hd_X2_isDigit ⟨rfl, rfl⟩ ⟨by decide, by decide⟩)  rfl (Nat.le_of_ble_eq_true rfl) dX2_next_96 99 rfl ?_
        refine j_if_eq C dX2_next_99 109 (by decide) 102 rfl (fun c7 => ?_) (fun c7 => ?_)
        · rw [if_pos c7] at hf
          refine j_aload_n C dX2_next_109 rfl 0 rfl 110 rfl ?_
          refine j_aload_n C dX2_next_110 rfl 0 rfl 111 rfl ?_
          refine j2_get C 0 (by decide) qf_X2_9 (v := .ref (ad g 24)) rfl dX2_next_111 114 rfl ?_
          refine j_aload_n C dX2_next_114 rfl 0 rfl 115 rfl ?_
          refine j2_get C 3 (by decide) qf_X2_22 (v := .int (S2 0 3)) rfl dX2_next_115 118 rfl ?_
          obtain ⟨v8, hv8, hf⟩ := bnd hf
          refine j2_ald C hv8 dX2_next_118 119 rfl ?_
          refine j_bipush C dX2_next_119 (v := 59) c_bipush_59 121 rfl ?_
          refine j_icmp_ne C dX2_next_121 128 (by decide) 124 rfl (fun c9 => ?_) (fun c9 => ?_)
          · rw [if_neg c9] at hf
            refine j_iconst C dX2_next_128 (v := 4) c_iconst_4 129 rfl ?_
            obtain ⟨S10, hS10, hf⟩ := bnd hf
            refine j2_put C 2 (by decide) (by decide) rfl rfl qf_X2_19 dX2_next_129 132 rfl ?_
            rw [Option.some.inj hS10]
            refine j_aload_n C dX2_next_132 rfl 0 rfl 133 rfl ?_
            refine j_dup C dX2_next_133 rfl 134 rfl ?_
            refine j2_get C 4 (by decide) qf_X2_25 (v := .int (S10 0 4)) rfl dX2_next_134 137 rfl ?_
            refine j_iconst C dX2_next_137 (v := 1) c_iconst_1 138 rfl ?_
            refine j_iadd C dX2_next_138 139 rfl ?_
            obtain ⟨S11, hS11, hf⟩ := bnd hf
            refine j2_put C 4 (by decide) (by decide) rfl rfl qf_X2_25 dX2_next_139 142 rfl ?_
            rw [Option.some.inj hS11]
            obtain rfl := Option.some.inj hf
            exact j_vret C hr hlk dX2_next_142
          · rw [if_pos c9] at hf
            refine j_iconst C dX2_next_124 (v := 3) c_iconst_3 125 rfl ?_
            refine j_goto C dX2_next_125 129 (by decide) ?_
            obtain ⟨S12, hS12, hf⟩ := bnd hf
            refine j2_put C 2 (by decide) (by decide) rfl rfl qf_X2_19 dX2_next_129 132 rfl ?_
            rw [Option.some.inj hS12]
            refine j_aload_n C dX2_next_132 rfl 0 rfl 133 rfl ?_
            refine j_dup C dX2_next_133 rfl 134 rfl ?_
            refine j2_get C 4 (by decide) qf_X2_25 (v := .int (S12 0 4)) rfl dX2_next_134 137 rfl ?_
            refine j_iconst C dX2_next_137 (v := 1) c_iconst_1 138 rfl ?_
            refine j_iadd C dX2_next_138 139 rfl ?_
            obtain ⟨S13, hS13, hf⟩ := bnd hf
            refine j2_put C 4 (by decide) (by decide) rfl rfl qf_X2_25 dX2_next_139 142 rfl ?_
            rw [Option.some.inj hS13]
            obtain rfl := Option.some.inj hf
            exact j_vret C hr hlk dX2_next_142
        · rw [if_neg c7] at hf
          refine j_aload_n C dX2_next_102 rfl 0 rfl 103 rfl ?_
          obtain ⟨S14, hS14, hf⟩ := bnd hf
          refine j_callVv (As := []) (rest := []) C (c_X2_readNumber l g sz x mm  S2 _ hS14) (j_cwV C qc_X2_readNumber qm_X2_41 qi_X2_readNumber qs_X2_readNumber qn_X2 hd_X2_readNumber ⟨rfl, rfl⟩ ⟨by decide, by decide⟩) (rcv_tp.cell C.2) rfl (Nat.le_of_ble_eq_true rfl) dX2_next_103 106 rfl ?_
          refine j_goto C dX2_next_106 142 (by decide) ?_
          obtain rfl := Option.some.inj hf
          exact j_vret C hr hlk dX2_next_142
      · rw [if_neg c5] at hf
        refine j_aload_n C dX2_next_80 rfl 0 rfl 81 rfl ?_
        obtain ⟨S15, hS15, hf⟩ := bnd hf
        refine j_callVv (As := []) (rest := []) C (c_X2_readWord l g sz x mm  S2 _ hS15) (j_cwV C qc_X2_readWord qm_X2_35 qi_X2_readWord qs_X2_readWord qn_X2 hd_X2_readWord ⟨rfl, rfl⟩ ⟨by decide, by decide⟩) (rcv_tp.cell C.2) rfl (Nat.le_of_ble_eq_true rfl) dX2_next_81 84 rfl ?_
        refine j_goto C dX2_next_84 142 (by decide) ?_
        obtain rfl := Option.some.inj hf
        exact j_vret C hr hlk dX2_next_142
    · rw [if_neg c3] at hf
      refine j_aload_n C dX2_next_57 rfl 0 rfl 58 rfl ?_
      refine j_iconst C dX2_next_58 (v := 0) c_iconst_0 59 rfl ?_
      obtain ⟨S16, hS16, hf⟩ := bnd hf
      refine j2_put C 2 (by decide) (by decide) rfl rfl qf_X2_19 dX2_next_59 62 rfl ?_
      rw [Option.some.inj hS16]
      refine j_goto C dX2_next_62 142 (by decide) ?_
      obtain rfl := Option.some.inj hf
      exact j_vret C hr hlk dX2_next_142
  have hL0 : ∀ (n : Nat), ∀ (S : St), X2_next_L0 n S = some S' → Wj p l e (rmJ 2 41) s m args below meth c (MQ below (QvJ g sz (put x 23 2 S') mm) args s 0 0 (Ag sz)) 1 g sz (put x 23 2 S) mm 0 [(0, .ref (ad g 23))] [] := by
    intro  n
    induction n with
    | zero =>
      intro S hf
      rw [X2_next_L0] at hf
      cases hf
    | succ n ih =>
      intro S hf
      rw [X2_next_L0] at hf
      refine j_aload_n C dX2_next_0 rfl 0 rfl 1 rfl ?_
      refine j2_get C 4 (by decide) qf_X2_25 (v := .int (S 0 4)) rfl dX2_next_1 4 rfl ?_
      refine j_aload_n C dX2_next_4 rfl 0 rfl 5 rfl ?_
      refine j2_get C 1 (by decide) qf_X2_15 (v := .int (S 0 1)) rfl dX2_next_5 8 rfl ?_
      refine j_icmp_ge C dX2_next_8 38 (by decide) 11 rfl (fun c1 => ?_) (fun c1 => ?_)
      · rw [if_pos c1] at hf
        exact hL38 S hf
      · rw [if_neg c1] at hf
        refine j_aload_n C dX2_next_11 rfl 0 rfl 12 rfl ?_
        refine j2_get C 0 (by decide) qf_X2_9 (v := .ref (ad g 24)) rfl dX2_next_12 15 rfl ?_
        refine j_aload_n C dX2_next_15 rfl 0 rfl 16 rfl ?_
        refine j2_get C 4 (by decide) qf_X2_25 (v := .int (S 0 4)) rfl dX2_next_16 19 rfl ?_
        obtain ⟨v17, hv17, hf⟩ := bnd hf
        refine j2_ald C hv17 dX2_next_19 20 rfl ?_
        refine j_bipush C dX2_next_20 (v := 32) c_bipush_32 22 rfl ?_
        refine j_icmp_ne C dX2_next_22 38 (by decide) 25 rfl (fun c18 => ?_) (fun c18 => ?_)
        · rw [if_neg c18] at hf
          exact hL38 S hf
        · rw [if_pos c18] at hf
          refine j_aload_n C dX2_next_25 rfl 0 rfl 26 rfl ?_
          refine j_dup C dX2_next_26 rfl 27 rfl ?_
          refine j2_get C 4 (by decide) qf_X2_25 (v := .int (S 0 4)) rfl dX2_next_27 30 rfl ?_
          refine j_iconst C dX2_next_30 (v := 1) c_iconst_1 31 rfl ?_
          refine j_iadd C dX2_next_31 32 rfl ?_
          obtain ⟨S19, hS19, hf⟩ := bnd hf
          refine j2_put C 4 (by decide) (by decide) rfl rfl qf_X2_25 dX2_next_32 35 rfl ?_
          rw [Option.some.inj hS19]
          refine j_goto C dX2_next_35 0 (by decide) ?_
          exact ih S19 hf
  unfold X2_next at hf
  exact hL0 FU S hf
set_option maxRecDepth 100000 in
set_option maxHeartbeats 4000000 in
theorem c_X2_isWord (l : Launch) (g : GG) (sz : Nat) (x mm : St) (w1 : Nat) (hw1 : w1 < 11) (S : St) (r : Int32) (hf : X2_isWord w1 S = some r) : Met l yX2_isWord (.code yX2_isWord cX2_isWord 3 (some .boolean) :: ALLW) (rmJ 4 85) (PcJ g sz (put x 23 2 S) mm [.ref (ad g 23), .ref (adK g w1)]) (QiJ g sz r (put x 23 2 S) mm) 0 0 (Ag sz) := by
  refine j_met (own := RX2) (by decide) rfl (Nat.le_of_ble_eq_true rfl) rfl ?_
  intro p e s m args below meth c C hr hlk
  have hL28 : ∀ (n : Nat), ∀ (b2 : Int32) (S : St), X2_isWord_L28 w1 n b2 S = some r → Wj p l e (rmJ 4 85) s m args below meth c (MQ below (QiJ g sz r (put x 23 2 S) mm) args s 0 0 (Ag sz)) 3 g sz (put x 23 2 S) mm 28 [(0, .ref (ad g 23)), (1, .ref (adK g w1)), (2, .int b2)] [] := by
    intro  n
    induction n with
    | zero =>
      intro b2 S hf
      rw [X2_isWord_L28] at hf
      cases hf
    | succ n ih =>
      intro b2 S hf
      rw [X2_isWord_L28] at hf
      refine j_iload_n C dX2_isWord_28 rfl 2 rfl 29 rfl ?_
      refine j_aload_n C dX2_isWord_29 rfl 1 rfl 30 rfl ?_
      refine j_callVi (As := []) (rest := [.int b2]) C (c_J0_length l g sz (put x 23 2 S) mm w1 hw1 _ rfl) (j_cwV C qc_J0_length_8abf5 qm_X2_50 qi_J0_length_8abf5 qs_J0_length_8abf5 qn_J0 hd_J0_length_8abf5 ⟨rfl, rfl⟩ ⟨by decide, by decide⟩) (fun H locs _ hS => vk_recv C.2.2.2.1 hw1 hS) rfl (Nat.le_of_ble_eq_true rfl) dX2_isWord_30 33 rfl ?_
      refine j_icmp_ge C dX2_isWord_33 63 (by decide) 36 rfl (fun c3 => ?_) (fun c3 => ?_)
      · rw [if_pos c3] at hf
        refine j_iconst C dX2_isWord_63 (v := 1) c_iconst_1 64 rfl ?_
        obtain rfl := Option.some.inj hf
        exact j_zret C hr hlk (Or.inr rfl) dX2_isWord_64
      · rw [if_neg c3] at hf
        refine j_aload_n C dX2_isWord_36 rfl 0 rfl 37 rfl ?_
        refine j2_get C 0 (by decide) qf_X2_9 (v := .ref (ad g 24)) rfl dX2_isWord_37 40 rfl ?_
        refine j_aload_n C dX2_isWord_40 rfl 0 rfl 41 rfl ?_
        refine j2_get C 3 (by decide) qf_X2_22 (v := .int (S 0 3)) rfl dX2_isWord_41 44 rfl ?_
        refine j_iload_n C dX2_isWord_44 rfl 2 rfl 45 rfl ?_
        refine j_iadd C dX2_isWord_45 46 rfl ?_
        obtain ⟨v4, hv4, hf⟩ := bnd hf
        refine j2_ald C hv4 dX2_isWord_46 47 rfl ?_
        refine j_aload_n C dX2_isWord_47 rfl 1 rfl 48 rfl ?_
        refine j_iload_n C dX2_isWord_48 rfl 2 rfl 49 rfl ?_
        obtain ⟨r5, hr5, hf⟩ := bnd hf
        refine j_callVi (As := [.int b2]) (rest := [.int v4]) C (c_J0_charAt l g sz (put x 23 2 S) mm w1 hw1 b2 _ hr5) (j_cwV C qc_J0_charAt_5068e qm_X2_55 qi_J0_charAt_5068e qs_J0_charAt_5068e qn_J0 hd_J0_charAt_5068e ⟨rfl, rfl⟩ ⟨by decide, by decide⟩) (fun H locs _ hS => vk_recv C.2.2.2.1 hw1 hS) rfl (Nat.le_of_ble_eq_true rfl) dX2_isWord_49 52 rfl ?_
        refine j_icmp_eq C dX2_isWord_52 57 (by decide) 55 rfl (fun c6 => ?_) (fun c6 => ?_)
        · rw [if_pos c6] at hf
          refine j_iinc (lv2 := [(2, .int (b2 + 1)), (0, .ref (ad g 23)), (1, .ref (adK g w1))]) C dX2_isWord_57 (k := 2) rfl (congrArg (HAdd.hAdd b2) c_oi_1) (by decide) rfl 60 rfl ?_
          refine j_goto C dX2_isWord_60 28 (by decide) ?_
          refine j_sub [1, 2, 0] rfl ?_
          exact ih (b2 + 1) S hf
        · rw [if_neg c6] at hf
          refine j_iconst C dX2_isWord_55 (v := 0) c_iconst_0 56 rfl ?_
          obtain rfl := Option.some.inj hf
          exact j_zret C hr hlk (Or.inl rfl) dX2_isWord_56
  unfold X2_isWord at hf
  refine j_aload_n C dX2_isWord_0 rfl 0 rfl 1 rfl ?_
  refine j2_get C 2 (by decide) qf_X2_19 (v := .int (S 0 2)) rfl dX2_isWord_1 4 rfl ?_
  refine j_iconst C dX2_isWord_4 (v := 1) c_iconst_1 5 rfl ?_
  refine j_icmp_ne C dX2_isWord_5 24 (by decide) 8 rfl (fun c1 => ?_) (fun c1 => ?_)
  · rw [if_neg c1] at hf
    refine j_iconst C dX2_isWord_24 (v := 0) c_iconst_0 25 rfl ?_
    obtain rfl := Option.some.inj hf
    exact j_zret C hr hlk (Or.inl rfl) dX2_isWord_25
  · rw [if_pos c1] at hf
    refine j_aload_n C dX2_isWord_8 rfl 0 rfl 9 rfl ?_
    refine j2_get C 4 (by decide) qf_X2_25 (v := .int (S 0 4)) rfl dX2_isWord_9 12 rfl ?_
    refine j_aload_n C dX2_isWord_12 rfl 0 rfl 13 rfl ?_
    refine j2_get C 3 (by decide) qf_X2_22 (v := .int (S 0 3)) rfl dX2_isWord_13 16 rfl ?_
    refine j_isub C dX2_isWord_16 17 rfl ?_
    refine j_aload_n C dX2_isWord_17 rfl 1 rfl 18 rfl ?_
    refine j_callVi (As := []) (rest := [.int ((S 0 4) - (S 0 3))]) C (c_J0_length l g sz (put x 23 2 S) mm w1 hw1 _ rfl) (j_cwV C qc_J0_length_8abf5 qm_X2_50 qi_J0_length_8abf5 qs_J0_length_8abf5 qn_J0 hd_J0_length_8abf5 ⟨rfl, rfl⟩ ⟨by decide, by decide⟩) (fun H locs _ hS => vk_recv C.2.2.2.1 hw1 hS) rfl (Nat.le_of_ble_eq_true rfl) dX2_isWord_18 21 rfl ?_
    refine j_icmp_eq C dX2_isWord_21 26 (by decide) 24 rfl (fun c2 => ?_) (fun c2 => ?_)
    · rw [if_pos c2] at hf
      refine j_iconst C dX2_isWord_26 (v := 0) c_iconst_0 27 rfl ?_
      refine j_istore_n (lv2 := [(2, .int 0), (0, .ref (ad g 23)), (1, .ref (adK g w1))]) C dX2_isWord_27 rfl (by decide) rfl 28 rfl ?_
      refine j_sub [1, 2, 0] rfl ?_
      exact hL28 FU 0 S hf
    · rw [if_neg c2] at hf
      refine j_iconst C dX2_isWord_24 (v := 0) c_iconst_0 25 rfl ?_
      obtain rfl := Option.some.inj hf
      exact j_zret C hr hlk (Or.inl rfl) dX2_isWord_25
set_option maxRecDepth 100000 in
set_option maxHeartbeats 4000000 in
theorem c_X3_within (l : Launch) (g : GG) (sz : Nat) (x mm : St) (a0 : Int32) (a1 : Int32) (a2 : Int32) (r : Int32) (hf : X3_within a0 a1 a2 = r) : Met l yX3_within (.code yX3_within cX3_within 3 (some .boolean) :: ALLW) (rmJ 0 0) (PcJ g sz x mm [.int a0, .int a1, .int a2]) (QiJ g sz r x mm) 0 0 (Ag sz) := by
  refine j_met (own := RX3) (by decide) rfl (Nat.le_of_ble_eq_true rfl) rfl ?_
  intro p e s m args below meth c C hr hlk
  unfold X3_within at hf
  refine j_iload_n C dX3_within_0 rfl 0 rfl 1 rfl ?_
  refine j_iload_n C dX3_within_1 rfl 1 rfl 2 rfl ?_
  refine j_icmp_lt C dX3_within_2 14 (by decide) 5 rfl (fun c1 => ?_) (fun c1 => ?_)
  · rw [if_pos c1] at hf
    refine j_iconst C dX3_within_14 (v := 0) c_iconst_0 15 rfl ?_
    subst hf
    exact j_zret C hr hlk (Or.inl rfl) dX3_within_15
  · rw [if_neg c1] at hf
    refine j_iload_n C dX3_within_5 rfl 0 rfl 6 rfl ?_
    refine j_iload_n C dX3_within_6 rfl 2 rfl 7 rfl ?_
    refine j_icmp_gt C dX3_within_7 14 (by decide) 10 rfl (fun c2 => ?_) (fun c2 => ?_)
    · rw [if_pos c2] at hf
      refine j_iconst C dX3_within_14 (v := 0) c_iconst_0 15 rfl ?_
      subst hf
      exact j_zret C hr hlk (Or.inl rfl) dX3_within_15
    · rw [if_neg c2] at hf
      refine j_iconst C dX3_within_10 (v := 1) c_iconst_1 11 rfl ?_
      refine j_goto C dX3_within_11 15 (by decide) ?_
      subst hf
      exact j_zret C hr hlk (Or.inr rfl) dX3_within_15
set_option maxRecDepth 100000 in
set_option maxHeartbeats 4000000 in
theorem c_X3_isKind (l : Launch) (g : GG) (sz : Nat) (x mm : St) (a0 : Int32) (r : Int32) (hf : X3_isKind a0 = r) : Met l yX3_isKind (.code yX3_isKind cX3_isKind 1 (some .boolean) :: ALLW) (rmJ 1 22) (PcJ g sz x mm [.int a0]) (QiJ g sz r x mm) 0 0 (Ag sz) := by
  refine j_met (own := RX3) (by decide) rfl (Nat.le_of_ble_eq_true rfl) rfl ?_
  intro p e s m args below meth c C hr hlk
  unfold X3_isKind at hf
  refine j_iload_n C dX3_isKind_0 rfl 0 rfl 1 rfl ?_
  refine j_iconst C dX3_isKind_1 (v := 0) c_iconst_0 2 rfl ?_
  refine j_bipush C dX3_isKind_2 (v := 6) c_bipush_6 4 rfl ?_
  refine j_callSi (As := [.int a0, .int 0, .int 6]) (rest := []) C (c_X3_within l g sz x mm a0 0 6 _ rfl) (j_cwS C qc_X3_within qm_X3_66 qs_X3_within qn_X3 hd_X3_within ⟨rfl, rfl⟩ ⟨by decide, by decide⟩)  rfl (Nat.le_of_ble_eq_true rfl) dX3_isKind_4 7 rfl ?_
  subst hf
  exact j_zret C hr hlk (b01_X3_within ..) dX3_isKind_7
set_option maxRecDepth 100000 in
set_option maxHeartbeats 4000000 in
theorem c_X3_found (l : Launch) (g : GG) (sz : Nat) (S mm : St) (a1 : Int32) (r : Int32) (S' : St) (hf : X3_found a1 S = some (r, S')) : Met l yX3_found (.code yX3_found cX3_found 2 (some .int) :: ALLW) (rmJ 0 0) (PcJ g sz S mm [.ref (ad g 0), .int a1]) (QiJ g sz r S' mm) 0 0 (Ag sz) := by
  refine j_met (own := RX3) (by decide) rfl (Nat.le_of_ble_eq_true rfl) rfl ?_
  intro p e s m args below meth c C hr hlk
  unfold X3_found at hf
  refine j_aload_n C dX3_found_0 rfl 0 rfl 1 rfl ?_
  refine j3_get C 7 (by decide) qf_X3_43 (v := .ref (ad g 26)) rfl dX3_found_1 4 rfl ?_
  refine j_iload_n C dX3_found_4 rfl 1 rfl 5 rfl ?_
  refine j_dup2 C dX3_found_5 rfl rfl 6 rfl ?_
  obtain ⟨v1, hv1, hf⟩ := bnd hf
  refine j3f_ald C hv1 dX3_found_6 7 rfl ?_
  refine j_iconst C dX3_found_7 (v := 1) c_iconst_1 8 rfl ?_
  refine j_iadd C dX3_found_8 9 rfl ?_
  obtain ⟨S2, hS2, hf⟩ := bnd hf
  refine j3f_ast C hS2 dX3_found_9 10 rfl ?_
  refine j_ldcw C dX3_found_10 qk_X3_290 13 rfl ?_
  refine j_iload_n C dX3_found_13 rfl 1 rfl 14 rfl ?_
  refine j_isub C dX3_found_14 15 rfl ?_
  obtain ⟨rfl, rfl⟩ := Prod.mk.inj (Option.some.inj hf)
  exact j_iret C hr hlk dX3_found_15
set_option maxRecDepth 100000 in
set_option maxHeartbeats 4000000 in
theorem c_X3_coin (l : Launch) (g : GG) (sz : Nat) (S mm : St) (a1 : Int32) (r : Int32) (S' : St) (hf : X3_coin a1 S = some (r, S')) : Met l yX3_coin (.code yX3_coin cX3_coin 2 (some .int) :: ALLW) (rmJ 2 42) (PcJ g sz S mm [.ref (ad g 0), .int a1]) (QiJ g sz r S' mm) 0 0 (Ag sz) := by
  refine j_met (own := RX3) (by decide) rfl (Nat.le_of_ble_eq_true rfl) rfl ?_
  intro p e s m args below meth c C hr hlk
  unfold X3_coin at hf
  refine j_iload_n C dX3_coin_0 rfl 1 rfl 1 rfl ?_
  refine j_callSi (As := [.int a1]) (rest := []) C (c_X3_isKind l g sz S mm a1 _ rfl) (j_cwS C qc_X3_isKind qm_X3_48 qs_X3_isKind qn_X3 hd_X3_isKind ⟨rfl, rfl⟩ ⟨by decide, by decide⟩)  rfl (Nat.le_of_ble_eq_true rfl) dX3_coin_1 4 rfl ?_
  refine j_if_ne C dX3_coin_4 13 (by decide) 7 rfl (fun c1 => ?_) (fun c1 => ?_)
  · rw [if_neg c1] at hf
    refine j_aload_n C dX3_coin_13 rfl 0 rfl 14 rfl ?_
    refine j3_get C 0 (by decide) qf_X3_12 (v := .ref (ad g 1)) rfl dX3_coin_14 17 rfl ?_
    refine j3s_get (k := 1) rfl C 6 (by decide) qf_X3_56 (v := .int (S 1 6)) rfl dX3_coin_17 20 rfl ?_
    refine j_bipush C dX3_coin_20 (v := 24) c_bipush_24 22 rfl ?_
    refine j_icmp_lt C dX3_coin_22 31 (by decide) 25 rfl (fun c2 => ?_) (fun c2 => ?_)
    · rw [if_pos c2] at hf
      refine j_aload_n C dX3_coin_31 rfl 0 rfl 32 rfl ?_
      refine j3_get C 0 (by decide) qf_X3_12 (v := .ref (ad g 1)) rfl dX3_coin_32 35 rfl ?_
      refine j_iload_n C dX3_coin_35 rfl 1 rfl 36 rfl ?_
      obtain ⟨⟨r4, T5⟩, hq3, hf⟩ := bnd hf
      dsimp only at hf
      obtain ⟨S6, hS6, hf⟩ := bnd hf
      refine j_x (put_blk S 1 7).symm ?_
      refine j_callVi (As := [.int a1]) (rest := []) C (c_X1_mint l g sz S mm 1 rfl a1 (blk S 1) _ _ hq3) (j_cwV C qc_X1_mint qm_X3_60 qi_X1_mint qs_X1_mint qn_X1 hd_X1_mint ⟨rfl, rfl⟩ ⟨by decide, by decide⟩) ((rcv_sh rfl).cell C.2) rfl (Nat.le_of_ble_eq_true rfl) dX3_coin_36 39 rfl ?_
      rw [Option.some.inj hS6]
      obtain ⟨rfl, rfl⟩ := Prod.mk.inj (Option.some.inj hf)
      exact j_iret C hr hlk dX3_coin_39
    · rw [if_neg c2] at hf
      refine j_aload_n C dX3_coin_25 rfl 0 rfl 26 rfl ?_
      refine j_iconst C dX3_coin_26 (v := 1) c_iconst_1 27 rfl ?_
      obtain ⟨⟨r8, S9⟩, hq7, hf⟩ := bnd hf
      dsimp only at hf
      refine j_callVi (As := [.int 1]) (rest := []) C (c_X3_found l g sz S mm  1 _ _ hq7) (j_cwV C qc_X3_found qm_X3_52 qi_X3_found qs_X3_found qn_X3 hd_X3_found ⟨rfl, rfl⟩ ⟨by decide, by decide⟩) (rcv_pl.cell C.2) rfl (Nat.le_of_ble_eq_true rfl) dX3_coin_27 30 rfl ?_
      obtain ⟨rfl, rfl⟩ := Prod.mk.inj (Option.some.inj hf)
      exact j_iret C hr hlk dX3_coin_30
  · rw [if_pos c1] at hf
    refine j_aload_n C dX3_coin_7 rfl 0 rfl 8 rfl ?_
    refine j_iconst C dX3_coin_8 (v := 0) c_iconst_0 9 rfl ?_
    obtain ⟨⟨r11, S12⟩, hq10, hf⟩ := bnd hf
    dsimp only at hf
    refine j_callVi (As := [.int 0]) (rest := []) C (c_X3_found l g sz S mm  0 _ _ hq10) (j_cwV C qc_X3_found qm_X3_52 qi_X3_found qs_X3_found qn_X3 hd_X3_found ⟨rfl, rfl⟩ ⟨by decide, by decide⟩) (rcv_pl.cell C.2) rfl (Nat.le_of_ble_eq_true rfl) dX3_coin_9 12 rfl ?_
    obtain ⟨rfl, rfl⟩ := Prod.mk.inj (Option.some.inj hf)
    exact j_iret C hr hlk dX3_coin_12
set_option maxRecDepth 100000 in
set_option maxHeartbeats 4000000 in
theorem c_X3_isCoin (l : Launch) (g : GG) (sz : Nat) (S mm : St) (a1 : Int32) (r : Int32) (hf : X3_isCoin a1 S = r) : Met l yX3_isCoin (.code yX3_isCoin cX3_isCoin 2 (some .boolean) :: ALLW) (rmJ 1 22) (PcJ g sz S mm [.ref (ad g 0), .int a1]) (QiJ g sz r S mm) 0 0 (Ag sz) := by
  refine j_met (own := RX3) (by decide) rfl (Nat.le_of_ble_eq_true rfl) rfl ?_
  intro p e s m args below meth c C hr hlk
  unfold X3_isCoin at hf
  refine j_iload_n C dX3_isCoin_0 rfl 1 rfl 1 rfl ?_
  refine j_iconst C dX3_isCoin_1 (v := 0) c_iconst_0 2 rfl ?_
  refine j_aload_n C dX3_isCoin_2 rfl 0 rfl 3 rfl ?_
  refine j3_get C 0 (by decide) qf_X3_12 (v := .ref (ad g 1)) rfl dX3_isCoin_3 6 rfl ?_
  refine j3s_get (k := 1) rfl C 6 (by decide) qf_X3_56 (v := .int (S 1 6)) rfl dX3_isCoin_6 9 rfl ?_
  refine j_iconst C dX3_isCoin_9 (v := 1) c_iconst_1 10 rfl ?_
  refine j_isub C dX3_isCoin_10 11 rfl ?_
  refine j_callSi (As := [.int a1, .int 0, .int ((S 1 6) - 1)]) (rest := []) C (c_X3_within l g sz S mm a1 0 ((S 1 6) - 1) _ rfl) (j_cwS C qc_X3_within qm_X3_66 qs_X3_within qn_X3 hd_X3_within ⟨rfl, rfl⟩ ⟨by decide, by decide⟩)  rfl (Nat.le_of_ble_eq_true rfl) dX3_isCoin_11 14 rfl ?_
  subst hf
  exact j_zret C hr hlk (b01_X3_within ..) dX3_isCoin_14
set_option maxRecDepth 100000 in
set_option maxHeartbeats 4000000 in
theorem c_X3_of (l : Launch) (g : GG) (sz : Nat) (S mm : St) (a1 : Int32) (a2 : Int32) (r : Int32) (S' : St) (hf : X3_of a1 a2 S = some (r, S')) : Met l yX3_of (.code yX3_of cX3_of 4 (some .int) :: ALLW) (rmJ 2 44) (PcJ g sz S mm [.ref (ad g 0), .int a1, .int a2]) (QiJ g sz r S' mm) 0 0 (Ag sz) := by
  refine j_met (own := RX3) (by decide) rfl (Nat.le_of_ble_eq_true rfl) rfl ?_
  intro p e s m args below meth c C hr hlk
  unfold X3_of at hf
  refine j_aload_n C dX3_of_0 rfl 0 rfl 1 rfl ?_
  refine j_iload_n C dX3_of_1 rfl 1 rfl 2 rfl ?_
  refine j_callVi (As := [.int a1]) (rest := []) C (c_X3_isCoin l g sz S mm  a1 _ rfl) (j_cwV C qc_X3_isCoin qm_X3_63 qi_X3_isCoin qs_X3_isCoin qn_X3 hd_X3_isCoin ⟨rfl, rfl⟩ ⟨by decide, by decide⟩) (rcv_pl.cell C.2) rfl (Nat.le_of_ble_eq_true rfl) dX3_of_2 5 rfl ?_
  refine j_if_eq C dX3_of_5 17 (by decide) 8 rfl (fun c1 => ?_) (fun c1 => ?_)
  · rw [if_pos c1] at hf
    refine j_aload_n C dX3_of_17 rfl 0 rfl 18 rfl ?_
    refine j_iconst C dX3_of_18 (v := 0) c_iconst_0 19 rfl ?_
    obtain ⟨⟨r3, S4⟩, hq2, hf⟩ := bnd hf
    dsimp only at hf
    refine j_callVi (As := [.int 0]) (rest := []) C (c_X3_found l g sz S mm  0 _ _ hq2) (j_cwV C qc_X3_found qm_X3_52 qi_X3_found qs_X3_found qn_X3 hd_X3_found ⟨rfl, rfl⟩ ⟨by decide, by decide⟩) (rcv_pl.cell C.2) rfl (Nat.le_of_ble_eq_true rfl) dX3_of_19 22 rfl ?_
    obtain ⟨rfl, rfl⟩ := Prod.mk.inj (Option.some.inj hf)
    exact j_iret C hr hlk dX3_of_22
  · rw [if_neg c1] at hf
    refine j_iload_n C dX3_of_8 rfl 2 rfl 9 rfl ?_
    refine j_iconst C dX3_of_9 (v := 0) c_iconst_0 10 rfl ?_
    refine j_iconst C dX3_of_10 (v := 5) c_iconst_5 11 rfl ?_
    refine j_callSi (As := [.int a2, .int 0, .int 5]) (rest := []) C (c_X3_within l g sz S mm a2 0 5 _ rfl) (j_cwS C qc_X3_within qm_X3_66 qs_X3_within qn_X3 hd_X3_within ⟨rfl, rfl⟩ ⟨by decide, by decide⟩)  rfl (Nat.le_of_ble_eq_true rfl) dX3_of_11 14 rfl ?_
    refine j_if_ne C dX3_of_14 23 (by decide) 17 rfl (fun c5 => ?_) (fun c5 => ?_)
    · rw [if_neg c5] at hf
      refine j_aload_n C dX3_of_23 rfl 0 rfl 24 rfl ?_
      refine j3_get C 0 (by decide) qf_X3_12 (v := .ref (ad g 1)) rfl dX3_of_24 27 rfl ?_
      refine j3s_get (k := 1) rfl C 0 (by decide) qf_X3_70 (v := .ref (ad g 2)) rfl dX3_of_27 30 rfl ?_
      refine j_iload_n C dX3_of_30 rfl 1 rfl 31 rfl ?_
      obtain ⟨v6, hv6, hf⟩ := bnd hf
      refine j3s_ald (k := 1) rfl 1 (by decide) (by decide) C hv6 dX3_of_31 32 rfl ?_
      refine j_istore_n (lv2 := [(3, .int v6), (0, .ref (ad g 0)), (1, .int a1), (2, .int a2)]) C dX3_of_32 rfl (by decide) rfl 33 rfl ?_
      refine j_iload_n C dX3_of_33 rfl 3 rfl 34 rfl ?_
      by_cases c7 : a2 = 0
      · rw [if_pos c7] at hf
        refine j_tableIn C dX3_of_34 (by rw [c7]; decide) (by rw [c7]; decide) (by rw [c7]; rfl) 68 (by decide) ?_
        refine j_iload_n C dX3_of_68 rfl 0 rfl 69 rfl ?_
        obtain ⟨rfl, rfl⟩ := Prod.mk.inj (Option.some.inj hf)
        exact j_iret C hr hlk dX3_of_69
      · rw [if_neg c7] at hf
        by_cases c8 : a2 = 1
        · rw [if_pos c8] at hf
          refine j_tableIn C dX3_of_34 (by rw [c8]; decide) (by rw [c8]; decide) (by rw [c8]; rfl) 70 (by decide) ?_
          refine j_aload_n C dX3_of_70 rfl 1 rfl 71 rfl ?_
          refine j3_get C 0 (by decide) qf_X3_12 (v := .ref (ad g 1)) rfl dX3_of_71 74 rfl ?_
          refine j_iload_n C dX3_of_74 rfl 2 rfl 75 rfl ?_
          obtain ⟨r9, hr9, hf⟩ := bnd hf
          refine j_x (put_blk S 1 7).symm ?_
          refine j_callVi (As := [.int a1]) (rest := []) C (c_X1_toldPlace l g sz S mm 1 rfl a1 (blk S 1) _ hr9) (j_cwV C qc_X1_toldPlace qm_X3_73 qi_X1_toldPlace qs_X1_toldPlace qn_X1 hd_X1_toldPlace ⟨rfl, rfl⟩ ⟨by decide, by decide⟩) ((rcv_sh rfl).cell C.2) rfl (Nat.le_of_ble_eq_true rfl) dX3_of_75 78 rfl ?_
          refine j_x (put_blk S 1 7) ?_
          obtain ⟨rfl, rfl⟩ := Prod.mk.inj (Option.some.inj hf)
          exact j_iret C hr hlk dX3_of_78
        · rw [if_neg c8] at hf
          by_cases c10 : a2 = 2
          · rw [if_pos c10] at hf
            refine j_tableIn C dX3_of_34 (by rw [c10]; decide) (by rw [c10]; decide) (by rw [c10]; rfl) 79 (by decide) ?_
            refine j_aload_n C dX3_of_79 rfl 1 rfl 80 rfl ?_
            refine j3_get C 0 (by decide) qf_X3_12 (v := .ref (ad g 1)) rfl dX3_of_80 83 rfl ?_
            refine j_iload_n C dX3_of_83 rfl 2 rfl 84 rfl ?_
            obtain ⟨r11, hr11, hf⟩ := bnd hf
            refine j_x (put_blk S 1 7).symm ?_
            refine j_callVi (As := [.int a1]) (rest := []) C (c_X1_depthOf l g sz S mm 1 rfl a1 (blk S 1) _ hr11) (j_cwV C qc_X1_depthOf qm_X3_76 qi_X1_depthOf qs_X1_depthOf qn_X1 hd_X1_depthOf ⟨rfl, rfl⟩ ⟨by decide, by decide⟩) ((rcv_sh rfl).cell C.2) rfl (Nat.le_of_ble_eq_true rfl) dX3_of_84 87 rfl ?_
            refine j_x (put_blk S 1 7) ?_
            obtain ⟨rfl, rfl⟩ := Prod.mk.inj (Option.some.inj hf)
            exact j_iret C hr hlk dX3_of_87
          · rw [if_neg c10] at hf
            by_cases c12 : a2 = 3
            · rw [if_pos c12] at hf
              refine j_tableIn C dX3_of_34 (by rw [c12]; decide) (by rw [c12]; decide) (by rw [c12]; rfl) 88 (by decide) ?_
              refine j_gets C 1 (by decide) qf_X3_79 dX3_of_88 91 rfl ?_
              refine j_iload_n C dX3_of_91 rfl 0 rfl 92 rfl ?_
              obtain ⟨v13, hv13, hf⟩ := bnd hf
              refine j_sald C 1 (by decide) hv13 dX3_of_92 93 rfl ?_
              obtain ⟨rfl, rfl⟩ := Prod.mk.inj (Option.some.inj hf)
              exact j_iret C hr hlk dX3_of_93
            · rw [if_neg c12] at hf
              by_cases c14 : a2 = 4
              · rw [if_pos c14] at hf
                refine j_tableIn C dX3_of_34 (by rw [c14]; decide) (by rw [c14]; decide) (by rw [c14]; rfl) 94 (by decide) ?_
                refine j_gets C 2 (by decide) qf_X3_82 dX3_of_94 97 rfl ?_
                refine j_iload_n C dX3_of_97 rfl 0 rfl 98 rfl ?_
                obtain ⟨v15, hv15, hf⟩ := bnd hf
                refine j_sald C 2 (by decide) hv15 dX3_of_98 99 rfl ?_
                obtain ⟨rfl, rfl⟩ := Prod.mk.inj (Option.some.inj hf)
                exact j_iret C hr hlk dX3_of_99
              · rw [if_neg c14] at hf
                refine j_tableOut C dX3_of_34 (sw_out4 c7 c8 c10 c12 c14) 100 (by decide) ?_
                refine j_gets C 3 (by decide) qf_X3_85 dX3_of_100 103 rfl ?_
                refine j_iload_n C dX3_of_103 rfl 0 rfl 104 rfl ?_
                obtain ⟨v16, hv16, hf⟩ := bnd hf
                refine j_sald C 3 (by decide) hv16 dX3_of_104 105 rfl ?_
                obtain ⟨rfl, rfl⟩ := Prod.mk.inj (Option.some.inj hf)
                exact j_iret C hr hlk dX3_of_105
    · rw [if_pos c5] at hf
      refine j_aload_n C dX3_of_17 rfl 0 rfl 18 rfl ?_
      refine j_iconst C dX3_of_18 (v := 0) c_iconst_0 19 rfl ?_
      obtain ⟨⟨r18, S19⟩, hq17, hf⟩ := bnd hf
      dsimp only at hf
      refine j_callVi (As := [.int 0]) (rest := []) C (c_X3_found l g sz S mm  0 _ _ hq17) (j_cwV C qc_X3_found qm_X3_52 qi_X3_found qs_X3_found qn_X3 hd_X3_found ⟨rfl, rfl⟩ ⟨by decide, by decide⟩) (rcv_pl.cell C.2) rfl (Nat.le_of_ble_eq_true rfl) dX3_of_19 22 rfl ?_
      obtain ⟨rfl, rfl⟩ := Prod.mk.inj (Option.some.inj hf)
      exact j_iret C hr hlk dX3_of_22
set_option maxRecDepth 100000 in
set_option maxHeartbeats 4000000 in
theorem c_X3_change (l : Launch) (g : GG) (sz : Nat) (S mm : St) (a1 : Int32) (a2 : Int32) (r : Int32) (S' : St) (hf : X3_change a1 a2 S = some (r, S')) : Met l yX3_change (.code yX3_change cX3_change 4 (some .int) :: ALLW) (rmJ 2 43) (PcJ g sz S mm [.ref (ad g 0), .int a1, .int a2]) (QiJ g sz r S' mm) 0 0 (Ag sz) := by
  refine j_met (own := RX3) (by decide) rfl (Nat.le_of_ble_eq_true rfl) rfl ?_
  intro p e s m args below meth c C hr hlk
  unfold X3_change at hf
  refine j_aload_n C dX3_change_0 rfl 0 rfl 1 rfl ?_
  refine j_iload_n C dX3_change_1 rfl 1 rfl 2 rfl ?_
  refine j_callVi (As := [.int a1]) (rest := []) C (c_X3_isCoin l g sz S mm  a1 _ rfl) (j_cwV C qc_X3_isCoin qm_X3_63 qi_X3_isCoin qs_X3_isCoin qn_X3 hd_X3_isCoin ⟨rfl, rfl⟩ ⟨by decide, by decide⟩) (rcv_pl.cell C.2) rfl (Nat.le_of_ble_eq_true rfl) dX3_change_2 5 rfl ?_
  refine j_if_eq C dX3_change_5 15 (by decide) 8 rfl (fun c1 => ?_) (fun c1 => ?_)
  · rw [if_pos c1] at hf
    refine j_aload_n C dX3_change_15 rfl 0 rfl 16 rfl ?_
    refine j_iconst C dX3_change_16 (v := 0) c_iconst_0 17 rfl ?_
    obtain ⟨⟨r3, S4⟩, hq2, hf⟩ := bnd hf
    dsimp only at hf
    refine j_callVi (As := [.int 0]) (rest := []) C (c_X3_found l g sz S mm  0 _ _ hq2) (j_cwV C qc_X3_found qm_X3_52 qi_X3_found qs_X3_found qn_X3 hd_X3_found ⟨rfl, rfl⟩ ⟨by decide, by decide⟩) (rcv_pl.cell C.2) rfl (Nat.le_of_ble_eq_true rfl) dX3_change_17 20 rfl ?_
    obtain ⟨rfl, rfl⟩ := Prod.mk.inj (Option.some.inj hf)
    exact j_iret C hr hlk dX3_change_20
  · rw [if_neg c1] at hf
    refine j_iload_n C dX3_change_8 rfl 2 rfl 9 rfl ?_
    refine j_callSi (As := [.int a2]) (rest := []) C (c_X3_isKind l g sz S mm a2 _ rfl) (j_cwS C qc_X3_isKind qm_X3_48 qs_X3_isKind qn_X3 hd_X3_isKind ⟨rfl, rfl⟩ ⟨by decide, by decide⟩)  rfl (Nat.le_of_ble_eq_true rfl) dX3_change_9 12 rfl ?_
    refine j_if_ne C dX3_change_12 21 (by decide) 15 rfl (fun c5 => ?_) (fun c5 => ?_)
    · rw [if_neg c5] at hf
      refine j_aload_n C dX3_change_21 rfl 0 rfl 22 rfl ?_
      refine j3_get C 0 (by decide) qf_X3_12 (v := .ref (ad g 1)) rfl dX3_change_22 25 rfl ?_
      refine j3s_get (k := 1) rfl C 0 (by decide) qf_X3_70 (v := .ref (ad g 2)) rfl dX3_change_25 28 rfl ?_
      refine j_iload_n C dX3_change_28 rfl 1 rfl 29 rfl ?_
      obtain ⟨v6, hv6, hf⟩ := bnd hf
      refine j3s_ald (k := 1) rfl 1 (by decide) (by decide) C hv6 dX3_change_29 30 rfl ?_
      refine j_istore_n (lv2 := [(3, .int v6), (0, .ref (ad g 0)), (1, .int a1), (2, .int a2)]) C dX3_change_30 rfl (by decide) rfl 31 rfl ?_
      refine j_aload_n C dX3_change_31 rfl 1 rfl 32 rfl ?_
      refine j3_get C 0 (by decide) qf_X3_12 (v := .ref (ad g 1)) rfl dX3_change_32 35 rfl ?_
      refine j3s_get (k := 1) rfl C 0 (by decide) qf_X3_70 (v := .ref (ad g 2)) rfl dX3_change_35 38 rfl ?_
      refine j_iload_n C dX3_change_38 rfl 2 rfl 39 rfl ?_
      refine j_iload_n C dX3_change_39 rfl 3 rfl 40 rfl ?_
      obtain ⟨S7, hS7, hf⟩ := bnd hf
      refine j3s_ast (k := 1) rfl 1 (by decide) (by decide) C hS7 dX3_change_40 41 rfl ?_
      refine j_iload_n C dX3_change_41 rfl 0 rfl 42 rfl ?_
      obtain ⟨rfl, rfl⟩ := Prod.mk.inj (Option.some.inj hf)
      exact j_iret C hr hlk dX3_change_42
    · rw [if_pos c5] at hf
      refine j_aload_n C dX3_change_15 rfl 0 rfl 16 rfl ?_
      refine j_iconst C dX3_change_16 (v := 0) c_iconst_0 17 rfl ?_
      obtain ⟨⟨r9, S10⟩, hq8, hf⟩ := bnd hf
      dsimp only at hf
      refine j_callVi (As := [.int 0]) (rest := []) C (c_X3_found l g sz S mm  0 _ _ hq8) (j_cwV C qc_X3_found qm_X3_52 qi_X3_found qs_X3_found qn_X3 hd_X3_found ⟨rfl, rfl⟩ ⟨by decide, by decide⟩) (rcv_pl.cell C.2) rfl (Nat.le_of_ble_eq_true rfl) dX3_change_17 20 rfl ?_
      obtain ⟨rfl, rfl⟩ := Prod.mk.inj (Option.some.inj hf)
      exact j_iret C hr hlk dX3_change_20
set_option maxRecDepth 100000 in
set_option maxHeartbeats 4000000 in
theorem c_X3_isColumn (l : Launch) (g : GG) (sz : Nat) (x mm : St) (a0 : Int32) (r : Int32) (hf : X3_isColumn a0 = r) : Met l yX3_isColumn (.code yX3_isColumn cX3_isColumn 1 (some .boolean) :: ALLW) (rmJ 1 22) (PcJ g sz x mm [.int a0]) (QiJ g sz r x mm) 0 0 (Ag sz) := by
  refine j_met (own := RX3) (by decide) rfl (Nat.le_of_ble_eq_true rfl) rfl ?_
  intro p e s m args below meth c C hr hlk
  unfold X3_isColumn at hf
  refine j_iload_n C dX3_isColumn_0 rfl 0 rfl 1 rfl ?_
  refine j_iconst C dX3_isColumn_1 (v := 0) c_iconst_0 2 rfl ?_
  refine j_bipush C dX3_isColumn_2 (v := 6) c_bipush_6 4 rfl ?_
  refine j_callSi (As := [.int a0, .int 0, .int 6]) (rest := []) C (c_X3_within l g sz x mm a0 0 6 _ rfl) (j_cwS C qc_X3_within qm_X3_66 qs_X3_within qn_X3 hd_X3_within ⟨rfl, rfl⟩ ⟨by decide, by decide⟩)  rfl (Nat.le_of_ble_eq_true rfl) dX3_isColumn_4 7 rfl ?_
  subst hf
  exact j_zret C hr hlk (b01_X3_within ..) dX3_isColumn_7
set_option maxRecDepth 100000 in
set_option maxHeartbeats 4000000 in
theorem c_X3_isCell (l : Launch) (g : GG) (sz : Nat) (x mm : St) (a0 : Int32) (a1 : Int32) (r : Int32) (hf : X3_isCell a0 a1 = r) : Met l yX3_isCell (.code yX3_isCell cX3_isCell 2 (some .boolean) :: ALLW) (rmJ 2 42) (PcJ g sz x mm [.int a0, .int a1]) (QiJ g sz r x mm) 0 0 (Ag sz) := by
  refine j_met (own := RX3) (by decide) rfl (Nat.le_of_ble_eq_true rfl) rfl ?_
  intro p e s m args below meth c C hr hlk
  unfold X3_isCell at hf
  refine j_iload_n C dX3_isCell_0 rfl 0 rfl 1 rfl ?_
  refine j_callSi (As := [.int a0]) (rest := []) C (c_X3_isColumn l g sz x mm a0 _ rfl) (j_cwS C qc_X3_isColumn qm_X3_121 qs_X3_isColumn qn_X3 hd_X3_isColumn ⟨rfl, rfl⟩ ⟨by decide, by decide⟩)  rfl (Nat.le_of_ble_eq_true rfl) dX3_isCell_1 4 rfl ?_
  refine j_if_eq C dX3_isCell_4 20 (by decide) 7 rfl (fun c1 => ?_) (fun c1 => ?_)
  · rw [if_pos c1] at hf
    refine j_iconst C dX3_isCell_20 (v := 0) c_iconst_0 21 rfl ?_
    subst hf
    exact j_zret C hr hlk (Or.inl rfl) dX3_isCell_21
  · rw [if_neg c1] at hf
    refine j_iload_n C dX3_isCell_7 rfl 1 rfl 8 rfl ?_
    refine j_iconst C dX3_isCell_8 (v := 0) c_iconst_0 9 rfl ?_
    refine j_iconst C dX3_isCell_9 (v := 5) c_iconst_5 10 rfl ?_
    refine j_callSi (As := [.int a1, .int 0, .int 5]) (rest := []) C (c_X3_within l g sz x mm a1 0 5 _ rfl) (j_cwS C qc_X3_within qm_X3_66 qs_X3_within qn_X3 hd_X3_within ⟨rfl, rfl⟩ ⟨by decide, by decide⟩)  rfl (Nat.le_of_ble_eq_true rfl) dX3_isCell_10 13 rfl ?_
    refine j_if_eq C dX3_isCell_13 20 (by decide) 16 rfl (fun c2 => ?_) (fun c2 => ?_)
    · rw [if_pos c2] at hf
      refine j_iconst C dX3_isCell_20 (v := 0) c_iconst_0 21 rfl ?_
      subst hf
      exact j_zret C hr hlk (Or.inl rfl) dX3_isCell_21
    · rw [if_neg c2] at hf
      refine j_iconst C dX3_isCell_16 (v := 1) c_iconst_1 17 rfl ?_
      refine j_goto C dX3_isCell_17 21 (by decide) ?_
      subst hf
      exact j_zret C hr hlk (Or.inr rfl) dX3_isCell_21
set_option maxRecDepth 100000 in
set_option maxHeartbeats 4000000 in
theorem c_X3_cellOf (l : Launch) (g : GG) (sz : Nat) (x mm : St) (a0 : Int32) (a1 : Int32) (r : Int32) (hf : X3_cellOf a0 a1 = r) : Met l yX3_cellOf (.code yX3_cellOf cX3_cellOf 2 (some .int) :: ALLW) (rmJ 0 0) (PcJ g sz x mm [.int a0, .int a1]) (QiJ g sz r x mm) 0 0 (Ag sz) := by
  refine j_met (own := RX3) (by decide) rfl (Nat.le_of_ble_eq_true rfl) rfl ?_
  intro p e s m args below meth c C hr hlk
  unfold X3_cellOf at hf
  refine j_iload_n C dX3_cellOf_0 rfl 0 rfl 1 rfl ?_
  refine j_bipush C dX3_cellOf_1 (v := 6) c_bipush_6 3 rfl ?_
  refine j_imul C dX3_cellOf_3 4 rfl ?_
  refine j_iload_n C dX3_cellOf_4 rfl 1 rfl 5 rfl ?_
  refine j_iadd C dX3_cellOf_5 6 rfl ?_
  subst hf
  exact j_iret C hr hlk dX3_cellOf_6
set_option maxRecDepth 100000 in
set_option maxHeartbeats 4000000 in
theorem c_X3_lay (l : Launch) (g : GG) (sz : Nat) (S mm : St) (a1 : Int32) (a2 : Int32) (a3 : Int32) (r : Int32) (S' : St) (hf : X3_lay a1 a2 a3 S = some (r, S')) : Met l yX3_lay (.code yX3_lay cX3_lay 5 (some .int) :: ALLW) (rmJ 3 63) (PcJ g sz S mm [.ref (ad g 0), .int a1, .int a2, .int a3]) (QiJ g sz r S' mm) 0 0 (Ag sz) := by
  refine j_met (own := RX3) (by decide) rfl (Nat.le_of_ble_eq_true rfl) rfl ?_
  intro p e s m args below meth c C hr hlk
  unfold X3_lay at hf
  refine j_aload_n C dX3_lay_0 rfl 0 rfl 1 rfl ?_
  refine j_iload_n C dX3_lay_1 rfl 1 rfl 2 rfl ?_
  refine j_callVi (As := [.int a1]) (rest := []) C (c_X3_isCoin l g sz S mm  a1 _ rfl) (j_cwV C qc_X3_isCoin qm_X3_63 qi_X3_isCoin qs_X3_isCoin qn_X3 hd_X3_isCoin ⟨rfl, rfl⟩ ⟨by decide, by decide⟩) (rcv_pl.cell C.2) rfl (Nat.le_of_ble_eq_true rfl) dX3_lay_2 5 rfl ?_
  refine j_if_eq C dX3_lay_5 16 (by decide) 8 rfl (fun c1 => ?_) (fun c1 => ?_)
  · rw [if_pos c1] at hf
    refine j_aload_n C dX3_lay_16 rfl 0 rfl 17 rfl ?_
    refine j_iconst C dX3_lay_17 (v := 0) c_iconst_0 18 rfl ?_
    obtain ⟨⟨r3, S4⟩, hq2, hf⟩ := bnd hf
    dsimp only at hf
    refine j_callVi (As := [.int 0]) (rest := []) C (c_X3_found l g sz S mm  0 _ _ hq2) (j_cwV C qc_X3_found qm_X3_52 qi_X3_found qs_X3_found qn_X3 hd_X3_found ⟨rfl, rfl⟩ ⟨by decide, by decide⟩) (rcv_pl.cell C.2) rfl (Nat.le_of_ble_eq_true rfl) dX3_lay_18 21 rfl ?_
    obtain ⟨rfl, rfl⟩ := Prod.mk.inj (Option.some.inj hf)
    exact j_iret C hr hlk dX3_lay_21
  · rw [if_neg c1] at hf
    refine j_iload_n C dX3_lay_8 rfl 2 rfl 9 rfl ?_
    refine j_iload_n C dX3_lay_9 rfl 3 rfl 10 rfl ?_
    refine j_callSi (As := [.int a2, .int a3]) (rest := []) C (c_X3_isCell l g sz S mm a2 a3 _ rfl) (j_cwS C qc_X3_isCell qm_X3_88 qs_X3_isCell qn_X3 hd_X3_isCell ⟨rfl, rfl⟩ ⟨by decide, by decide⟩)  rfl (Nat.le_of_ble_eq_true rfl) dX3_lay_10 13 rfl ?_
    refine j_if_ne C dX3_lay_13 22 (by decide) 16 rfl (fun c5 => ?_) (fun c5 => ?_)
    · rw [if_neg c5] at hf
      refine j_aload_n C dX3_lay_22 rfl 0 rfl 23 rfl ?_
      refine j3_get C 0 (by decide) qf_X3_12 (v := .ref (ad g 1)) rfl dX3_lay_23 26 rfl ?_
      refine j3s_get (k := 1) rfl C 1 (by decide) qf_X3_92 (v := .ref (ad g 3)) rfl dX3_lay_26 29 rfl ?_
      refine j_iload_n C dX3_lay_29 rfl 1 rfl 30 rfl ?_
      obtain ⟨v6, hv6, hf⟩ := bnd hf
      refine j3s_ald (k := 1) rfl 2 (by decide) (by decide) C hv6 dX3_lay_30 31 rfl ?_
      refine j_bipush C dX3_lay_31 (v := 100) c_bipush_100 33 rfl ?_
      refine j_icmp_eq C dX3_lay_33 42 (by decide) 36 rfl (fun c7 => ?_) (fun c7 => ?_)
      · rw [if_pos c7] at hf
        refine j_iload_n C dX3_lay_42 rfl 2 rfl 43 rfl ?_
        refine j_iload_n C dX3_lay_43 rfl 3 rfl 44 rfl ?_
        refine j_callSi (As := [.int a2, .int a3]) (rest := []) C (c_X3_cellOf l g sz S mm a2 a3 _ rfl) (j_cwS C qc_X3_cellOf qm_X3_95 qs_X3_cellOf qn_X3 hd_X3_cellOf ⟨rfl, rfl⟩ ⟨by decide, by decide⟩)  rfl (Nat.le_of_ble_eq_true rfl) dX3_lay_44 47 rfl ?_
        refine j_istore (lv2 := [(4, .int (X3_cellOf a2 a3)), (0, .ref (ad g 0)), (1, .int a1), (2, .int a2), (3, .int a3)]) C dX3_lay_47 (by decide) rfl 49 rfl ?_
        refine j_aload_n C dX3_lay_49 rfl 1 rfl 50 rfl ?_
        refine j3_get C 0 (by decide) qf_X3_12 (v := .ref (ad g 1)) rfl dX3_lay_50 53 rfl ?_
        refine j_iload C dX3_lay_53 0 rfl 55 rfl ?_
        obtain ⟨r8, hr8, hf⟩ := bnd hf
        refine j_x (put_blk S 1 7).symm ?_
        refine j_callVi (As := [.int (X3_cellOf a2 a3)]) (rest := []) C (c_X1_hasRoom l g sz S mm 1 rfl (X3_cellOf a2 a3) (blk S 1) _ hr8) (j_cwV C qc_X1_hasRoom qm_X3_99 qi_X1_hasRoom qs_X1_hasRoom qn_X1 hd_X1_hasRoom ⟨rfl, rfl⟩ ⟨by decide, by decide⟩) ((rcv_sh rfl).cell C.2) rfl (Nat.le_of_ble_eq_true rfl) dX3_lay_55 58 rfl ?_
        refine j_x (put_blk S 1 7) ?_
        refine j_if_ne C dX3_lay_58 67 (by decide) 61 rfl (fun c9 => ?_) (fun c9 => ?_)
        · rw [if_neg c9] at hf
          refine j_aload_n C dX3_lay_67 rfl 1 rfl 68 rfl ?_
          refine j3_get C 0 (by decide) qf_X3_12 (v := .ref (ad g 1)) rfl dX3_lay_68 71 rfl ?_
          refine j_iload_n C dX3_lay_71 rfl 2 rfl 72 rfl ?_
          refine j_iload C dX3_lay_72 0 rfl 74 rfl ?_
          obtain ⟨T10, hT10, hf⟩ := bnd hf
          obtain ⟨S11, hS11, hf⟩ := bnd hf
          refine j_x (put_blk S 1 7).symm ?_
          refine j_callVv (As := [.int a1, .int (X3_cellOf a2 a3)]) (rest := []) C (c_X1_put l g sz S mm 1 rfl a1 (X3_cellOf a2 a3) (blk S 1) _ hT10) (j_cwV C qc_X1_put qm_X3_102 qi_X1_put qs_X1_put qn_X1 hd_X1_put ⟨rfl, rfl⟩ ⟨by decide, by decide⟩) ((rcv_sh rfl).cell C.2) rfl (Nat.le_of_ble_eq_true rfl) dX3_lay_74 77 rfl ?_
          rw [Option.some.inj hS11]
          refine j_aload_n C dX3_lay_77 rfl 1 rfl 78 rfl ?_
          refine j3_get C 0 (by decide) qf_X3_12 (v := .ref (ad g 1)) rfl dX3_lay_78 81 rfl ?_
          refine j3s_get (k := 1) rfl C 2 (by decide) qf_X3_106 (v := .ref (ad g 4)) rfl dX3_lay_81 84 rfl ?_
          refine j_iload C dX3_lay_84 0 rfl 86 rfl ?_
          obtain ⟨v12, hv12, hf⟩ := bnd hf
          refine j3s_ald (k := 1) rfl 3 (by decide) (by decide) C hv12 dX3_lay_86 87 rfl ?_
          obtain ⟨rfl, rfl⟩ := Prod.mk.inj (Option.some.inj hf)
          exact j_iret C hr hlk dX3_lay_87
        · rw [if_pos c9] at hf
          refine j_aload_n C dX3_lay_61 rfl 1 rfl 62 rfl ?_
          refine j_iconst C dX3_lay_62 (v := 1) c_iconst_1 63 rfl ?_
          obtain ⟨⟨r14, S15⟩, hq13, hf⟩ := bnd hf
          dsimp only at hf
          refine j_callVi (As := [.int 1]) (rest := []) C (c_X3_found l g sz S mm  1 _ _ hq13) (j_cwV C qc_X3_found qm_X3_52 qi_X3_found qs_X3_found qn_X3 hd_X3_found ⟨rfl, rfl⟩ ⟨by decide, by decide⟩) (rcv_pl.cell C.2) rfl (Nat.le_of_ble_eq_true rfl) dX3_lay_63 66 rfl ?_
          obtain ⟨rfl, rfl⟩ := Prod.mk.inj (Option.some.inj hf)
          exact j_iret C hr hlk dX3_lay_66
      · rw [if_neg c7] at hf
        refine j_aload_n C dX3_lay_36 rfl 0 rfl 37 rfl ?_
        refine j_iconst C dX3_lay_37 (v := 4) c_iconst_4 38 rfl ?_
        obtain ⟨⟨r17, S18⟩, hq16, hf⟩ := bnd hf
        dsimp only at hf
        refine j_callVi (As := [.int 4]) (rest := []) C (c_X3_found l g sz S mm  4 _ _ hq16) (j_cwV C qc_X3_found qm_X3_52 qi_X3_found qs_X3_found qn_X3 hd_X3_found ⟨rfl, rfl⟩ ⟨by decide, by decide⟩) (rcv_pl.cell C.2) rfl (Nat.le_of_ble_eq_true rfl) dX3_lay_38 41 rfl ?_
        obtain ⟨rfl, rfl⟩ := Prod.mk.inj (Option.some.inj hf)
        exact j_iret C hr hlk dX3_lay_41
    · rw [if_pos c5] at hf
      refine j_aload_n C dX3_lay_16 rfl 0 rfl 17 rfl ?_
      refine j_iconst C dX3_lay_17 (v := 0) c_iconst_0 18 rfl ?_
      obtain ⟨⟨r20, S21⟩, hq19, hf⟩ := bnd hf
      dsimp only at hf
      refine j_callVi (As := [.int 0]) (rest := []) C (c_X3_found l g sz S mm  0 _ _ hq19) (j_cwV C qc_X3_found qm_X3_52 qi_X3_found qs_X3_found qn_X3 hd_X3_found ⟨rfl, rfl⟩ ⟨by decide, by decide⟩) (rcv_pl.cell C.2) rfl (Nat.le_of_ble_eq_true rfl) dX3_lay_18 21 rfl ?_
      obtain ⟨rfl, rfl⟩ := Prod.mk.inj (Option.some.inj hf)
      exact j_iret C hr hlk dX3_lay_21
set_option maxRecDepth 100000 in
set_option maxHeartbeats 4000000 in
theorem c_X3_lift (l : Launch) (g : GG) (sz : Nat) (S mm : St) (a1 : Int32) (a2 : Int32) (r : Int32) (S' : St) (hf : X3_lift a1 a2 S = some (r, S')) : Met l yX3_lift (.code yX3_lift cX3_lift 4 (some .int) :: ALLW) (rmJ 3 63) (PcJ g sz S mm [.ref (ad g 0), .int a1, .int a2]) (QiJ g sz r S' mm) 0 0 (Ag sz) := by
  refine j_met (own := RX3) (by decide) rfl (Nat.le_of_ble_eq_true rfl) rfl ?_
  intro p e s m args below meth c C hr hlk
  unfold X3_lift at hf
  refine j_iload_n C dX3_lift_0 rfl 1 rfl 1 rfl ?_
  refine j_iload_n C dX3_lift_1 rfl 2 rfl 2 rfl ?_
  refine j_callSi (As := [.int a1, .int a2]) (rest := []) C (c_X3_isCell l g sz S mm a1 a2 _ rfl) (j_cwS C qc_X3_isCell qm_X3_88 qs_X3_isCell qn_X3 hd_X3_isCell ⟨rfl, rfl⟩ ⟨by decide, by decide⟩)  rfl (Nat.le_of_ble_eq_true rfl) dX3_lift_2 5 rfl ?_
  refine j_if_ne C dX3_lift_5 14 (by decide) 8 rfl (fun c1 => ?_) (fun c1 => ?_)
  · rw [if_neg c1] at hf
    refine j_iload_n C dX3_lift_14 rfl 1 rfl 15 rfl ?_
    refine j_iload_n C dX3_lift_15 rfl 2 rfl 16 rfl ?_
    refine j_callSi (As := [.int a1, .int a2]) (rest := []) C (c_X3_cellOf l g sz S mm a1 a2 _ rfl) (j_cwS C qc_X3_cellOf qm_X3_95 qs_X3_cellOf qn_X3 hd_X3_cellOf ⟨rfl, rfl⟩ ⟨by decide, by decide⟩)  rfl (Nat.le_of_ble_eq_true rfl) dX3_lift_16 19 rfl ?_
    refine j_istore_n (lv2 := [(3, .int (X3_cellOf a1 a2)), (0, .ref (ad g 0)), (1, .int a1), (2, .int a2)]) C dX3_lift_19 rfl (by decide) rfl 20 rfl ?_
    refine j_aload_n C dX3_lift_20 rfl 1 rfl 21 rfl ?_
    refine j3_get C 0 (by decide) qf_X3_12 (v := .ref (ad g 1)) rfl dX3_lift_21 24 rfl ?_
    refine j3s_get (k := 1) rfl C 2 (by decide) qf_X3_106 (v := .ref (ad g 4)) rfl dX3_lift_24 27 rfl ?_
    refine j_iload_n C dX3_lift_27 rfl 0 rfl 28 rfl ?_
    obtain ⟨v2, hv2, hf⟩ := bnd hf
    refine j3s_ald (k := 1) rfl 3 (by decide) (by decide) C hv2 dX3_lift_28 29 rfl ?_
    refine j_if_le C dX3_lift_29 43 (by decide) 32 rfl (fun c3 => ?_) (fun c3 => ?_)
    · rw [if_pos c3] at hf
      refine j_aload_n C dX3_lift_43 rfl 1 rfl 44 rfl ?_
      refine j_iconst C dX3_lift_44 (v := 3) c_iconst_3 45 rfl ?_
      obtain ⟨⟨r5, S6⟩, hq4, hf⟩ := bnd hf
      dsimp only at hf
      refine j_callVi (As := [.int 3]) (rest := []) C (c_X3_found l g sz S mm  3 _ _ hq4) (j_cwV C qc_X3_found qm_X3_52 qi_X3_found qs_X3_found qn_X3 hd_X3_found ⟨rfl, rfl⟩ ⟨by decide, by decide⟩) (rcv_pl.cell C.2) rfl (Nat.le_of_ble_eq_true rfl) dX3_lift_45 48 rfl ?_
      obtain ⟨rfl, rfl⟩ := Prod.mk.inj (Option.some.inj hf)
      exact j_iret C hr hlk dX3_lift_48
    · rw [if_neg c3] at hf
      refine j_aload_n C dX3_lift_32 rfl 1 rfl 33 rfl ?_
      refine j3_get C 0 (by decide) qf_X3_12 (v := .ref (ad g 1)) rfl dX3_lift_33 36 rfl ?_
      refine j_iload_n C dX3_lift_36 rfl 0 rfl 37 rfl ?_
      obtain ⟨⟨r8, T9⟩, hq7, hf⟩ := bnd hf
      dsimp only at hf
      obtain ⟨S10, hS10, hf⟩ := bnd hf
      refine j_x (put_blk S 1 7).symm ?_
      refine j_callVi (As := [.int (X3_cellOf a1 a2)]) (rest := []) C (c_X1_pull l g sz S mm 1 rfl (X3_cellOf a1 a2) (blk S 1) _ _ hq7) (j_cwV C qc_X1_pull qm_X3_109 qi_X1_pull qs_X1_pull qn_X1 hd_X1_pull ⟨rfl, rfl⟩ ⟨by decide, by decide⟩) ((rcv_sh rfl).cell C.2) rfl (Nat.le_of_ble_eq_true rfl) dX3_lift_37 40 rfl ?_
      rw [Option.some.inj hS10]
      refine j_goto C dX3_lift_40 48 (by decide) ?_
      obtain ⟨rfl, rfl⟩ := Prod.mk.inj (Option.some.inj hf)
      exact j_iret C hr hlk dX3_lift_48
  · rw [if_pos c1] at hf
    refine j_aload_n C dX3_lift_8 rfl 0 rfl 9 rfl ?_
    refine j_iconst C dX3_lift_9 (v := 0) c_iconst_0 10 rfl ?_
    obtain ⟨⟨r12, S13⟩, hq11, hf⟩ := bnd hf
    dsimp only at hf
    refine j_callVi (As := [.int 0]) (rest := []) C (c_X3_found l g sz S mm  0 _ _ hq11) (j_cwV C qc_X3_found qm_X3_52 qi_X3_found qs_X3_found qn_X3 hd_X3_found ⟨rfl, rfl⟩ ⟨by decide, by decide⟩) (rcv_pl.cell C.2) rfl (Nat.le_of_ble_eq_true rfl) dX3_lift_10 13 rfl ?_
    obtain ⟨rfl, rfl⟩ := Prod.mk.inj (Option.some.inj hf)
    exact j_iret C hr hlk dX3_lift_13
set_option maxRecDepth 100000 in
set_option maxHeartbeats 4000000 in
theorem c_X3_height (l : Launch) (g : GG) (sz : Nat) (S mm : St) (a1 : Int32) (a2 : Int32) (r : Int32) (S' : St) (hf : X3_height a1 a2 S = some (r, S')) : Met l yX3_height (.code yX3_height cX3_height 3 (some .int) :: ALLW) (rmJ 3 63) (PcJ g sz S mm [.ref (ad g 0), .int a1, .int a2]) (QiJ g sz r S' mm) 0 0 (Ag sz) := by
  refine j_met (own := RX3) (by decide) rfl (Nat.le_of_ble_eq_true rfl) rfl ?_
  intro p e s m args below meth c C hr hlk
  unfold X3_height at hf
  refine j_iload_n C dX3_height_0 rfl 1 rfl 1 rfl ?_
  refine j_iload_n C dX3_height_1 rfl 2 rfl 2 rfl ?_
  refine j_callSi (As := [.int a1, .int a2]) (rest := []) C (c_X3_isCell l g sz S mm a1 a2 _ rfl) (j_cwS C qc_X3_isCell qm_X3_88 qs_X3_isCell qn_X3 hd_X3_isCell ⟨rfl, rfl⟩ ⟨by decide, by decide⟩)  rfl (Nat.le_of_ble_eq_true rfl) dX3_height_2 5 rfl ?_
  refine j_if_eq C dX3_height_5 24 (by decide) 8 rfl (fun c1 => ?_) (fun c1 => ?_)
  · rw [if_pos c1] at hf
    refine j_aload_n C dX3_height_24 rfl 0 rfl 25 rfl ?_
    refine j_iconst C dX3_height_25 (v := 0) c_iconst_0 26 rfl ?_
    obtain ⟨⟨r3, S4⟩, hq2, hf⟩ := bnd hf
    dsimp only at hf
    refine j_callVi (As := [.int 0]) (rest := []) C (c_X3_found l g sz S mm  0 _ _ hq2) (j_cwV C qc_X3_found qm_X3_52 qi_X3_found qs_X3_found qn_X3 hd_X3_found ⟨rfl, rfl⟩ ⟨by decide, by decide⟩) (rcv_pl.cell C.2) rfl (Nat.le_of_ble_eq_true rfl) dX3_height_26 29 rfl ?_
    obtain ⟨rfl, rfl⟩ := Prod.mk.inj (Option.some.inj hf)
    exact j_iret C hr hlk dX3_height_29
  · rw [if_neg c1] at hf
    refine j_aload_n C dX3_height_8 rfl 0 rfl 9 rfl ?_
    refine j3_get C 0 (by decide) qf_X3_12 (v := .ref (ad g 1)) rfl dX3_height_9 12 rfl ?_
    refine j3s_get (k := 1) rfl C 2 (by decide) qf_X3_106 (v := .ref (ad g 4)) rfl dX3_height_12 15 rfl ?_
    refine j_iload_n C dX3_height_15 rfl 1 rfl 16 rfl ?_
    refine j_iload_n C dX3_height_16 rfl 2 rfl 17 rfl ?_
    refine j_callSi (As := [.int a1, .int a2]) (rest := [.ref (ad g 4)]) C (c_X3_cellOf l g sz S mm a1 a2 _ rfl) (j_cwS C qc_X3_cellOf qm_X3_95 qs_X3_cellOf qn_X3 hd_X3_cellOf ⟨rfl, rfl⟩ ⟨by decide, by decide⟩)  rfl (Nat.le_of_ble_eq_true rfl) dX3_height_17 20 rfl ?_
    obtain ⟨v5, hv5, hf⟩ := bnd hf
    refine j3s_ald (k := 1) rfl 3 (by decide) (by decide) C hv5 dX3_height_20 21 rfl ?_
    refine j_goto C dX3_height_21 29 (by decide) ?_
    obtain ⟨rfl, rfl⟩ := Prod.mk.inj (Option.some.inj hf)
    exact j_iret C hr hlk dX3_height_29
set_option maxRecDepth 100000 in
set_option maxHeartbeats 4000000 in
theorem c_X3_seen (l : Launch) (g : GG) (sz : Nat) (S mm : St) (a1 : Int32) (a2 : Int32) (a3 : Int32) (r : Int32) (S' : St) (hf : X3_seen a1 a2 a3 S = some (r, S')) : Met l yX3_seen (.code yX3_seen cX3_seen 5 (some .int) :: ALLW) (rmJ 3 63) (PcJ g sz S mm [.ref (ad g 0), .int a1, .int a2, .int a3]) (QiJ g sz r S' mm) 0 0 (Ag sz) := by
  refine j_met (own := RX3) (by decide) rfl (Nat.le_of_ble_eq_true rfl) rfl ?_
  intro p e s m args below meth c C hr hlk
  unfold X3_seen at hf
  refine j_iload_n C dX3_seen_0 rfl 1 rfl 1 rfl ?_
  refine j_iload_n C dX3_seen_1 rfl 2 rfl 2 rfl ?_
  refine j_callSi (As := [.int a1, .int a2]) (rest := []) C (c_X3_isCell l g sz S mm a1 a2 _ rfl) (j_cwS C qc_X3_isCell qm_X3_88 qs_X3_isCell qn_X3 hd_X3_isCell ⟨rfl, rfl⟩ ⟨by decide, by decide⟩)  rfl (Nat.le_of_ble_eq_true rfl) dX3_seen_2 5 rfl ?_
  refine j_if_eq C dX3_seen_5 17 (by decide) 8 rfl (fun c1 => ?_) (fun c1 => ?_)
  · rw [if_pos c1] at hf
    refine j_aload_n C dX3_seen_17 rfl 0 rfl 18 rfl ?_
    refine j_iconst C dX3_seen_18 (v := 0) c_iconst_0 19 rfl ?_
    obtain ⟨⟨r3, S4⟩, hq2, hf⟩ := bnd hf
    dsimp only at hf
    refine j_callVi (As := [.int 0]) (rest := []) C (c_X3_found l g sz S mm  0 _ _ hq2) (j_cwV C qc_X3_found qm_X3_52 qi_X3_found qs_X3_found qn_X3 hd_X3_found ⟨rfl, rfl⟩ ⟨by decide, by decide⟩) (rcv_pl.cell C.2) rfl (Nat.le_of_ble_eq_true rfl) dX3_seen_19 22 rfl ?_
    obtain ⟨rfl, rfl⟩ := Prod.mk.inj (Option.some.inj hf)
    exact j_iret C hr hlk dX3_seen_22
  · rw [if_neg c1] at hf
    refine j_iload_n C dX3_seen_8 rfl 3 rfl 9 rfl ?_
    refine j_iconst C dX3_seen_9 (v := 0) c_iconst_0 10 rfl ?_
    refine j_iconst C dX3_seen_10 (v := 3) c_iconst_3 11 rfl ?_
    refine j_callSi (As := [.int a3, .int 0, .int 3]) (rest := []) C (c_X3_within l g sz S mm a3 0 3 _ rfl) (j_cwS C qc_X3_within qm_X3_66 qs_X3_within qn_X3 hd_X3_within ⟨rfl, rfl⟩ ⟨by decide, by decide⟩)  rfl (Nat.le_of_ble_eq_true rfl) dX3_seen_11 14 rfl ?_
    refine j_if_ne C dX3_seen_14 23 (by decide) 17 rfl (fun c5 => ?_) (fun c5 => ?_)
    · rw [if_neg c5] at hf
      refine j_iload_n C dX3_seen_23 rfl 1 rfl 24 rfl ?_
      refine j_iload_n C dX3_seen_24 rfl 2 rfl 25 rfl ?_
      refine j_callSi (As := [.int a1, .int a2]) (rest := []) C (c_X3_cellOf l g sz S mm a1 a2 _ rfl) (j_cwS C qc_X3_cellOf qm_X3_95 qs_X3_cellOf qn_X3 hd_X3_cellOf ⟨rfl, rfl⟩ ⟨by decide, by decide⟩)  rfl (Nat.le_of_ble_eq_true rfl) dX3_seen_25 28 rfl ?_
      refine j_istore (lv2 := [(4, .int (X3_cellOf a1 a2)), (0, .ref (ad g 0)), (1, .int a1), (2, .int a2), (3, .int a3)]) C dX3_seen_28 (by decide) rfl 30 rfl ?_
      refine j_iload_n C dX3_seen_30 rfl 4 rfl 31 rfl ?_
      refine j_aload_n C dX3_seen_31 rfl 1 rfl 32 rfl ?_
      refine j3_get C 0 (by decide) qf_X3_12 (v := .ref (ad g 1)) rfl dX3_seen_32 35 rfl ?_
      refine j3s_get (k := 1) rfl C 2 (by decide) qf_X3_106 (v := .ref (ad g 4)) rfl dX3_seen_35 38 rfl ?_
      refine j_iload C dX3_seen_38 0 rfl 40 rfl ?_
      obtain ⟨v6, hv6, hf⟩ := bnd hf
      refine j3s_ald (k := 1) rfl 3 (by decide) (by decide) C hv6 dX3_seen_40 41 rfl ?_
      refine j_icmp_ge C dX3_seen_41 61 (by decide) 44 rfl (fun c7 => ?_) (fun c7 => ?_)
      · rw [if_pos c7] at hf
        refine j_aload_n C dX3_seen_61 rfl 1 rfl 62 rfl ?_
        refine j_iconst C dX3_seen_62 (v := 3) c_iconst_3 63 rfl ?_
        obtain ⟨⟨r9, S10⟩, hq8, hf⟩ := bnd hf
        dsimp only at hf
        refine j_callVi (As := [.int 3]) (rest := []) C (c_X3_found l g sz S mm  3 _ _ hq8) (j_cwV C qc_X3_found qm_X3_52 qi_X3_found qs_X3_found qn_X3 hd_X3_found ⟨rfl, rfl⟩ ⟨by decide, by decide⟩) (rcv_pl.cell C.2) rfl (Nat.le_of_ble_eq_true rfl) dX3_seen_63 66 rfl ?_
        obtain ⟨rfl, rfl⟩ := Prod.mk.inj (Option.some.inj hf)
        exact j_iret C hr hlk dX3_seen_66
      · rw [if_neg c7] at hf
        refine j_aload_n C dX3_seen_44 rfl 1 rfl 45 rfl ?_
        refine j3_get C 0 (by decide) qf_X3_12 (v := .ref (ad g 1)) rfl dX3_seen_45 48 rfl ?_
        refine j3s_get (k := 1) rfl C 3 (by decide) qf_X3_112 (v := .ref (ad g 5)) rfl dX3_seen_48 51 rfl ?_
        refine j_iload C dX3_seen_51 0 rfl 53 rfl ?_
        refine j_iconst C dX3_seen_53 (v := 4) c_iconst_4 54 rfl ?_
        refine j_imul C dX3_seen_54 55 rfl ?_
        refine j_iload_n C dX3_seen_55 rfl 4 rfl 56 rfl ?_
        refine j_iadd C dX3_seen_56 57 rfl ?_
        obtain ⟨v11, hv11, hf⟩ := bnd hf
        refine j3s_ald (k := 1) rfl 4 (by decide) (by decide) C hv11 dX3_seen_57 58 rfl ?_
        refine j_goto C dX3_seen_58 66 (by decide) ?_
        obtain ⟨rfl, rfl⟩ := Prod.mk.inj (Option.some.inj hf)
        exact j_iret C hr hlk dX3_seen_66
    · rw [if_pos c5] at hf
      refine j_aload_n C dX3_seen_17 rfl 0 rfl 18 rfl ?_
      refine j_iconst C dX3_seen_18 (v := 0) c_iconst_0 19 rfl ?_
      obtain ⟨⟨r13, S14⟩, hq12, hf⟩ := bnd hf
      dsimp only at hf
      refine j_callVi (As := [.int 0]) (rest := []) C (c_X3_found l g sz S mm  0 _ _ hq12) (j_cwV C qc_X3_found qm_X3_52 qi_X3_found qs_X3_found qn_X3 hd_X3_found ⟨rfl, rfl⟩ ⟨by decide, by decide⟩) (rcv_pl.cell C.2) rfl (Nat.le_of_ble_eq_true rfl) dX3_seen_19 22 rfl ?_
      obtain ⟨rfl, rfl⟩ := Prod.mk.inj (Option.some.inj hf)
      exact j_iret C hr hlk dX3_seen_22
set_option maxRecDepth 100000 in
set_option maxHeartbeats 4000000 in
theorem c_X3_isSetting (l : Launch) (g : GG) (sz : Nat) (x mm : St) (a0 : Int32) (a1 : Int32) (r : Int32) (hf : X3_isSetting a0 a1 = some r) : Met l yX3_isSetting (.code yX3_isSetting cX3_isSetting 2 (some .boolean) :: ALLW) (rmJ 1 22) (PcJ g sz x mm [.int a0, .int a1]) (QiJ g sz r x mm) 0 0 (Ag sz) := by
  refine j_met (own := RX3) (by decide) rfl (Nat.le_of_ble_eq_true rfl) rfl ?_
  intro p e s m args below meth c C hr hlk
  unfold X3_isSetting at hf
  refine j_iload_n C dX3_isSetting_0 rfl 1 rfl 1 rfl ?_
  refine j_gets C 4 (by decide) qf_X3_223 dX3_isSetting_1 4 rfl ?_
  refine j_iload_n C dX3_isSetting_4 rfl 0 rfl 5 rfl ?_
  obtain ⟨v1, hv1, hf⟩ := bnd hf
  refine j_sald C 4 (by decide) hv1 dX3_isSetting_5 6 rfl ?_
  refine j_gets C 5 (by decide) qf_X3_226 dX3_isSetting_6 9 rfl ?_
  refine j_iload_n C dX3_isSetting_9 rfl 0 rfl 10 rfl ?_
  obtain ⟨v2, hv2, hf⟩ := bnd hf
  refine j_sald C 5 (by decide) hv2 dX3_isSetting_10 11 rfl ?_
  refine j_callSi (As := [.int a1, .int v1, .int v2]) (rest := []) C (c_X3_within l g sz x mm a1 v1 v2 _ rfl) (j_cwS C qc_X3_within qm_X3_66 qs_X3_within qn_X3 hd_X3_within ⟨rfl, rfl⟩ ⟨by decide, by decide⟩)  rfl (Nat.le_of_ble_eq_true rfl) dX3_isSetting_11 14 rfl ?_
  obtain rfl := Option.some.inj hf
  exact j_zret C hr hlk (b01_X3_within ..) dX3_isSetting_14
set_option maxRecDepth 100000 in
set_option maxHeartbeats 4000000 in
theorem c_X3_set (l : Launch) (g : GG) (sz : Nat) (S mm : St) (a1 : Int32) (a2 : Int32) (r : Int32) (S' : St) (hf : X3_set a1 a2 S = some (r, S')) : Met l yX3_set (.code yX3_set cX3_set 4 (some .int) :: ALLW) (rmJ 2 43) (PcJ g sz S mm [.ref (ad g 0), .int a1, .int a2]) (QiJ g sz r S' mm) 0 0 (Ag sz) := by
  refine j_met (own := RX3) (by decide) rfl (Nat.le_of_ble_eq_true rfl) rfl ?_
  intro p e s m args below meth c C hr hlk
  unfold X3_set at hf
  refine j_iload_n C dX3_set_0 rfl 1 rfl 1 rfl ?_
  refine j_iconst C dX3_set_1 (v := 0) c_iconst_0 2 rfl ?_
  refine j_iconst C dX3_set_2 (v := 2) c_iconst_2 3 rfl ?_
  refine j_callSi (As := [.int a1, .int 0, .int 2]) (rest := []) C (c_X3_within l g sz S mm a1 0 2 _ rfl) (j_cwS C qc_X3_within qm_X3_66 qs_X3_within qn_X3 hd_X3_within ⟨rfl, rfl⟩ ⟨by decide, by decide⟩)  rfl (Nat.le_of_ble_eq_true rfl) dX3_set_3 6 rfl ?_
  refine j_if_eq C dX3_set_6 17 (by decide) 9 rfl (fun c1 => ?_) (fun c1 => ?_)
  · rw [if_pos c1] at hf
    refine j_aload_n C dX3_set_17 rfl 0 rfl 18 rfl ?_
    refine j_iconst C dX3_set_18 (v := 0) c_iconst_0 19 rfl ?_
    obtain ⟨⟨r3, S4⟩, hq2, hf⟩ := bnd hf
    dsimp only at hf
    refine j_callVi (As := [.int 0]) (rest := []) C (c_X3_found l g sz S mm  0 _ _ hq2) (j_cwV C qc_X3_found qm_X3_52 qi_X3_found qs_X3_found qn_X3 hd_X3_found ⟨rfl, rfl⟩ ⟨by decide, by decide⟩) (rcv_pl.cell C.2) rfl (Nat.le_of_ble_eq_true rfl) dX3_set_19 22 rfl ?_
    obtain ⟨rfl, rfl⟩ := Prod.mk.inj (Option.some.inj hf)
    exact j_iret C hr hlk dX3_set_22
  · rw [if_neg c1] at hf
    refine j_iload_n C dX3_set_9 rfl 1 rfl 10 rfl ?_
    refine j_iload_n C dX3_set_10 rfl 2 rfl 11 rfl ?_
    obtain ⟨r5, hr5, hf⟩ := bnd hf
    refine j_callSi (As := [.int a1, .int a2]) (rest := []) C (c_X3_isSetting l g sz S mm a1 a2 _ hr5) (j_cwS C qc_X3_isSetting qm_X3_115 qs_X3_isSetting qn_X3 hd_X3_isSetting ⟨rfl, rfl⟩ ⟨by decide, by decide⟩)  rfl (Nat.le_of_ble_eq_true rfl) dX3_set_11 14 rfl ?_
    refine j_if_ne C dX3_set_14 23 (by decide) 17 rfl (fun c6 => ?_) (fun c6 => ?_)
    · rw [if_neg c6] at hf
      refine j_aload_n C dX3_set_23 rfl 0 rfl 24 rfl ?_
      refine j3_get C 0 (by decide) qf_X3_12 (v := .ref (ad g 1)) rfl dX3_set_24 27 rfl ?_
      refine j3s_get (k := 1) rfl C 4 (by decide) qf_X3_118 (v := .ref (ad g 6)) rfl dX3_set_27 30 rfl ?_
      refine j_iload_n C dX3_set_30 rfl 1 rfl 31 rfl ?_
      obtain ⟨v7, hv7, hf⟩ := bnd hf
      refine j3s_ald (k := 1) rfl 5 (by decide) (by decide) C hv7 dX3_set_31 32 rfl ?_
      refine j_istore_n (lv2 := [(3, .int v7), (0, .ref (ad g 0)), (1, .int a1), (2, .int a2)]) C dX3_set_32 rfl (by decide) rfl 33 rfl ?_
      refine j_aload_n C dX3_set_33 rfl 1 rfl 34 rfl ?_
      refine j3_get C 0 (by decide) qf_X3_12 (v := .ref (ad g 1)) rfl dX3_set_34 37 rfl ?_
      refine j3s_get (k := 1) rfl C 4 (by decide) qf_X3_118 (v := .ref (ad g 6)) rfl dX3_set_37 40 rfl ?_
      refine j_iload_n C dX3_set_40 rfl 2 rfl 41 rfl ?_
      refine j_iload_n C dX3_set_41 rfl 3 rfl 42 rfl ?_
      obtain ⟨S8, hS8, hf⟩ := bnd hf
      refine j3s_ast (k := 1) rfl 5 (by decide) (by decide) C hS8 dX3_set_42 43 rfl ?_
      refine j_iload_n C dX3_set_43 rfl 0 rfl 44 rfl ?_
      obtain ⟨rfl, rfl⟩ := Prod.mk.inj (Option.some.inj hf)
      exact j_iret C hr hlk dX3_set_44
    · rw [if_pos c6] at hf
      refine j_aload_n C dX3_set_17 rfl 0 rfl 18 rfl ?_
      refine j_iconst C dX3_set_18 (v := 0) c_iconst_0 19 rfl ?_
      obtain ⟨⟨r10, S11⟩, hq9, hf⟩ := bnd hf
      dsimp only at hf
      refine j_callVi (As := [.int 0]) (rest := []) C (c_X3_found l g sz S mm  0 _ _ hq9) (j_cwV C qc_X3_found qm_X3_52 qi_X3_found qs_X3_found qn_X3 hd_X3_found ⟨rfl, rfl⟩ ⟨by decide, by decide⟩) (rcv_pl.cell C.2) rfl (Nat.le_of_ble_eq_true rfl) dX3_set_19 22 rfl ?_
      obtain ⟨rfl, rfl⟩ := Prod.mk.inj (Option.some.inj hf)
      exact j_iret C hr hlk dX3_set_22
set_option maxRecDepth 100000 in
set_option maxHeartbeats 4000000 in
theorem c_X3_passesEnd (l : Launch) (g : GG) (sz : Nat) (S mm : St) (a1 : Int32) (r : Int32) (hf : X3_passesEnd a1 S = r) : Met l yX3_passesEnd (.code yX3_passesEnd cX3_passesEnd 2 (some .boolean) :: ALLW) (rmJ 0 0) (PcJ g sz S mm [.ref (ad g 0), .int a1]) (QiJ g sz r S mm) 0 0 (Ag sz) := by
  refine j_met (own := RX3) (by decide) rfl (Nat.le_of_ble_eq_true rfl) rfl ?_
  intro p e s m args below meth c C hr hlk
  unfold X3_passesEnd at hf
  refine j_aload_n C dX3_passesEnd_0 rfl 0 rfl 1 rfl ?_
  refine j3_get C 0 (by decide) qf_X3_12 (v := .ref (ad g 1)) rfl dX3_passesEnd_1 4 rfl ?_
  refine j3s_get (k := 1) rfl C 7 (by decide) qf_X3_141 (v := .int (S 1 7)) rfl dX3_passesEnd_4 7 rfl ?_
  refine j_iload_n C dX3_passesEnd_7 rfl 1 rfl 8 rfl ?_
  refine j_iadd C dX3_passesEnd_8 9 rfl ?_
  refine j_sipush C dX3_passesEnd_9 (v := 9999) c_sipush_9999 12 rfl ?_
  refine j_icmp_le C dX3_passesEnd_12 19 (by decide) 15 rfl (fun c1 => ?_) (fun c1 => ?_)
  · rw [if_pos c1] at hf
    refine j_iconst C dX3_passesEnd_19 (v := 0) c_iconst_0 20 rfl ?_
    subst hf
    exact j_zret C hr hlk (Or.inl rfl) dX3_passesEnd_20
  · rw [if_neg c1] at hf
    refine j_iconst C dX3_passesEnd_15 (v := 1) c_iconst_1 16 rfl ?_
    refine j_goto C dX3_passesEnd_16 20 (by decide) ?_
    subst hf
    exact j_zret C hr hlk (Or.inr rfl) dX3_passesEnd_20
set_option maxRecDepth 100000 in
set_option maxHeartbeats 4000000 in
theorem c_X3_drop (l : Launch) (g : GG) (sz : Nat) (S mm : St) (a1 : Int32) (a2 : Int32) (r : Int32) (S' : St) (hf : X3_drop a1 a2 S = some (r, S')) : Met l yX3_drop (.code yX3_drop cX3_drop 4 (some .int) :: ALLW) (rmJ 5 116) (PcJ g sz S mm [.ref (ad g 0), .int a1, .int a2]) (QiJ g sz r S' mm) 0 0 (Ag sz) := by
  refine j_met (own := RX3) (by decide) rfl (Nat.le_of_ble_eq_true rfl) rfl ?_
  intro p e s m args below meth c C hr hlk
  unfold X3_drop at hf
  refine j_aload_n C dX3_drop_0 rfl 0 rfl 1 rfl ?_
  refine j_iload_n C dX3_drop_1 rfl 1 rfl 2 rfl ?_
  refine j_callVi (As := [.int a1]) (rest := []) C (c_X3_isCoin l g sz S mm  a1 _ rfl) (j_cwV C qc_X3_isCoin qm_X3_63 qi_X3_isCoin qs_X3_isCoin qn_X3 hd_X3_isCoin ⟨rfl, rfl⟩ ⟨by decide, by decide⟩) (rcv_pl.cell C.2) rfl (Nat.le_of_ble_eq_true rfl) dX3_drop_2 5 rfl ?_
  refine j_if_eq C dX3_drop_5 15 (by decide) 8 rfl (fun c1 => ?_) (fun c1 => ?_)
  · rw [if_pos c1] at hf
    refine j_aload_n C dX3_drop_15 rfl 0 rfl 16 rfl ?_
    refine j_iconst C dX3_drop_16 (v := 0) c_iconst_0 17 rfl ?_
    obtain ⟨⟨r3, S4⟩, hq2, hf⟩ := bnd hf
    dsimp only at hf
    refine j_callVi (As := [.int 0]) (rest := []) C (c_X3_found l g sz S mm  0 _ _ hq2) (j_cwV C qc_X3_found qm_X3_52 qi_X3_found qs_X3_found qn_X3 hd_X3_found ⟨rfl, rfl⟩ ⟨by decide, by decide⟩) (rcv_pl.cell C.2) rfl (Nat.le_of_ble_eq_true rfl) dX3_drop_17 20 rfl ?_
    obtain ⟨rfl, rfl⟩ := Prod.mk.inj (Option.some.inj hf)
    exact j_iret C hr hlk dX3_drop_20
  · rw [if_neg c1] at hf
    refine j_iload_n C dX3_drop_8 rfl 2 rfl 9 rfl ?_
    refine j_callSi (As := [.int a2]) (rest := []) C (c_X3_isColumn l g sz S mm a2 _ rfl) (j_cwS C qc_X3_isColumn qm_X3_121 qs_X3_isColumn qn_X3 hd_X3_isColumn ⟨rfl, rfl⟩ ⟨by decide, by decide⟩)  rfl (Nat.le_of_ble_eq_true rfl) dX3_drop_9 12 rfl ?_
    refine j_if_ne C dX3_drop_12 21 (by decide) 15 rfl (fun c5 => ?_) (fun c5 => ?_)
    · rw [if_neg c5] at hf
      refine j_aload_n C dX3_drop_21 rfl 0 rfl 22 rfl ?_
      refine j3_get C 0 (by decide) qf_X3_12 (v := .ref (ad g 1)) rfl dX3_drop_22 25 rfl ?_
      refine j3s_get (k := 1) rfl C 1 (by decide) qf_X3_92 (v := .ref (ad g 3)) rfl dX3_drop_25 28 rfl ?_
      refine j_iload_n C dX3_drop_28 rfl 1 rfl 29 rfl ?_
      obtain ⟨v6, hv6, hf⟩ := bnd hf
      refine j3s_ald (k := 1) rfl 2 (by decide) (by decide) C hv6 dX3_drop_29 30 rfl ?_
      refine j_bipush C dX3_drop_30 (v := 100) c_bipush_100 32 rfl ?_
      refine j_icmp_ne C dX3_drop_32 43 (by decide) 35 rfl (fun c7 => ?_) (fun c7 => ?_)
      · rw [if_neg c7] at hf
        refine j_aload_n C dX3_drop_43 rfl 0 rfl 44 rfl ?_
        refine j_iconst C dX3_drop_44 (v := 4) c_iconst_4 45 rfl ?_
        obtain ⟨⟨r9, S10⟩, hq8, hf⟩ := bnd hf
        dsimp only at hf
        refine j_callVi (As := [.int 4]) (rest := []) C (c_X3_found l g sz S mm  4 _ _ hq8) (j_cwV C qc_X3_found qm_X3_52 qi_X3_found qs_X3_found qn_X3 hd_X3_found ⟨rfl, rfl⟩ ⟨by decide, by decide⟩) (rcv_pl.cell C.2) rfl (Nat.le_of_ble_eq_true rfl) dX3_drop_45 48 rfl ?_
        obtain ⟨rfl, rfl⟩ := Prod.mk.inj (Option.some.inj hf)
        exact j_iret C hr hlk dX3_drop_48
      · rw [if_pos c7] at hf
        refine j_aload_n C dX3_drop_35 rfl 0 rfl 36 rfl ?_
        refine j_iconst C dX3_drop_36 (v := 1) c_iconst_1 37 rfl ?_
        refine j_callVi (As := [.int 1]) (rest := []) C (c_X3_passesEnd l g sz S mm  1 _ rfl) (j_cwV C qc_X3_passesEnd qm_X3_124 qi_X3_passesEnd qs_X3_passesEnd qn_X3 hd_X3_passesEnd ⟨rfl, rfl⟩ ⟨by decide, by decide⟩) (rcv_pl.cell C.2) rfl (Nat.le_of_ble_eq_true rfl) dX3_drop_37 40 rfl ?_
        refine j_if_eq C dX3_drop_40 49 (by decide) 43 rfl (fun c11 => ?_) (fun c11 => ?_)
        · rw [if_pos c11] at hf
          refine j_aload_n C dX3_drop_49 rfl 0 rfl 50 rfl ?_
          refine j3_get C 0 (by decide) qf_X3_12 (v := .ref (ad g 1)) rfl dX3_drop_50 53 rfl ?_
          obtain ⟨r12, hr12, hf⟩ := bnd hf
          refine j_x (put_blk S 1 7).symm ?_
          refine j_callVi (As := []) (rest := []) C (c_X1_gain l g sz S mm 1 rfl  (blk S 1) _ hr12) (j_cwV C qc_X1_gain qm_X3_127 qi_X1_gain qs_X1_gain qn_X1 hd_X1_gain ⟨rfl, rfl⟩ ⟨by decide, by decide⟩) ((rcv_sh rfl).cell C.2) rfl (Nat.le_of_ble_eq_true rfl) dX3_drop_53 56 rfl ?_
          refine j_x (put_blk S 1 7) ?_
          refine j_istore_n (lv2 := [(3, .int r12), (0, .ref (ad g 0)), (1, .int a1), (2, .int a2)]) C dX3_drop_56 rfl (by decide) rfl 57 rfl ?_
          refine j_aload_n C dX3_drop_57 rfl 1 rfl 58 rfl ?_
          refine j3_get C 0 (by decide) qf_X3_12 (v := .ref (ad g 1)) rfl dX3_drop_58 61 rfl ?_
          refine j_iload_n C dX3_drop_61 rfl 2 rfl 62 rfl ?_
          refine j_iload_n C dX3_drop_62 rfl 3 rfl 63 rfl ?_
          obtain ⟨T13, hT13, hf⟩ := bnd hf
          obtain ⟨S14, hS14, hf⟩ := bnd hf
          refine j_x (put_blk S 1 7).symm ?_
          refine j_callVv (As := [.int a1, .int a2]) (rest := []) C (c_X1_release l g sz S mm 1 rfl a1 a2 (blk S 1) _ hT13) (j_cwV C qc_X1_release qm_X3_131 qi_X1_release qs_X1_release qn_X1 hd_X1_release ⟨rfl, rfl⟩ ⟨by decide, by decide⟩) ((rcv_sh rfl).cell C.2) rfl (Nat.le_of_ble_eq_true rfl) dX3_drop_63 66 rfl ?_
          rw [Option.some.inj hS14]
          refine j_aload_n C dX3_drop_66 rfl 1 rfl 67 rfl ?_
          refine j3_get C 0 (by decide) qf_X3_12 (v := .ref (ad g 1)) rfl dX3_drop_67 70 rfl ?_
          obtain ⟨r15, hr15, hf⟩ := bnd hf
          refine j_x (put_blk S14 1 7).symm ?_
          refine j_callVi (As := []) (rest := []) C (c_X1_gain l g sz S14 mm 1 rfl  (blk S14 1) _ hr15) (j_cwV C qc_X1_gain qm_X3_127 qi_X1_gain qs_X1_gain qn_X1 hd_X1_gain ⟨rfl, rfl⟩ ⟨by decide, by decide⟩) ((rcv_sh rfl).cell C.2) rfl (Nat.le_of_ble_eq_true rfl) dX3_drop_70 73 rfl ?_
          refine j_x (put_blk S14 1 7) ?_
          refine j_iload_n C dX3_drop_73 rfl 0 rfl 74 rfl ?_
          refine j_isub C dX3_drop_74 75 rfl ?_
          obtain ⟨rfl, rfl⟩ := Prod.mk.inj (Option.some.inj hf)
          exact j_iret C hr hlk dX3_drop_75
        · rw [if_neg c11] at hf
          refine j_aload_n C dX3_drop_43 rfl 0 rfl 44 rfl ?_
          refine j_iconst C dX3_drop_44 (v := 4) c_iconst_4 45 rfl ?_
          obtain ⟨⟨r17, S18⟩, hq16, hf⟩ := bnd hf
          dsimp only at hf
          refine j_callVi (As := [.int 4]) (rest := []) C (c_X3_found l g sz S mm  4 _ _ hq16) (j_cwV C qc_X3_found qm_X3_52 qi_X3_found qs_X3_found qn_X3 hd_X3_found ⟨rfl, rfl⟩ ⟨by decide, by decide⟩) (rcv_pl.cell C.2) rfl (Nat.le_of_ble_eq_true rfl) dX3_drop_45 48 rfl ?_
          obtain ⟨rfl, rfl⟩ := Prod.mk.inj (Option.some.inj hf)
          exact j_iret C hr hlk dX3_drop_48
    · rw [if_pos c5] at hf
      refine j_aload_n C dX3_drop_15 rfl 0 rfl 16 rfl ?_
      refine j_iconst C dX3_drop_16 (v := 0) c_iconst_0 17 rfl ?_
      obtain ⟨⟨r20, S21⟩, hq19, hf⟩ := bnd hf
      dsimp only at hf
      refine j_callVi (As := [.int 0]) (rest := []) C (c_X3_found l g sz S mm  0 _ _ hq19) (j_cwV C qc_X3_found qm_X3_52 qi_X3_found qs_X3_found qn_X3 hd_X3_found ⟨rfl, rfl⟩ ⟨by decide, by decide⟩) (rcv_pl.cell C.2) rfl (Nat.le_of_ble_eq_true rfl) dX3_drop_17 20 rfl ?_
      obtain ⟨rfl, rfl⟩ := Prod.mk.inj (Option.some.inj hf)
      exact j_iret C hr hlk dX3_drop_20
set_option maxRecDepth 100000 in
set_option maxHeartbeats 4000000 in
theorem c_X3_beats (l : Launch) (g : GG) (sz : Nat) (S mm : St) (a1 : Int32) (r : Int32) (S' : St) (hf : X3_beats a1 S = some (r, S')) : Met l yX3_beats (.code yX3_beats cX3_beats 3 (some .int) :: ALLW) (rmJ 5 116) (PcJ g sz S mm [.ref (ad g 0), .int a1]) (QiJ g sz r S' mm) 0 0 (Ag sz) := by
  refine j_met (own := RX3) (by decide) rfl (Nat.le_of_ble_eq_true rfl) rfl ?_
  intro p e s m args below meth c C hr hlk
  unfold X3_beats at hf
  refine j_iload_n C dX3_beats_0 rfl 1 rfl 1 rfl ?_
  refine j_iconst C dX3_beats_1 (v := 1) c_iconst_1 2 rfl ?_
  refine j_bipush C dX3_beats_2 (v := 60) c_bipush_60 4 rfl ?_
  refine j_callSi (As := [.int a1, .int 1, .int 60]) (rest := []) C (c_X3_within l g sz S mm a1 1 60 _ rfl) (j_cwS C qc_X3_within qm_X3_66 qs_X3_within qn_X3 hd_X3_within ⟨rfl, rfl⟩ ⟨by decide, by decide⟩)  rfl (Nat.le_of_ble_eq_true rfl) dX3_beats_4 7 rfl ?_
  refine j_if_ne C dX3_beats_7 16 (by decide) 10 rfl (fun c1 => ?_) (fun c1 => ?_)
  · rw [if_neg c1] at hf
    refine j_aload_n C dX3_beats_16 rfl 0 rfl 17 rfl ?_
    refine j_iload_n C dX3_beats_17 rfl 1 rfl 18 rfl ?_
    refine j_callVi (As := [.int a1]) (rest := []) C (c_X3_passesEnd l g sz S mm  a1 _ rfl) (j_cwV C qc_X3_passesEnd qm_X3_124 qi_X3_passesEnd qs_X3_passesEnd qn_X3 hd_X3_passesEnd ⟨rfl, rfl⟩ ⟨by decide, by decide⟩) (rcv_pl.cell C.2) rfl (Nat.le_of_ble_eq_true rfl) dX3_beats_18 21 rfl ?_
    refine j_if_eq C dX3_beats_21 30 (by decide) 24 rfl (fun c2 => ?_) (fun c2 => ?_)
    · rw [if_pos c2] at hf
      refine j_aload_n C dX3_beats_30 rfl 0 rfl 31 rfl ?_
      refine j3_get C 0 (by decide) qf_X3_12 (v := .ref (ad g 1)) rfl dX3_beats_31 34 rfl ?_
      obtain ⟨r3, hr3, hf⟩ := bnd hf
      refine j_x (put_blk S 1 7).symm ?_
      refine j_callVi (As := []) (rest := []) C (c_X1_goneOver l g sz S mm 1 rfl  (blk S 1) _ hr3) (j_cwV C qc_X1_goneOver qm_X3_134 qi_X1_goneOver qs_X1_goneOver qn_X1 hd_X1_goneOver ⟨rfl, rfl⟩ ⟨by decide, by decide⟩) ((rcv_sh rfl).cell C.2) rfl (Nat.le_of_ble_eq_true rfl) dX3_beats_34 37 rfl ?_
      refine j_x (put_blk S 1 7) ?_
      refine j_istore_n (lv2 := [(2, .int r3), (0, .ref (ad g 0)), (1, .int a1)]) C dX3_beats_37 rfl (by decide) rfl 38 rfl ?_
      refine j_aload_n C dX3_beats_38 rfl 1 rfl 39 rfl ?_
      refine j3_get C 0 (by decide) qf_X3_12 (v := .ref (ad g 1)) rfl dX3_beats_39 42 rfl ?_
      refine j_iload_n C dX3_beats_42 rfl 2 rfl 43 rfl ?_
      obtain ⟨T4, hT4, hf⟩ := bnd hf
      obtain ⟨S5, hS5, hf⟩ := bnd hf
      refine j_x (put_blk S 1 7).symm ?_
      refine j_callVv (As := [.int a1]) (rest := []) C (c_X1_advance l g sz S mm 1 rfl a1 (blk S 1) _ hT4) (j_cwV C qc_X1_advance qm_X3_137 qi_X1_advance qs_X1_advance qn_X1 hd_X1_advance ⟨rfl, rfl⟩ ⟨by decide, by decide⟩) ((rcv_sh rfl).cell C.2) rfl (Nat.le_of_ble_eq_true rfl) dX3_beats_43 46 rfl ?_
      rw [Option.some.inj hS5]
      refine j_aload_n C dX3_beats_46 rfl 1 rfl 47 rfl ?_
      refine j3_get C 0 (by decide) qf_X3_12 (v := .ref (ad g 1)) rfl dX3_beats_47 50 rfl ?_
      obtain ⟨r6, hr6, hf⟩ := bnd hf
      refine j_x (put_blk S5 1 7).symm ?_
      refine j_callVi (As := []) (rest := []) C (c_X1_goneOver l g sz S5 mm 1 rfl  (blk S5 1) _ hr6) (j_cwV C qc_X1_goneOver qm_X3_134 qi_X1_goneOver qs_X1_goneOver qn_X1 hd_X1_goneOver ⟨rfl, rfl⟩ ⟨by decide, by decide⟩) ((rcv_sh rfl).cell C.2) rfl (Nat.le_of_ble_eq_true rfl) dX3_beats_50 53 rfl ?_
      refine j_x (put_blk S5 1 7) ?_
      refine j_iload_n C dX3_beats_53 rfl 0 rfl 54 rfl ?_
      refine j_isub C dX3_beats_54 55 rfl ?_
      obtain ⟨rfl, rfl⟩ := Prod.mk.inj (Option.some.inj hf)
      exact j_iret C hr hlk dX3_beats_55
    · rw [if_neg c2] at hf
      refine j_aload_n C dX3_beats_24 rfl 0 rfl 25 rfl ?_
      refine j_iconst C dX3_beats_25 (v := 4) c_iconst_4 26 rfl ?_
      obtain ⟨⟨r8, S9⟩, hq7, hf⟩ := bnd hf
      dsimp only at hf
      refine j_callVi (As := [.int 4]) (rest := []) C (c_X3_found l g sz S mm  4 _ _ hq7) (j_cwV C qc_X3_found qm_X3_52 qi_X3_found qs_X3_found qn_X3 hd_X3_found ⟨rfl, rfl⟩ ⟨by decide, by decide⟩) (rcv_pl.cell C.2) rfl (Nat.le_of_ble_eq_true rfl) dX3_beats_26 29 rfl ?_
      obtain ⟨rfl, rfl⟩ := Prod.mk.inj (Option.some.inj hf)
      exact j_iret C hr hlk dX3_beats_29
  · rw [if_pos c1] at hf
    refine j_aload_n C dX3_beats_10 rfl 0 rfl 11 rfl ?_
    refine j_iconst C dX3_beats_11 (v := 0) c_iconst_0 12 rfl ?_
    obtain ⟨⟨r11, S12⟩, hq10, hf⟩ := bnd hf
    dsimp only at hf
    refine j_callVi (As := [.int 0]) (rest := []) C (c_X3_found l g sz S mm  0 _ _ hq10) (j_cwV C qc_X3_found qm_X3_52 qi_X3_found qs_X3_found qn_X3 hd_X3_found ⟨rfl, rfl⟩ ⟨by decide, by decide⟩) (rcv_pl.cell C.2) rfl (Nat.le_of_ble_eq_true rfl) dX3_beats_12 15 rfl ?_
    obtain ⟨rfl, rfl⟩ := Prod.mk.inj (Option.some.inj hf)
    exact j_iret C hr hlk dX3_beats_15
set_option maxRecDepth 100000 in
set_option maxHeartbeats 4000000 in
theorem c_X3_now (l : Launch) (g : GG) (sz : Nat) (S mm : St) (a1 : Int32) (r : Int32) (S' : St) (hf : X3_now a1 S = some (r, S')) : Met l yX3_now (.code yX3_now cX3_now 2 (some .int) :: ALLW) (rmJ 3 64) (PcJ g sz S mm [.ref (ad g 0), .int a1]) (QiJ g sz r S' mm) 0 0 (Ag sz) := by
  refine j_met (own := RX3) (by decide) rfl (Nat.le_of_ble_eq_true rfl) rfl ?_
  intro p e s m args below meth c C hr hlk
  unfold X3_now at hf
  refine j_iload_n C dX3_now_0 rfl 1 rfl 1 rfl ?_
  by_cases c1 : a1 = 0
  · rw [if_pos c1] at hf
    refine j_tableIn C dX3_now_1 (by rw [c1]; decide) (by rw [c1]; decide) (by rw [c1]; rfl) 44 (by decide) ?_
    refine j_aload_n C dX3_now_44 rfl 0 rfl 45 rfl ?_
    refine j3_get C 0 (by decide) qf_X3_12 (v := .ref (ad g 1)) rfl dX3_now_45 48 rfl ?_
    refine j3s_get (k := 1) rfl C 7 (by decide) qf_X3_141 (v := .int (S 1 7)) rfl dX3_now_48 51 rfl ?_
    obtain ⟨rfl, rfl⟩ := Prod.mk.inj (Option.some.inj hf)
    exact j_iret C hr hlk dX3_now_51
  · rw [if_neg c1] at hf
    by_cases c2 : a1 = 1
    · rw [if_pos c2] at hf
      refine j_tableIn C dX3_now_1 (by rw [c2]; decide) (by rw [c2]; decide) (by rw [c2]; rfl) 52 (by decide) ?_
      refine j_aload_n C dX3_now_52 rfl 0 rfl 53 rfl ?_
      refine j3_get C 0 (by decide) qf_X3_12 (v := .ref (ad g 1)) rfl dX3_now_53 56 rfl ?_
      obtain ⟨r3, hr3, hf⟩ := bnd hf
      refine j_x (put_blk S 1 7).symm ?_
      refine j_callVi (As := []) (rest := []) C (c_X1_gain l g sz S mm 1 rfl  (blk S 1) _ hr3) (j_cwV C qc_X1_gain qm_X3_127 qi_X1_gain qs_X1_gain qn_X1 hd_X1_gain ⟨rfl, rfl⟩ ⟨by decide, by decide⟩) ((rcv_sh rfl).cell C.2) rfl (Nat.le_of_ble_eq_true rfl) dX3_now_56 59 rfl ?_
      refine j_x (put_blk S 1 7) ?_
      obtain ⟨rfl, rfl⟩ := Prod.mk.inj (Option.some.inj hf)
      exact j_iret C hr hlk dX3_now_59
    · rw [if_neg c2] at hf
      by_cases c4 : a1 = 2
      · rw [if_pos c4] at hf
        refine j_tableIn C dX3_now_1 (by rw [c4]; decide) (by rw [c4]; decide) (by rw [c4]; rfl) 60 (by decide) ?_
        refine j_aload_n C dX3_now_60 rfl 0 rfl 61 rfl ?_
        refine j3_get C 0 (by decide) qf_X3_12 (v := .ref (ad g 1)) rfl dX3_now_61 64 rfl ?_
        refine j_bipush C dX3_now_64 (v := 101) c_bipush_101 66 rfl ?_
        obtain ⟨r5, hr5, hf⟩ := bnd hf
        refine j_x (put_blk S 1 7).symm ?_
        refine j_callVi (As := [.int 101]) (rest := []) C (c_X1_bitsAt l g sz S mm 1 rfl 101 (blk S 1) _ hr5) (j_cwV C qc_X1_bitsAt qm_X3_144 qi_X1_bitsAt qs_X1_bitsAt qn_X1 hd_X1_bitsAt ⟨rfl, rfl⟩ ⟨by decide, by decide⟩) ((rcv_sh rfl).cell C.2) rfl (Nat.le_of_ble_eq_true rfl) dX3_now_66 69 rfl ?_
        refine j_x (put_blk S 1 7) ?_
        obtain ⟨rfl, rfl⟩ := Prod.mk.inj (Option.some.inj hf)
        exact j_iret C hr hlk dX3_now_69
      · rw [if_neg c4] at hf
        by_cases c6 : a1 = 3
        · rw [if_pos c6] at hf
          refine j_tableIn C dX3_now_1 (by rw [c6]; decide) (by rw [c6]; decide) (by rw [c6]; rfl) 70 (by decide) ?_
          refine j_aload_n C dX3_now_70 rfl 0 rfl 71 rfl ?_
          refine j3_get C 0 (by decide) qf_X3_12 (v := .ref (ad g 1)) rfl dX3_now_71 74 rfl ?_
          refine j_bipush C dX3_now_74 (v := 102) c_bipush_102 76 rfl ?_
          obtain ⟨r7, hr7, hf⟩ := bnd hf
          refine j_x (put_blk S 1 7).symm ?_
          refine j_callVi (As := [.int 102]) (rest := []) C (c_X1_bitsAt l g sz S mm 1 rfl 102 (blk S 1) _ hr7) (j_cwV C qc_X1_bitsAt qm_X3_144 qi_X1_bitsAt qs_X1_bitsAt qn_X1 hd_X1_bitsAt ⟨rfl, rfl⟩ ⟨by decide, by decide⟩) ((rcv_sh rfl).cell C.2) rfl (Nat.le_of_ble_eq_true rfl) dX3_now_76 79 rfl ?_
          refine j_x (put_blk S 1 7) ?_
          obtain ⟨rfl, rfl⟩ := Prod.mk.inj (Option.some.inj hf)
          exact j_iret C hr hlk dX3_now_79
        · rw [if_neg c6] at hf
          by_cases c8 : a1 = 4
          · rw [if_pos c8] at hf
            refine j_tableIn C dX3_now_1 (by rw [c8]; decide) (by rw [c8]; decide) (by rw [c8]; rfl) 80 (by decide) ?_
            refine j_aload_n C dX3_now_80 rfl 0 rfl 81 rfl ?_
            refine j3_get C 0 (by decide) qf_X3_12 (v := .ref (ad g 1)) rfl dX3_now_81 84 rfl ?_
            refine j_bipush C dX3_now_84 (v := 100) c_bipush_100 86 rfl ?_
            obtain ⟨r9, hr9, hf⟩ := bnd hf
            refine j_x (put_blk S 1 7).symm ?_
            refine j_callVi (As := [.int 100]) (rest := []) C (c_X1_bitsAt l g sz S mm 1 rfl 100 (blk S 1) _ hr9) (j_cwV C qc_X1_bitsAt qm_X3_144 qi_X1_bitsAt qs_X1_bitsAt qn_X1 hd_X1_bitsAt ⟨rfl, rfl⟩ ⟨by decide, by decide⟩) ((rcv_sh rfl).cell C.2) rfl (Nat.le_of_ble_eq_true rfl) dX3_now_86 89 rfl ?_
            refine j_x (put_blk S 1 7) ?_
            obtain ⟨rfl, rfl⟩ := Prod.mk.inj (Option.some.inj hf)
            exact j_iret C hr hlk dX3_now_89
          · rw [if_neg c8] at hf
            by_cases c10 : a1 = 5
            · rw [if_pos c10] at hf
              refine j_tableIn C dX3_now_1 (by rw [c10]; decide) (by rw [c10]; decide) (by rw [c10]; rfl) 90 (by decide) ?_
              refine j_aload_n C dX3_now_90 rfl 0 rfl 91 rfl ?_
              refine j3_get C 0 (by decide) qf_X3_12 (v := .ref (ad g 1)) rfl dX3_now_91 94 rfl ?_
              refine j3s_get (k := 1) rfl C 8 (by decide) qf_X3_147 (v := .int (S 1 8)) rfl dX3_now_94 97 rfl ?_
              obtain ⟨rfl, rfl⟩ := Prod.mk.inj (Option.some.inj hf)
              exact j_iret C hr hlk dX3_now_97
            · rw [if_neg c10] at hf
              by_cases c11 : a1 = 6
              · rw [if_pos c11] at hf
                refine j_tableIn C dX3_now_1 (by rw [c11]; decide) (by rw [c11]; decide) (by rw [c11]; rfl) 98 (by decide) ?_
                refine j_aload_n C dX3_now_98 rfl 0 rfl 99 rfl ?_
                refine j3_get C 0 (by decide) qf_X3_12 (v := .ref (ad g 1)) rfl dX3_now_99 102 rfl ?_
                refine j_bipush C dX3_now_102 (v := 102) c_bipush_102 104 rfl ?_
                obtain ⟨r12, hr12, hf⟩ := bnd hf
                refine j_x (put_blk S 1 7).symm ?_
                refine j_callVi (As := [.int 102]) (rest := []) C (c_X1_worthAt l g sz S mm 1 rfl 102 (blk S 1) _ hr12) (j_cwV C qc_X1_worthAt qm_X3_150 qi_X1_worthAt qs_X1_worthAt qn_X1 hd_X1_worthAt ⟨rfl, rfl⟩ ⟨by decide, by decide⟩) ((rcv_sh rfl).cell C.2) rfl (Nat.le_of_ble_eq_true rfl) dX3_now_104 107 rfl ?_
                refine j_x (put_blk S 1 7) ?_
                obtain ⟨rfl, rfl⟩ := Prod.mk.inj (Option.some.inj hf)
                exact j_iret C hr hlk dX3_now_107
              · rw [if_neg c11] at hf
                refine j_tableOut C dX3_now_1 (sw_out6 c1 c2 c4 c6 c8 c10 c11) 108 (by decide) ?_
                refine j_aload_n C dX3_now_108 rfl 0 rfl 109 rfl ?_
                refine j_iconst C dX3_now_109 (v := 0) c_iconst_0 110 rfl ?_
                obtain ⟨⟨r14, S15⟩, hq13, hf⟩ := bnd hf
                dsimp only at hf
                refine j_callVi (As := [.int 0]) (rest := []) C (c_X3_found l g sz S mm  0 _ _ hq13) (j_cwV C qc_X3_found qm_X3_52 qi_X3_found qs_X3_found qn_X3 hd_X3_found ⟨rfl, rfl⟩ ⟨by decide, by decide⟩) (rcv_pl.cell C.2) rfl (Nat.le_of_ble_eq_true rfl) dX3_now_110 113 rfl ?_
                obtain ⟨rfl, rfl⟩ := Prod.mk.inj (Option.some.inj hf)
                exact j_iret C hr hlk dX3_now_113
set_option maxRecDepth 100000 in
set_option maxHeartbeats 4000000 in
theorem c_X3_run (l : Launch) (g : GG) (sz : Nat) (S mm : St) (a1 : Int32) (r : Int32) (S' : St) (hf : X3_run a1 S = some (r, S')) : Met l yX3_run (.code yX3_run cX3_run 2 (some .int) :: ALLW) (rmJ 2 42) (PcJ g sz S mm [.ref (ad g 0), .int a1]) (QiJ g sz r S' mm) 0 0 (Ag sz) := by
  refine j_met (own := RX3) (by decide) rfl (Nat.le_of_ble_eq_true rfl) rfl ?_
  intro p e s m args below meth c C hr hlk
  unfold X3_run at hf
  refine j_iload_n C dX3_run_0 rfl 1 rfl 1 rfl ?_
  refine j_callSi (As := [.int a1]) (rest := []) C (c_X3_isColumn l g sz S mm a1 _ rfl) (j_cwS C qc_X3_isColumn qm_X3_121 qs_X3_isColumn qn_X3 hd_X3_isColumn ⟨rfl, rfl⟩ ⟨by decide, by decide⟩)  rfl (Nat.le_of_ble_eq_true rfl) dX3_run_1 4 rfl ?_
  refine j_if_eq C dX3_run_4 18 (by decide) 7 rfl (fun c1 => ?_) (fun c1 => ?_)
  · rw [if_pos c1] at hf
    refine j_aload_n C dX3_run_18 rfl 0 rfl 19 rfl ?_
    refine j_iconst C dX3_run_19 (v := 0) c_iconst_0 20 rfl ?_
    obtain ⟨⟨r3, S4⟩, hq2, hf⟩ := bnd hf
    dsimp only at hf
    refine j_callVi (As := [.int 0]) (rest := []) C (c_X3_found l g sz S mm  0 _ _ hq2) (j_cwV C qc_X3_found qm_X3_52 qi_X3_found qs_X3_found qn_X3 hd_X3_found ⟨rfl, rfl⟩ ⟨by decide, by decide⟩) (rcv_pl.cell C.2) rfl (Nat.le_of_ble_eq_true rfl) dX3_run_20 23 rfl ?_
    obtain ⟨rfl, rfl⟩ := Prod.mk.inj (Option.some.inj hf)
    exact j_iret C hr hlk dX3_run_23
  · rw [if_neg c1] at hf
    refine j_aload_n C dX3_run_7 rfl 0 rfl 8 rfl ?_
    refine j3_get C 0 (by decide) qf_X3_12 (v := .ref (ad g 1)) rfl dX3_run_8 11 rfl ?_
    refine j_iload_n C dX3_run_11 rfl 1 rfl 12 rfl ?_
    obtain ⟨r5, hr5, hf⟩ := bnd hf
    refine j_x (put_blk S 1 7).symm ?_
    refine j_callVi (As := [.int a1]) (rest := []) C (c_X1_runRows l g sz S mm 1 rfl a1 (blk S 1) _ hr5) (j_cwV C qc_X1_runRows qm_X3_153 qi_X1_runRows qs_X1_runRows qn_X1 hd_X1_runRows ⟨rfl, rfl⟩ ⟨by decide, by decide⟩) ((rcv_sh rfl).cell C.2) rfl (Nat.le_of_ble_eq_true rfl) dX3_run_12 15 rfl ?_
    refine j_x (put_blk S 1 7) ?_
    refine j_goto C dX3_run_15 23 (by decide) ?_
    obtain ⟨rfl, rfl⟩ := Prod.mk.inj (Option.some.inj hf)
    exact j_iret C hr hlk dX3_run_23
set_option maxRecDepth 100000 in
set_option maxHeartbeats 4000000 in
theorem c_X3_weight (l : Launch) (g : GG) (sz : Nat) (S mm : St) (a1 : Int32) (r : Int32) (S' : St) (hf : X3_weight a1 S = some (r, S')) : Met l yX3_weight (.code yX3_weight cX3_weight 2 (some .int) :: ALLW) (rmJ 2 42) (PcJ g sz S mm [.ref (ad g 0), .int a1]) (QiJ g sz r S' mm) 0 0 (Ag sz) := by
  refine j_met (own := RX3) (by decide) rfl (Nat.le_of_ble_eq_true rfl) rfl ?_
  intro p e s m args below meth c C hr hlk
  unfold X3_weight at hf
  refine j_iload_n C dX3_weight_0 rfl 1 rfl 1 rfl ?_
  refine j_callSi (As := [.int a1]) (rest := []) C (c_X3_isColumn l g sz S mm a1 _ rfl) (j_cwS C qc_X3_isColumn qm_X3_121 qs_X3_isColumn qn_X3 hd_X3_isColumn ⟨rfl, rfl⟩ ⟨by decide, by decide⟩)  rfl (Nat.le_of_ble_eq_true rfl) dX3_weight_1 4 rfl ?_
  refine j_if_eq C dX3_weight_4 18 (by decide) 7 rfl (fun c1 => ?_) (fun c1 => ?_)
  · rw [if_pos c1] at hf
    refine j_aload_n C dX3_weight_18 rfl 0 rfl 19 rfl ?_
    refine j_iconst C dX3_weight_19 (v := 0) c_iconst_0 20 rfl ?_
    obtain ⟨⟨r3, S4⟩, hq2, hf⟩ := bnd hf
    dsimp only at hf
    refine j_callVi (As := [.int 0]) (rest := []) C (c_X3_found l g sz S mm  0 _ _ hq2) (j_cwV C qc_X3_found qm_X3_52 qi_X3_found qs_X3_found qn_X3 hd_X3_found ⟨rfl, rfl⟩ ⟨by decide, by decide⟩) (rcv_pl.cell C.2) rfl (Nat.le_of_ble_eq_true rfl) dX3_weight_20 23 rfl ?_
    obtain ⟨rfl, rfl⟩ := Prod.mk.inj (Option.some.inj hf)
    exact j_iret C hr hlk dX3_weight_23
  · rw [if_neg c1] at hf
    refine j_aload_n C dX3_weight_7 rfl 0 rfl 8 rfl ?_
    refine j3_get C 0 (by decide) qf_X3_12 (v := .ref (ad g 1)) rfl dX3_weight_8 11 rfl ?_
    refine j_iload_n C dX3_weight_11 rfl 1 rfl 12 rfl ?_
    obtain ⟨r5, hr5, hf⟩ := bnd hf
    refine j_x (put_blk S 1 7).symm ?_
    refine j_callVi (As := [.int a1]) (rest := []) C (c_X1_runWeight l g sz S mm 1 rfl a1 (blk S 1) _ hr5) (j_cwV C qc_X1_runWeight qm_X3_156 qi_X1_runWeight qs_X1_runWeight qn_X1 hd_X1_runWeight ⟨rfl, rfl⟩ ⟨by decide, by decide⟩) ((rcv_sh rfl).cell C.2) rfl (Nat.le_of_ble_eq_true rfl) dX3_weight_12 15 rfl ?_
    refine j_x (put_blk S 1 7) ?_
    refine j_goto C dX3_weight_15 23 (by decide) ?_
    obtain ⟨rfl, rfl⟩ := Prod.mk.inj (Option.some.inj hf)
    exact j_iret C hr hlk dX3_weight_23
set_option maxRecDepth 100000 in
set_option maxHeartbeats 4000000 in
theorem c_X3_moved (l : Launch) (g : GG) (sz : Nat) (S mm : St) (r : Int32) (hf : X3_moved S = some r) : Met l yX3_moved (.code yX3_moved cX3_moved 3 (some .int) :: ALLW) (rmJ 2 47) (PcJ g sz S mm [.ref (ad g 0)]) (QiJ g sz r S mm) 0 0 (Ag sz) := by
  refine j_met (own := RX3) (by decide) rfl (Nat.le_of_ble_eq_true rfl) rfl ?_
  intro p e s m args below meth c C hr hlk
  have hL4 : ∀ (n : Nat), ∀ (b1 : Int32) (b2 : Int32) (S : St), X3_moved_L4 n b1 b2 S = some r → Wj p l e (rmJ 2 47) s m args below meth c (MQ below (QiJ g sz r S mm) args s 0 0 (Ag sz)) 3 g sz S mm 4 [(0, .ref (ad g 0)), (1, .int b1), (2, .int b2)] [] := by
    intro  n
    induction n with
    | zero =>
      intro b1 b2 S hf
      rw [X3_moved_L4] at hf
      cases hf
    | succ n ih =>
      intro b1 b2 S hf
      rw [X3_moved_L4] at hf
      refine j_iload_n C dX3_moved_4 rfl 2 rfl 5 rfl ?_
      refine j_bipush C dX3_moved_5 (v := 7) c_bipush_7 7 rfl ?_
      refine j_icmp_ge C dX3_moved_7 33 (by decide) 10 rfl (fun c1 => ?_) (fun c1 => ?_)
      · rw [if_pos c1] at hf
        refine j_iload_n C dX3_moved_33 rfl 1 rfl 34 rfl ?_
        obtain rfl := Option.some.inj hf
        exact j_iret C hr hlk dX3_moved_34
      · rw [if_neg c1] at hf
        refine j_aload_n C dX3_moved_10 rfl 0 rfl 11 rfl ?_
        refine j3_get C 0 (by decide) qf_X3_12 (v := .ref (ad g 1)) rfl dX3_moved_11 14 rfl ?_
        refine j_iload_n C dX3_moved_14 rfl 2 rfl 15 rfl ?_
        obtain ⟨r2, hr2, hf⟩ := bnd hf
        refine j_x (put_blk S 1 7).symm ?_
        refine j_callVi (As := [.int b2]) (rest := []) C (c_X1_pushMoves l g sz S mm 1 rfl b2 (blk S 1) _ hr2) (j_cwV C qc_X1_pushMoves qm_X3_159 qi_X1_pushMoves qs_X1_pushMoves qn_X1 hd_X1_pushMoves ⟨rfl, rfl⟩ ⟨by decide, by decide⟩) ((rcv_sh rfl).cell C.2) rfl (Nat.le_of_ble_eq_true rfl) dX3_moved_15 18 rfl ?_
        refine j_x (put_blk S 1 7) ?_
        refine j_if_eq C dX3_moved_18 27 (by decide) 21 rfl (fun c3 => ?_) (fun c3 => ?_)
        · rw [if_pos c3] at hf
          refine j_iinc (lv2 := [(2, .int (b2 + 1)), (0, .ref (ad g 0)), (1, .int b1)]) C dX3_moved_27 (k := 2) rfl (congrArg (HAdd.hAdd b2) c_oi_1) (by decide) rfl 30 rfl ?_
          refine j_goto C dX3_moved_30 4 (by decide) ?_
          refine j_sub [1, 2, 0] rfl ?_
          exact ih b1 (b2 + 1) S hf
        · rw [if_neg c3] at hf
          refine j_iload_n C dX3_moved_21 rfl 1 rfl 22 rfl ?_
          refine j_iconst C dX3_moved_22 (v := 1) c_iconst_1 23 rfl ?_
          refine j_iload_n C dX3_moved_23 rfl 2 rfl 24 rfl ?_
          refine j_ishl C dX3_moved_24 25 rfl ?_
          refine j_ior C dX3_moved_25 26 rfl ?_
          refine j_istore_n (lv2 := [(1, .int (b1 ||| (shl32 1 b2))), (0, .ref (ad g 0)), (2, .int b2)]) C dX3_moved_26 rfl (by decide) rfl 27 rfl ?_
          refine j_iinc (lv2 := [(2, .int (b2 + 1)), (1, .int (b1 ||| (shl32 1 b2))), (0, .ref (ad g 0))]) C dX3_moved_27 (k := 2) rfl (congrArg (HAdd.hAdd b2) c_oi_1) (by decide) rfl 30 rfl ?_
          refine j_goto C dX3_moved_30 4 (by decide) ?_
          refine j_sub [2, 1, 0] rfl ?_
          exact ih (b1 ||| (shl32 1 b2)) (b2 + 1) S hf
  unfold X3_moved at hf
  refine j_iconst C dX3_moved_0 (v := 0) c_iconst_0 1 rfl ?_
  refine j_istore_n (lv2 := [(1, .int 0), (0, .ref (ad g 0))]) C dX3_moved_1 rfl (by decide) rfl 2 rfl ?_
  refine j_iconst C dX3_moved_2 (v := 0) c_iconst_0 3 rfl ?_
  refine j_istore_n (lv2 := [(2, .int 0), (1, .int 0), (0, .ref (ad g 0))]) C dX3_moved_3 rfl (by decide) rfl 4 rfl ?_
  refine j_sub [2, 1, 0] rfl ?_
  exact hL4 FU 0 0 S hf
set_option maxRecDepth 100000 in
set_option maxHeartbeats 4000000 in
theorem c_X3_leaning (l : Launch) (g : GG) (sz : Nat) (S mm : St) (r : Int32) (hf : X3_leaning S = some r) : Met l yX3_leaning (.code yX3_leaning cX3_leaning 3 (some .int) :: ALLW) (rmJ 2 45) (PcJ g sz S mm [.ref (ad g 0)]) (QiJ g sz r S mm) 0 0 (Ag sz) := by
  refine j_met (own := RX3) (by decide) rfl (Nat.le_of_ble_eq_true rfl) rfl ?_
  intro p e s m args below meth c C hr hlk
  have hL4 : ∀ (n : Nat), ∀ (b1 : Int32) (b2 : Int32) (S : St), X3_leaning_L4 n b1 b2 S = some r → Wj p l e (rmJ 2 45) s m args below meth c (MQ below (QiJ g sz r S mm) args s 0 0 (Ag sz)) 3 g sz S mm 4 [(0, .ref (ad g 0)), (1, .int b1), (2, .int b2)] [] := by
    intro  n
    induction n with
    | zero =>
      intro b1 b2 S hf
      rw [X3_leaning_L4] at hf
      cases hf
    | succ n ih =>
      intro b1 b2 S hf
      rw [X3_leaning_L4] at hf
      refine j_iload_n C dX3_leaning_4 rfl 2 rfl 5 rfl ?_
      refine j_bipush C dX3_leaning_5 (v := 42) c_bipush_42 7 rfl ?_
      refine j_icmp_ge C dX3_leaning_7 30 (by decide) 10 rfl (fun c1 => ?_) (fun c1 => ?_)
      · rw [if_pos c1] at hf
        refine j_iload_n C dX3_leaning_30 rfl 1 rfl 31 rfl ?_
        obtain rfl := Option.some.inj hf
        exact j_iret C hr hlk dX3_leaning_31
      · rw [if_neg c1] at hf
        refine j_aload_n C dX3_leaning_10 rfl 0 rfl 11 rfl ?_
        refine j3_get C 0 (by decide) qf_X3_12 (v := .ref (ad g 1)) rfl dX3_leaning_11 14 rfl ?_
        refine j_iload_n C dX3_leaning_14 rfl 2 rfl 15 rfl ?_
        obtain ⟨r2, hr2, hf⟩ := bnd hf
        refine j_x (put_blk S 1 7).symm ?_
        refine j_callVi (As := [.int b2]) (rest := []) C (c_X1_leans l g sz S mm 1 rfl b2 (blk S 1) _ hr2) (j_cwV C qc_X1_leans qm_X3_162 qi_X1_leans qs_X1_leans qn_X1 hd_X1_leans ⟨rfl, rfl⟩ ⟨by decide, by decide⟩) ((rcv_sh rfl).cell C.2) rfl (Nat.le_of_ble_eq_true rfl) dX3_leaning_15 18 rfl ?_
        refine j_x (put_blk S 1 7) ?_
        refine j_if_eq C dX3_leaning_18 24 (by decide) 21 rfl (fun c3 => ?_) (fun c3 => ?_)
        · rw [if_pos c3] at hf
          refine j_iinc (lv2 := [(2, .int (b2 + 1)), (0, .ref (ad g 0)), (1, .int b1)]) C dX3_leaning_24 (k := 2) rfl (congrArg (HAdd.hAdd b2) c_oi_1) (by decide) rfl 27 rfl ?_
          refine j_goto C dX3_leaning_27 4 (by decide) ?_
          refine j_sub [1, 2, 0] rfl ?_
          exact ih b1 (b2 + 1) S hf
        · rw [if_neg c3] at hf
          refine j_iinc (lv2 := [(1, .int (b1 + 1)), (0, .ref (ad g 0)), (2, .int b2)]) C dX3_leaning_21 (k := 1) rfl (congrArg (HAdd.hAdd b1) c_oi_1) (by decide) rfl 24 rfl ?_
          refine j_iinc (lv2 := [(2, .int (b2 + 1)), (1, .int (b1 + 1)), (0, .ref (ad g 0))]) C dX3_leaning_24 (k := 2) rfl (congrArg (HAdd.hAdd b2) c_oi_1) (by decide) rfl 27 rfl ?_
          refine j_goto C dX3_leaning_27 4 (by decide) ?_
          refine j_sub [2, 1, 0] rfl ?_
          exact ih (b1 + 1) (b2 + 1) S hf
  unfold X3_leaning at hf
  refine j_iconst C dX3_leaning_0 (v := 0) c_iconst_0 1 rfl ?_
  refine j_istore_n (lv2 := [(1, .int 0), (0, .ref (ad g 0))]) C dX3_leaning_1 rfl (by decide) rfl 2 rfl ?_
  refine j_iconst C dX3_leaning_2 (v := 0) c_iconst_0 3 rfl ?_
  refine j_istore_n (lv2 := [(2, .int 0), (1, .int 0), (0, .ref (ad g 0))]) C dX3_leaning_3 rfl (by decide) rfl 4 rfl ?_
  refine j_sub [2, 1, 0] rfl ?_
  exact hL4 FU 0 0 S hf
set_option maxRecDepth 100000 in
set_option maxHeartbeats 4000000 in
theorem c_X3_ahead (l : Launch) (g : GG) (sz : Nat) (S mm : St) (a1 : Int32) (a2 : Int32) (r : Int32) (S' : St) (hf : X3_ahead a1 a2 S = some (r, S')) : Met l yX3_ahead (.code yX3_ahead cX3_ahead 3 (some .int) :: ALLW) (rmJ 5 116) (PcJ g sz S mm [.ref (ad g 0), .int a1, .int a2]) (QiJ g sz r S' mm) 0 0 (Ag sz) := by
  refine j_met (own := RX3) (by decide) rfl (Nat.le_of_ble_eq_true rfl) rfl ?_
  intro p e s m args below meth c C hr hlk
  unfold X3_ahead at hf
  refine j_iload_n C dX3_ahead_0 rfl 1 rfl 1 rfl ?_
  refine j_iconst C dX3_ahead_1 (v := 0) c_iconst_0 2 rfl ?_
  refine j_bipush C dX3_ahead_2 (v := 60) c_bipush_60 4 rfl ?_
  refine j_callSi (As := [.int a1, .int 0, .int 60]) (rest := []) C (c_X3_within l g sz S mm a1 0 60 _ rfl) (j_cwS C qc_X3_within qm_X3_66 qs_X3_within qn_X3 hd_X3_within ⟨rfl, rfl⟩ ⟨by decide, by decide⟩)  rfl (Nat.le_of_ble_eq_true rfl) dX3_ahead_4 7 rfl ?_
  refine j_if_eq C dX3_ahead_7 19 (by decide) 10 rfl (fun c1 => ?_) (fun c1 => ?_)
  · rw [if_pos c1] at hf
    refine j_aload_n C dX3_ahead_19 rfl 0 rfl 20 rfl ?_
    refine j_iconst C dX3_ahead_20 (v := 0) c_iconst_0 21 rfl ?_
    obtain ⟨⟨r3, S4⟩, hq2, hf⟩ := bnd hf
    dsimp only at hf
    refine j_callVi (As := [.int 0]) (rest := []) C (c_X3_found l g sz S mm  0 _ _ hq2) (j_cwV C qc_X3_found qm_X3_52 qi_X3_found qs_X3_found qn_X3 hd_X3_found ⟨rfl, rfl⟩ ⟨by decide, by decide⟩) (rcv_pl.cell C.2) rfl (Nat.le_of_ble_eq_true rfl) dX3_ahead_21 24 rfl ?_
    obtain ⟨rfl, rfl⟩ := Prod.mk.inj (Option.some.inj hf)
    exact j_iret C hr hlk dX3_ahead_24
  · rw [if_neg c1] at hf
    refine j_iload_n C dX3_ahead_10 rfl 2 rfl 11 rfl ?_
    refine j_iconst C dX3_ahead_11 (v := 0) c_iconst_0 12 rfl ?_
    refine j_iconst C dX3_ahead_12 (v := 3) c_iconst_3 13 rfl ?_
    refine j_callSi (As := [.int a2, .int 0, .int 3]) (rest := []) C (c_X3_within l g sz S mm a2 0 3 _ rfl) (j_cwS C qc_X3_within qm_X3_66 qs_X3_within qn_X3 hd_X3_within ⟨rfl, rfl⟩ ⟨by decide, by decide⟩)  rfl (Nat.le_of_ble_eq_true rfl) dX3_ahead_13 16 rfl ?_
    refine j_if_ne C dX3_ahead_16 25 (by decide) 19 rfl (fun c5 => ?_) (fun c5 => ?_)
    · rw [if_neg c5] at hf
      refine j_aload_n C dX3_ahead_25 rfl 0 rfl 26 rfl ?_
      refine j_iload_n C dX3_ahead_26 rfl 1 rfl 27 rfl ?_
      refine j_callVi (As := [.int a1]) (rest := []) C (c_X3_passesEnd l g sz S mm  a1 _ rfl) (j_cwV C qc_X3_passesEnd qm_X3_124 qi_X3_passesEnd qs_X3_passesEnd qn_X3 hd_X3_passesEnd ⟨rfl, rfl⟩ ⟨by decide, by decide⟩) (rcv_pl.cell C.2) rfl (Nat.le_of_ble_eq_true rfl) dX3_ahead_27 30 rfl ?_
      refine j_if_eq C dX3_ahead_30 39 (by decide) 33 rfl (fun c6 => ?_) (fun c6 => ?_)
      · rw [if_pos c6] at hf
        refine j_aload_n C dX3_ahead_39 rfl 0 rfl 40 rfl ?_
        refine j3_get C 3 (by decide) qf_X3_23 (v := .ref (ad g 15)) rfl dX3_ahead_40 43 rfl ?_
        refine j_aload_n C dX3_ahead_43 rfl 0 rfl 44 rfl ?_
        refine j3_get C 0 (by decide) qf_X3_12 (v := .ref (ad g 1)) rfl dX3_ahead_44 47 rfl ?_
        obtain ⟨S7, hS7, hf⟩ := bnd hf
        refine j_callVv (As := [.ref (ad g 1)]) (rest := []) C (c_X1_become l g sz S mm 15 rfl 1 rfl (by decide)) (j_cwV C qc_X1_become qm_X3_165 qi_X1_become qs_X1_become qn_X1 hd_X1_become ⟨rfl, rfl⟩ ⟨by decide, by decide⟩) ((rcv_sh rfl).cell C.2) rfl (Nat.le_of_ble_eq_true rfl) dX3_ahead_47 50 rfl ?_
        rw [Option.some.inj hS7]
        refine j_aload_n C dX3_ahead_50 rfl 0 rfl 51 rfl ?_
        refine j3_get C 3 (by decide) qf_X3_23 (v := .ref (ad g 15)) rfl dX3_ahead_51 54 rfl ?_
        refine j_iload_n C dX3_ahead_54 rfl 1 rfl 55 rfl ?_
        obtain ⟨T8, hT8, hf⟩ := bnd hf
        obtain ⟨S9, hS9, hf⟩ := bnd hf
        refine j_x (put_blk S7 15 7).symm ?_
        refine j_callVv (As := [.int a1]) (rest := []) C (c_X1_advance l g sz S7 mm 15 rfl a1 (blk S7 15) _ hT8) (j_cwV C qc_X1_advance qm_X3_137 qi_X1_advance qs_X1_advance qn_X1 hd_X1_advance ⟨rfl, rfl⟩ ⟨by decide, by decide⟩) ((rcv_sh rfl).cell C.2) rfl (Nat.le_of_ble_eq_true rfl) dX3_ahead_55 58 rfl ?_
        rw [Option.some.inj hS9]
        refine j_iload_n C dX3_ahead_58 rfl 2 rfl 59 rfl ?_
        by_cases c10 : a2 = 0
        · rw [if_pos c10] at hf
          refine j_tableIn C dX3_ahead_59 (by rw [c10]; decide) (by rw [c10]; decide) (by rw [c10]; rfl) 84 (by decide) ?_
          refine j_aload_n C dX3_ahead_84 rfl 0 rfl 85 rfl ?_
          refine j3_get C 3 (by decide) qf_X3_23 (v := .ref (ad g 15)) rfl dX3_ahead_85 88 rfl ?_
          refine j_bipush C dX3_ahead_88 (v := 101) c_bipush_101 90 rfl ?_
          obtain ⟨r11, hr11, hf⟩ := bnd hf
          refine j_x (put_blk S9 15 7).symm ?_
          refine j_callVi (As := [.int 101]) (rest := []) C (c_X1_worthAt l g sz S9 mm 15 rfl 101 (blk S9 15) _ hr11) (j_cwV C qc_X1_worthAt qm_X3_150 qi_X1_worthAt qs_X1_worthAt qn_X1 hd_X1_worthAt ⟨rfl, rfl⟩ ⟨by decide, by decide⟩) ((rcv_sh rfl).cell C.2) rfl (Nat.le_of_ble_eq_true rfl) dX3_ahead_90 93 rfl ?_
          refine j_x (put_blk S9 15 7) ?_
          refine j_aload_n C dX3_ahead_93 rfl 0 rfl 94 rfl ?_
          refine j3_get C 0 (by decide) qf_X3_12 (v := .ref (ad g 1)) rfl dX3_ahead_94 97 rfl ?_
          refine j_bipush C dX3_ahead_97 (v := 101) c_bipush_101 99 rfl ?_
          obtain ⟨r12, hr12, hf⟩ := bnd hf
          refine j_x (put_blk S9 1 7).symm ?_
          refine j_callVi (As := [.int 101]) (rest := [.int r11]) C (c_X1_worthAt l g sz S9 mm 1 rfl 101 (blk S9 1) _ hr12) (j_cwV C qc_X1_worthAt qm_X3_150 qi_X1_worthAt qs_X1_worthAt qn_X1 hd_X1_worthAt ⟨rfl, rfl⟩ ⟨by decide, by decide⟩) ((rcv_sh rfl).cell C.2) rfl (Nat.le_of_ble_eq_true rfl) dX3_ahead_99 102 rfl ?_
          refine j_x (put_blk S9 1 7) ?_
          refine j_isub C dX3_ahead_102 103 rfl ?_
          obtain ⟨rfl, rfl⟩ := Prod.mk.inj (Option.some.inj hf)
          exact j_iret C hr hlk dX3_ahead_103
        · rw [if_neg c10] at hf
          by_cases c13 : a2 = 1
          · rw [if_pos c13] at hf
            refine j_tableIn C dX3_ahead_59 (by rw [c13]; decide) (by rw [c13]; decide) (by rw [c13]; rfl) 104 (by decide) ?_
            refine j_aload_n C dX3_ahead_104 rfl 0 rfl 105 rfl ?_
            refine j3_get C 3 (by decide) qf_X3_23 (v := .ref (ad g 15)) rfl dX3_ahead_105 108 rfl ?_
            obtain ⟨r14, hr14, hf⟩ := bnd hf
            refine j_x (put_blk S9 15 7).symm ?_
            refine j_callVi (As := []) (rest := []) C (c_X1_goneOver l g sz S9 mm 15 rfl  (blk S9 15) _ hr14) (j_cwV C qc_X1_goneOver qm_X3_134 qi_X1_goneOver qs_X1_goneOver qn_X1 hd_X1_goneOver ⟨rfl, rfl⟩ ⟨by decide, by decide⟩) ((rcv_sh rfl).cell C.2) rfl (Nat.le_of_ble_eq_true rfl) dX3_ahead_108 111 rfl ?_
            refine j_x (put_blk S9 15 7) ?_
            refine j_aload_n C dX3_ahead_111 rfl 0 rfl 112 rfl ?_
            refine j3_get C 0 (by decide) qf_X3_12 (v := .ref (ad g 1)) rfl dX3_ahead_112 115 rfl ?_
            obtain ⟨r15, hr15, hf⟩ := bnd hf
            refine j_x (put_blk S9 1 7).symm ?_
            refine j_callVi (As := []) (rest := [.int r14]) C (c_X1_goneOver l g sz S9 mm 1 rfl  (blk S9 1) _ hr15) (j_cwV C qc_X1_goneOver qm_X3_134 qi_X1_goneOver qs_X1_goneOver qn_X1 hd_X1_goneOver ⟨rfl, rfl⟩ ⟨by decide, by decide⟩) ((rcv_sh rfl).cell C.2) rfl (Nat.le_of_ble_eq_true rfl) dX3_ahead_115 118 rfl ?_
            refine j_x (put_blk S9 1 7) ?_
            refine j_isub C dX3_ahead_118 119 rfl ?_
            obtain ⟨rfl, rfl⟩ := Prod.mk.inj (Option.some.inj hf)
            exact j_iret C hr hlk dX3_ahead_119
          · rw [if_neg c13] at hf
            by_cases c16 : a2 = 2
            · rw [if_pos c16] at hf
              refine j_tableIn C dX3_ahead_59 (by rw [c16]; decide) (by rw [c16]; decide) (by rw [c16]; rfl) 120 (by decide) ?_
              refine j_aload_n C dX3_ahead_120 rfl 0 rfl 121 rfl ?_
              refine j3_get C 3 (by decide) qf_X3_23 (v := .ref (ad g 15)) rfl dX3_ahead_121 124 rfl ?_
              obtain ⟨r17, hr17, hf⟩ := bnd hf
              refine j_x (put_blk S9 15 7).symm ?_
              refine j_callVi (As := []) (rest := []) C (c_X1_bitsOnShelf l g sz S9 mm 15 rfl  (blk S9 15) _ hr17) (j_cwV C qc_X1_bitsOnShelf qm_X3_169 qi_X1_bitsOnShelf qs_X1_bitsOnShelf qn_X1 hd_X1_bitsOnShelf ⟨rfl, rfl⟩ ⟨by decide, by decide⟩) ((rcv_sh rfl).cell C.2) rfl (Nat.le_of_ble_eq_true rfl) dX3_ahead_124 127 rfl ?_
              refine j_x (put_blk S9 15 7) ?_
              obtain ⟨rfl, rfl⟩ := Prod.mk.inj (Option.some.inj hf)
              exact j_iret C hr hlk dX3_ahead_127
            · rw [if_neg c16] at hf
              refine j_tableOut C dX3_ahead_59 (sw_out2 c10 c13 c16) 128 (by decide) ?_
              refine j_aload_n C dX3_ahead_128 rfl 0 rfl 129 rfl ?_
              refine j3_get C 3 (by decide) qf_X3_23 (v := .ref (ad g 15)) rfl dX3_ahead_129 132 rfl ?_
              obtain ⟨r18, hr18, hf⟩ := bnd hf
              refine j_x (put_blk S9 15 7).symm ?_
              refine j_callVi (As := []) (rest := []) C (c_X1_highest l g sz S9 mm 15 rfl  (blk S9 15) _ hr18) (j_cwV C qc_X1_highest qm_X3_172 qi_X1_highest qs_X1_highest qn_X1 hd_X1_highest ⟨rfl, rfl⟩ ⟨by decide, by decide⟩) ((rcv_sh rfl).cell C.2) rfl (Nat.le_of_ble_eq_true rfl) dX3_ahead_132 135 rfl ?_
              refine j_x (put_blk S9 15 7) ?_
              obtain ⟨rfl, rfl⟩ := Prod.mk.inj (Option.some.inj hf)
              exact j_iret C hr hlk dX3_ahead_135
      · rw [if_neg c6] at hf
        refine j_aload_n C dX3_ahead_33 rfl 0 rfl 34 rfl ?_
        refine j_iconst C dX3_ahead_34 (v := 4) c_iconst_4 35 rfl ?_
        obtain ⟨⟨r20, S21⟩, hq19, hf⟩ := bnd hf
        dsimp only at hf
        refine j_callVi (As := [.int 4]) (rest := []) C (c_X3_found l g sz S mm  4 _ _ hq19) (j_cwV C qc_X3_found qm_X3_52 qi_X3_found qs_X3_found qn_X3 hd_X3_found ⟨rfl, rfl⟩ ⟨by decide, by decide⟩) (rcv_pl.cell C.2) rfl (Nat.le_of_ble_eq_true rfl) dX3_ahead_35 38 rfl ?_
        obtain ⟨rfl, rfl⟩ := Prod.mk.inj (Option.some.inj hf)
        exact j_iret C hr hlk dX3_ahead_38
    · rw [if_pos c5] at hf
      refine j_aload_n C dX3_ahead_19 rfl 0 rfl 20 rfl ?_
      refine j_iconst C dX3_ahead_20 (v := 0) c_iconst_0 21 rfl ?_
      obtain ⟨⟨r23, S24⟩, hq22, hf⟩ := bnd hf
      dsimp only at hf
      refine j_callVi (As := [.int 0]) (rest := []) C (c_X3_found l g sz S mm  0 _ _ hq22) (j_cwV C qc_X3_found qm_X3_52 qi_X3_found qs_X3_found qn_X3 hd_X3_found ⟨rfl, rfl⟩ ⟨by decide, by decide⟩) (rcv_pl.cell C.2) rfl (Nat.le_of_ble_eq_true rfl) dX3_ahead_21 24 rfl ?_
      obtain ⟨rfl, rfl⟩ := Prod.mk.inj (Option.some.inj hf)
      exact j_iret C hr hlk dX3_ahead_24
set_option maxRecDepth 100000 in
set_option maxHeartbeats 4000000 in
theorem c_X3_falls (l : Launch) (g : GG) (sz : Nat) (S mm : St) (a1 : Int32) (r : Int32) (S' : St) (hf : X3_falls a1 S = some (r, S')) : Met l yX3_falls (.code yX3_falls cX3_falls 3 (some .int) :: ALLW) (rmJ 5 116) (PcJ g sz S mm [.ref (ad g 0), .int a1]) (QiJ g sz r S' mm) 0 0 (Ag sz) := by
  refine j_met (own := RX3) (by decide) rfl (Nat.le_of_ble_eq_true rfl) rfl ?_
  intro p e s m args below meth c C hr hlk
  have hL57 : ∀ (n : Nat), ∀ (b1 : Int32) (b2 : Int32) (S : St), X3_falls_L57 n b1 b2 S = some (r, S') → Wj p l e (rmJ 5 116) s m args below meth c (MQ below (QiJ g sz r S' mm) args s 0 0 (Ag sz)) 3 g sz S mm 57 [(0, .ref (ad g 0)), (1, .int b1), (2, .int b2)] [] := by
    intro  n
    induction n with
    | zero =>
      intro b1 b2 S hf
      rw [X3_falls_L57] at hf
      cases hf
    | succ n ih =>
      intro b1 b2 S hf
      rw [X3_falls_L57] at hf
      refine j_iload_n C dX3_falls_57 rfl 2 rfl 58 rfl ?_
      refine j_bipush C dX3_falls_58 (v := 60) c_bipush_60 60 rfl ?_
      refine j_icmp_gt C dX3_falls_60 90 (by decide) 63 rfl (fun c9 => ?_) (fun c9 => ?_)
      · rw [if_pos c9] at hf
        refine j_aload_n C dX3_falls_90 rfl 0 rfl 91 rfl ?_
        refine j_iconst C dX3_falls_91 (v := 3) c_iconst_3 92 rfl ?_
        obtain ⟨⟨r11, S12⟩, hq10, hf⟩ := bnd hf
        dsimp only at hf
        refine j_callVi (As := [.int 3]) (rest := []) C (c_X3_found l g sz S mm  3 _ _ hq10) (j_cwV C qc_X3_found qm_X3_52 qi_X3_found qs_X3_found qn_X3 hd_X3_found ⟨rfl, rfl⟩ ⟨by decide, by decide⟩) (rcv_pl.cell C.2) rfl (Nat.le_of_ble_eq_true rfl) dX3_falls_92 95 rfl ?_
        obtain ⟨rfl, rfl⟩ := Prod.mk.inj (Option.some.inj hf)
        exact j_iret C hr hlk dX3_falls_95
      · rw [if_neg c9] at hf
        refine j_aload_n C dX3_falls_63 rfl 0 rfl 64 rfl ?_
        refine j3_get C 3 (by decide) qf_X3_23 (v := .ref (ad g 15)) rfl dX3_falls_64 67 rfl ?_
        refine j_iconst C dX3_falls_67 (v := 1) c_iconst_1 68 rfl ?_
        obtain ⟨T13, hT13, hf⟩ := bnd hf
        obtain ⟨S14, hS14, hf⟩ := bnd hf
        refine j_x (put_blk S 15 7).symm ?_
        refine j_callVv (As := [.int 1]) (rest := []) C (c_X1_advance l g sz S mm 15 rfl 1 (blk S 15) _ hT13) (j_cwV C qc_X1_advance qm_X3_137 qi_X1_advance qs_X1_advance qn_X1 hd_X1_advance ⟨rfl, rfl⟩ ⟨by decide, by decide⟩) ((rcv_sh rfl).cell C.2) rfl (Nat.le_of_ble_eq_true rfl) dX3_falls_68 71 rfl ?_
        rw [Option.some.inj hS14]
        refine j_aload_n C dX3_falls_71 rfl 0 rfl 72 rfl ?_
        refine j3_get C 3 (by decide) qf_X3_23 (v := .ref (ad g 15)) rfl dX3_falls_72 75 rfl ?_
        refine j_iload_n C dX3_falls_75 rfl 1 rfl 76 rfl ?_
        obtain ⟨r15, hr15, hf⟩ := bnd hf
        refine j_x (put_blk S14 15 7).symm ?_
        refine j_callVi (As := [.int b1]) (rest := []) C (c_X1_isOnShelf l g sz S14 mm 15 rfl b1 (blk S14 15) _ hr15) (j_cwV C qc_X1_isOnShelf qm_X3_175 qi_X1_isOnShelf qs_X1_isOnShelf qn_X1 hd_X1_isOnShelf ⟨rfl, rfl⟩ ⟨by decide, by decide⟩) ((rcv_sh rfl).cell C.2) rfl (Nat.le_of_ble_eq_true rfl) dX3_falls_76 79 rfl ?_
        refine j_x (put_blk S14 15 7) ?_
        refine j_if_ne C dX3_falls_79 84 (by decide) 82 rfl (fun c16 => ?_) (fun c16 => ?_)
        · rw [if_neg c16] at hf
          refine j_iinc (lv2 := [(2, .int (b2 + 1)), (0, .ref (ad g 0)), (1, .int b1)]) C dX3_falls_84 (k := 2) rfl (congrArg (HAdd.hAdd b2) c_oi_1) (by decide) rfl 87 rfl ?_
          refine j_goto C dX3_falls_87 57 (by decide) ?_
          refine j_sub [1, 2, 0] rfl ?_
          exact ih b1 (b2 + 1) S14 hf
        · rw [if_pos c16] at hf
          refine j_iload_n C dX3_falls_82 rfl 2 rfl 83 rfl ?_
          obtain ⟨rfl, rfl⟩ := Prod.mk.inj (Option.some.inj hf)
          exact j_iret C hr hlk dX3_falls_83
  unfold X3_falls at hf
  refine j_aload_n C dX3_falls_0 rfl 0 rfl 1 rfl ?_
  refine j_iload_n C dX3_falls_1 rfl 1 rfl 2 rfl ?_
  refine j_callVi (As := [.int a1]) (rest := []) C (c_X3_isCoin l g sz S mm  a1 _ rfl) (j_cwV C qc_X3_isCoin qm_X3_63 qi_X3_isCoin qs_X3_isCoin qn_X3 hd_X3_isCoin ⟨rfl, rfl⟩ ⟨by decide, by decide⟩) (rcv_pl.cell C.2) rfl (Nat.le_of_ble_eq_true rfl) dX3_falls_2 5 rfl ?_
  refine j_if_ne C dX3_falls_5 14 (by decide) 8 rfl (fun c1 => ?_) (fun c1 => ?_)
  · rw [if_neg c1] at hf
    refine j_aload_n C dX3_falls_14 rfl 0 rfl 15 rfl ?_
    refine j3_get C 0 (by decide) qf_X3_12 (v := .ref (ad g 1)) rfl dX3_falls_15 18 rfl ?_
    refine j_iload_n C dX3_falls_18 rfl 1 rfl 19 rfl ?_
    obtain ⟨r2, hr2, hf⟩ := bnd hf
    refine j_x (put_blk S 1 7).symm ?_
    refine j_callVi (As := [.int a1]) (rest := []) C (c_X1_isOnShelf l g sz S mm 1 rfl a1 (blk S 1) _ hr2) (j_cwV C qc_X1_isOnShelf qm_X3_175 qi_X1_isOnShelf qs_X1_isOnShelf qn_X1 hd_X1_isOnShelf ⟨rfl, rfl⟩ ⟨by decide, by decide⟩) ((rcv_sh rfl).cell C.2) rfl (Nat.le_of_ble_eq_true rfl) dX3_falls_19 22 rfl ?_
    refine j_x (put_blk S 1 7) ?_
    refine j_if_eq C dX3_falls_22 38 (by decide) 25 rfl (fun c3 => ?_) (fun c3 => ?_)
    · rw [if_pos c3] at hf
      refine j_aload_n C dX3_falls_38 rfl 0 rfl 39 rfl ?_
      refine j_iconst C dX3_falls_39 (v := 4) c_iconst_4 40 rfl ?_
      obtain ⟨⟨r5, S6⟩, hq4, hf⟩ := bnd hf
      dsimp only at hf
      refine j_callVi (As := [.int 4]) (rest := []) C (c_X3_found l g sz S mm  4 _ _ hq4) (j_cwV C qc_X3_found qm_X3_52 qi_X3_found qs_X3_found qn_X3 hd_X3_found ⟨rfl, rfl⟩ ⟨by decide, by decide⟩) (rcv_pl.cell C.2) rfl (Nat.le_of_ble_eq_true rfl) dX3_falls_40 43 rfl ?_
      obtain ⟨rfl, rfl⟩ := Prod.mk.inj (Option.some.inj hf)
      exact j_iret C hr hlk dX3_falls_43
    · rw [if_neg c3] at hf
      refine j_aload_n C dX3_falls_25 rfl 0 rfl 26 rfl ?_
      refine j3_get C 0 (by decide) qf_X3_12 (v := .ref (ad g 1)) rfl dX3_falls_26 29 rfl ?_
      refine j3s_get (k := 1) rfl C 7 (by decide) qf_X3_141 (v := .int (S 1 7)) rfl dX3_falls_29 32 rfl ?_
      refine j_sipush C dX3_falls_32 (v := 9939) c_sipush_9939 35 rfl ?_
      refine j_icmp_le C dX3_falls_35 44 (by decide) 38 rfl (fun c7 => ?_) (fun c7 => ?_)
      · rw [if_pos c7] at hf
        refine j_aload_n C dX3_falls_44 rfl 0 rfl 45 rfl ?_
        refine j3_get C 3 (by decide) qf_X3_23 (v := .ref (ad g 15)) rfl dX3_falls_45 48 rfl ?_
        refine j_aload_n C dX3_falls_48 rfl 0 rfl 49 rfl ?_
        refine j3_get C 0 (by decide) qf_X3_12 (v := .ref (ad g 1)) rfl dX3_falls_49 52 rfl ?_
        obtain ⟨S8, hS8, hf⟩ := bnd hf
        refine j_callVv (As := [.ref (ad g 1)]) (rest := []) C (c_X1_become l g sz S mm 15 rfl 1 rfl (by decide)) (j_cwV C qc_X1_become qm_X3_165 qi_X1_become qs_X1_become qn_X1 hd_X1_become ⟨rfl, rfl⟩ ⟨by decide, by decide⟩) ((rcv_sh rfl).cell C.2) rfl (Nat.le_of_ble_eq_true rfl) dX3_falls_52 55 rfl ?_
        rw [Option.some.inj hS8]
        refine j_iconst C dX3_falls_55 (v := 1) c_iconst_1 56 rfl ?_
        refine j_istore_n (lv2 := [(2, .int 1), (0, .ref (ad g 0)), (1, .int a1)]) C dX3_falls_56 rfl (by decide) rfl 57 rfl ?_
        refine j_sub [1, 2, 0] rfl ?_
        exact hL57 FU a1 1 S8 hf
      · rw [if_neg c7] at hf
        refine j_aload_n C dX3_falls_38 rfl 0 rfl 39 rfl ?_
        refine j_iconst C dX3_falls_39 (v := 4) c_iconst_4 40 rfl ?_
        obtain ⟨⟨r18, S19⟩, hq17, hf⟩ := bnd hf
        dsimp only at hf
        refine j_callVi (As := [.int 4]) (rest := []) C (c_X3_found l g sz S mm  4 _ _ hq17) (j_cwV C qc_X3_found qm_X3_52 qi_X3_found qs_X3_found qn_X3 hd_X3_found ⟨rfl, rfl⟩ ⟨by decide, by decide⟩) (rcv_pl.cell C.2) rfl (Nat.le_of_ble_eq_true rfl) dX3_falls_40 43 rfl ?_
        obtain ⟨rfl, rfl⟩ := Prod.mk.inj (Option.some.inj hf)
        exact j_iret C hr hlk dX3_falls_43
  · rw [if_pos c1] at hf
    refine j_aload_n C dX3_falls_8 rfl 0 rfl 9 rfl ?_
    refine j_iconst C dX3_falls_9 (v := 0) c_iconst_0 10 rfl ?_
    obtain ⟨⟨r21, S22⟩, hq20, hf⟩ := bnd hf
    dsimp only at hf
    refine j_callVi (As := [.int 0]) (rest := []) C (c_X3_found l g sz S mm  0 _ _ hq20) (j_cwV C qc_X3_found qm_X3_52 qi_X3_found qs_X3_found qn_X3 hd_X3_found ⟨rfl, rfl⟩ ⟨by decide, by decide⟩) (rcv_pl.cell C.2) rfl (Nat.le_of_ble_eq_true rfl) dX3_falls_10 13 rfl ?_
    obtain ⟨rfl, rfl⟩ := Prod.mk.inj (Option.some.inj hf)
    exact j_iret C hr hlk dX3_falls_13
set_option maxRecDepth 100000 in
set_option maxHeartbeats 4000000 in
theorem c_X3_rest (l : Launch) (g : GG) (sz : Nat) (S mm : St) (r : Int32) (S' : St) (hf : X3_rest S = some (r, S')) : Met l yX3_rest (.code yX3_rest cX3_rest 4 (some .int) :: ALLW) (rmJ 4 93) (PcJ g sz S mm [.ref (ad g 0)]) (QiJ g sz r S' mm) 0 0 (Ag sz) := by
  refine j_met (own := RX3) (by decide) rfl (Nat.le_of_ble_eq_true rfl) rfl ?_
  intro p e s m args below meth c C hr hlk
  have hL69 : ∀ (k44 : Int32 → Int32 → Int32 → St → Option (Int32 × St)) (_ : ∀ (b1 : Int32) (b2 : Int32) (b3 : Int32) (S : St), k44 b1 b2 b3 S = some (r, S') → Wj p l e (rmJ 4 93) s m args below meth c (MQ below (QiJ g sz r S' mm) args s 0 0 (Ag sz)) 4 g sz S mm 44 [(0, .ref (ad g 0)), (1, .int b1), (2, .int b2), (3, .int b3)] []), ∀ (b1 : Int32) (b3 : Int32) (t0 : Int32) (S : St), X3_rest_L69 k44 b1 b3 t0 S = some (r, S') → Wj p l e (rmJ 4 93) s m args below meth c (MQ below (QiJ g sz r S' mm) args s 0 0 (Ag sz)) 4 g sz S mm 69 [(0, .ref (ad g 0)), (1, .int b1), (3, .int b3)] [.int t0] := by
    intro k44 hk44 b1 b3 t0 S hf
    unfold X3_rest_L69 at hf
    refine j_istore_n (lv2 := [(2, .int t0), (0, .ref (ad g 0)), (1, .int b1), (3, .int b3)]) C dX3_rest_69 rfl (by decide) rfl 70 rfl ?_
    refine j_iload_n C dX3_rest_70 rfl 0 rfl 71 rfl ?_
    refine j_iload_n C dX3_rest_71 rfl 2 rfl 72 rfl ?_
    refine j_icmp_lt C dX3_rest_72 79 (by decide) 75 rfl (fun c13 => ?_) (fun c13 => ?_)
    · rw [if_pos c13] at hf
      refine j_iinc (lv2 := [(3, .int (b3 + 1)), (2, .int t0), (0, .ref (ad g 0)), (1, .int b1)]) C dX3_rest_79 (k := 3) rfl (congrArg (HAdd.hAdd b3) c_oi_1) (by decide) rfl 82 rfl ?_
      refine j_goto C dX3_rest_82 44 (by decide) ?_
      refine j_sub [2, 3, 1, 0] rfl ?_
      exact hk44 b1 t0 (b3 + 1) S hf
    · rw [if_neg c13] at hf
      refine j_iload_n C dX3_rest_75 rfl 3 rfl 76 rfl ?_
      refine j_iload_n C dX3_rest_76 rfl 2 rfl 77 rfl ?_
      refine j_isub C dX3_rest_77 78 rfl ?_
      obtain ⟨rfl, rfl⟩ := Prod.mk.inj (Option.some.inj hf)
      exact j_iret C hr hlk dX3_rest_78
  have hL44 : ∀ (n : Nat), ∀ (b1 : Int32) (b2 : Int32) (b3 : Int32) (S : St), X3_rest_L44 n b1 b2 b3 S = some (r, S') → Wj p l e (rmJ 4 93) s m args below meth c (MQ below (QiJ g sz r S' mm) args s 0 0 (Ag sz)) 4 g sz S mm 44 [(0, .ref (ad g 0)), (1, .int b1), (2, .int b2), (3, .int b3)] [] := by
    intro  n
    induction n with
    | zero =>
      intro b1 b2 b3 S hf
      rw [X3_rest_L44] at hf
      cases hf
    | succ n ih =>
      intro b1 b2 b3 S hf
      rw [X3_rest_L44] at hf
      refine j_iload_n C dX3_rest_44 rfl 3 rfl 45 rfl ?_
      refine j_bipush C dX3_rest_45 (v := 60) c_bipush_60 47 rfl ?_
      refine j_iload_n C dX3_rest_47 rfl 1 rfl 48 rfl ?_
      refine j_iadd C dX3_rest_48 49 rfl ?_
      refine j_icmp_gt C dX3_rest_49 85 (by decide) 52 rfl (fun c4 => ?_) (fun c4 => ?_)
      · rw [if_pos c4] at hf
        refine j_aload_n C dX3_rest_85 rfl 0 rfl 86 rfl ?_
        refine j_iconst C dX3_rest_86 (v := 3) c_iconst_3 87 rfl ?_
        obtain ⟨⟨r6, S7⟩, hq5, hf⟩ := bnd hf
        dsimp only at hf
        refine j_callVi (As := [.int 3]) (rest := []) C (c_X3_found l g sz S mm  3 _ _ hq5) (j_cwV C qc_X3_found qm_X3_52 qi_X3_found qs_X3_found qn_X3 hd_X3_found ⟨rfl, rfl⟩ ⟨by decide, by decide⟩) (rcv_pl.cell C.2) rfl (Nat.le_of_ble_eq_true rfl) dX3_rest_87 90 rfl ?_
        obtain ⟨rfl, rfl⟩ := Prod.mk.inj (Option.some.inj hf)
        exact j_iret C hr hlk dX3_rest_90
      · rw [if_neg c4] at hf
        refine j_aload_n C dX3_rest_52 rfl 0 rfl 53 rfl ?_
        refine j3_get C 3 (by decide) qf_X3_23 (v := .ref (ad g 15)) rfl dX3_rest_53 56 rfl ?_
        obtain ⟨⟨r9, T10⟩, hq8, hf⟩ := bnd hf
        dsimp only at hf
        obtain ⟨S11, hS11, hf⟩ := bnd hf
        refine j_x (put_blk S 15 7).symm ?_
        refine j_callVi (As := []) (rest := []) C (c_X1_passBeat l g sz S mm 15 rfl  (blk S 15) _ _ hq8) (j_cwV C qc_X1_passBeat qm_X3_178 qi_X1_passBeat qs_X1_passBeat qn_X1 hd_X1_passBeat ⟨rfl, rfl⟩ ⟨by decide, by decide⟩) ((rcv_sh rfl).cell C.2) rfl (Nat.le_of_ble_eq_true rfl) dX3_rest_56 59 rfl ?_
        rw [Option.some.inj hS11]
        refine j_if_eq C dX3_rest_59 66 (by decide) 62 rfl (fun c12 => ?_) (fun c12 => ?_)
        · rw [if_pos c12] at hf
          refine j_iload_n C dX3_rest_66 rfl 2 rfl 67 rfl ?_
          refine j_iconst C dX3_rest_67 (v := 1) c_iconst_1 68 rfl ?_
          refine j_iadd C dX3_rest_68 69 rfl ?_
          refine j_sub [0, 1, 3] rfl ?_
          exact hL69 _ ih b1 b3 (b2 + 1) S11 hf
        · rw [if_neg c12] at hf
          refine j_iconst C dX3_rest_62 (v := 0) c_iconst_0 63 rfl ?_
          refine j_goto C dX3_rest_63 69 (by decide) ?_
          refine j_sub [0, 1, 3] rfl ?_
          exact hL69 _ ih b1 b3 0 S11 hf
  unfold X3_rest at hf
  refine j_aload_n C dX3_rest_0 rfl 0 rfl 1 rfl ?_
  refine j3_get C 0 (by decide) qf_X3_12 (v := .ref (ad g 1)) rfl dX3_rest_1 4 rfl ?_
  refine j3s_get (k := 1) rfl C 7 (by decide) qf_X3_141 (v := .int (S 1 7)) rfl dX3_rest_4 7 rfl ?_
  refine j_sipush C dX3_rest_7 (v := 9930) c_sipush_9930 10 rfl ?_
  refine j_icmp_le C dX3_rest_10 19 (by decide) 13 rfl (fun c1 => ?_) (fun c1 => ?_)
  · rw [if_pos c1] at hf
    refine j_aload_n C dX3_rest_19 rfl 0 rfl 20 rfl ?_
    refine j3_get C 0 (by decide) qf_X3_12 (v := .ref (ad g 1)) rfl dX3_rest_20 23 rfl ?_
    refine j3s_get (k := 1) rfl C 4 (by decide) qf_X3_118 (v := .ref (ad g 6)) rfl dX3_rest_23 26 rfl ?_
    refine j_iconst C dX3_rest_26 (v := 1) c_iconst_1 27 rfl ?_
    obtain ⟨v2, hv2, hf⟩ := bnd hf
    refine j3s_ald (k := 1) rfl 5 (by decide) (by decide) C hv2 dX3_rest_27 28 rfl ?_
    refine j_istore_n (lv2 := [(1, .int v2), (0, .ref (ad g 0))]) C dX3_rest_28 rfl (by decide) rfl 29 rfl ?_
    refine j_aload_n C dX3_rest_29 rfl 1 rfl 30 rfl ?_
    refine j3_get C 3 (by decide) qf_X3_23 (v := .ref (ad g 15)) rfl dX3_rest_30 33 rfl ?_
    refine j_aload_n C dX3_rest_33 rfl 1 rfl 34 rfl ?_
    refine j3_get C 0 (by decide) qf_X3_12 (v := .ref (ad g 1)) rfl dX3_rest_34 37 rfl ?_
    obtain ⟨S3, hS3, hf⟩ := bnd hf
    refine j_callVv (As := [.ref (ad g 1)]) (rest := []) C (c_X1_become l g sz S mm 15 rfl 1 rfl (by decide)) (j_cwV C qc_X1_become qm_X3_165 qi_X1_become qs_X1_become qn_X1 hd_X1_become ⟨rfl, rfl⟩ ⟨by decide, by decide⟩) ((rcv_sh rfl).cell C.2) rfl (Nat.le_of_ble_eq_true rfl) dX3_rest_37 40 rfl ?_
    rw [Option.some.inj hS3]
    refine j_iconst C dX3_rest_40 (v := 0) c_iconst_0 41 rfl ?_
    refine j_istore_n (lv2 := [(2, .int 0), (1, .int v2), (0, .ref (ad g 0))]) C dX3_rest_41 rfl (by decide) rfl 42 rfl ?_
    refine j_iconst C dX3_rest_42 (v := 1) c_iconst_1 43 rfl ?_
    refine j_istore_n (lv2 := [(3, .int 1), (2, .int 0), (1, .int v2), (0, .ref (ad g 0))]) C dX3_rest_43 rfl (by decide) rfl 44 rfl ?_
    refine j_sub [3, 2, 1, 0] rfl ?_
    exact hL44 FU v2 0 1 S3 hf
  · rw [if_neg c1] at hf
    refine j_aload_n C dX3_rest_13 rfl 0 rfl 14 rfl ?_
    refine j_iconst C dX3_rest_14 (v := 4) c_iconst_4 15 rfl ?_
    obtain ⟨⟨r15, S16⟩, hq14, hf⟩ := bnd hf
    dsimp only at hf
    refine j_callVi (As := [.int 4]) (rest := []) C (c_X3_found l g sz S mm  4 _ _ hq14) (j_cwV C qc_X3_found qm_X3_52 qi_X3_found qs_X3_found qn_X3 hd_X3_found ⟨rfl, rfl⟩ ⟨by decide, by decide⟩) (rcv_pl.cell C.2) rfl (Nat.le_of_ble_eq_true rfl) dX3_rest_15 18 rfl ?_
    obtain ⟨rfl, rfl⟩ := Prod.mk.inj (Option.some.inj hf)
    exact j_iret C hr hlk dX3_rest_18
set_option maxRecDepth 100000 in
set_option maxHeartbeats 4000000 in
theorem c_X3_isSearched (l : Launch) (g : GG) (sz : Nat) (S mm : St) (a1 : Int32) (r : Int32) (hf : X3_isSearched a1 S = some r) : Met l yX3_isSearched (.code yX3_isSearched cX3_isSearched 2 (some .boolean) :: ALLW) (rmJ 0 0) (PcJ g sz S mm [.ref (ad g 0), .int a1]) (QiJ g sz r S mm) 0 0 (Ag sz) := by
  refine j_met (own := RX3) (by decide) rfl (Nat.le_of_ble_eq_true rfl) rfl ?_
  intro p e s m args below meth c C hr hlk
  unfold X3_isSearched at hf
  refine j_aload_n C dX3_isSearched_0 rfl 0 rfl 1 rfl ?_
  refine j3_get C 0 (by decide) qf_X3_12 (v := .ref (ad g 1)) rfl dX3_isSearched_1 4 rfl ?_
  refine j3s_get (k := 1) rfl C 1 (by decide) qf_X3_92 (v := .ref (ad g 3)) rfl dX3_isSearched_4 7 rfl ?_
  refine j_iload_n C dX3_isSearched_7 rfl 1 rfl 8 rfl ?_
  obtain ⟨v1, hv1, hf⟩ := bnd hf
  refine j3s_ald (k := 1) rfl 2 (by decide) (by decide) C hv1 dX3_isSearched_8 9 rfl ?_
  refine j_bipush C dX3_isSearched_9 (v := 100) c_bipush_100 11 rfl ?_
  refine j_icmp_ne C dX3_isSearched_11 31 (by decide) 14 rfl (fun c2 => ?_) (fun c2 => ?_)
  · rw [if_neg c2] at hf
    refine j_iconst C dX3_isSearched_31 (v := 0) c_iconst_0 32 rfl ?_
    obtain rfl := Option.some.inj hf
    exact j_zret C hr hlk (Or.inl rfl) dX3_isSearched_32
  · rw [if_pos c2] at hf
    refine j_aload_n C dX3_isSearched_14 rfl 0 rfl 15 rfl ?_
    refine j3_get C 0 (by decide) qf_X3_12 (v := .ref (ad g 1)) rfl dX3_isSearched_15 18 rfl ?_
    refine j3s_get (k := 1) rfl C 7 (by decide) qf_X3_141 (v := .int (S 1 7)) rfl dX3_isSearched_18 21 rfl ?_
    refine j_sipush C dX3_isSearched_21 (v := 9900) c_sipush_9900 24 rfl ?_
    refine j_icmp_gt C dX3_isSearched_24 31 (by decide) 27 rfl (fun c3 => ?_) (fun c3 => ?_)
    · rw [if_pos c3] at hf
      refine j_iconst C dX3_isSearched_31 (v := 0) c_iconst_0 32 rfl ?_
      obtain rfl := Option.some.inj hf
      exact j_zret C hr hlk (Or.inl rfl) dX3_isSearched_32
    · rw [if_neg c3] at hf
      refine j_iconst C dX3_isSearched_27 (v := 1) c_iconst_1 28 rfl ?_
      refine j_goto C dX3_isSearched_28 32 (by decide) ?_
      obtain rfl := Option.some.inj hf
      exact j_zret C hr hlk (Or.inr rfl) dX3_isSearched_32
set_option maxRecDepth 100000 in
set_option maxHeartbeats 4000000 in
theorem c_X3_gainBy (l : Launch) (g : GG) (sz : Nat) (S mm : St) (k1 : Nat) (hk1 : isSh k1 = true) (a2 : Int32) (a3 : Int32) (a4 : Int32) (r : Int32) (S' : St) (hf : X3_gainBy k1 a2 a3 a4 S = some (r, S')) : Met l yX3_gainBy (.code yX3_gainBy cX3_gainBy 5 (some .int) :: ALLW) (rmJ 5 116) (PcJ g sz S mm [.ref (ad g 0), .ref (ad g k1), .int a2, .int a3, .int a4]) (QiJ g sz r S' mm) 0 0 (Ag sz) := by
  refine j_met (own := RX3) (by decide) rfl (Nat.le_of_ble_eq_true rfl) rfl ?_
  intro p e s m args below meth c C hr hlk
  unfold X3_gainBy at hf
  refine j_aload_n C dX3_gainBy_0 rfl 0 rfl 1 rfl ?_
  refine j3_get C 3 (by decide) qf_X3_23 (v := .ref (ad g 15)) rfl dX3_gainBy_1 4 rfl ?_
  refine j_aload_n C dX3_gainBy_4 rfl 1 rfl 5 rfl ?_
  obtain ⟨kv1, hkv1, hf⟩ := bnd hf
  obtain ⟨S2, hS2, hf⟩ := bnd hf
  refine j_callVv (As := [.ref (ad g k1)]) (rest := []) C (c_X1_become l g sz S mm 15 rfl k1 hk1 (gne_ok hkv1)) (j_cwV C qc_X1_become qm_X3_165 qi_X1_become qs_X1_become qn_X1 hd_X1_become ⟨rfl, rfl⟩ ⟨by decide, by decide⟩) ((rcv_sh rfl).cell C.2) rfl (Nat.le_of_ble_eq_true rfl) dX3_gainBy_5 8 rfl ?_
  rw [Option.some.inj hS2]
  refine j_aload_n C dX3_gainBy_8 rfl 0 rfl 9 rfl ?_
  refine j3_get C 3 (by decide) qf_X3_23 (v := .ref (ad g 15)) rfl dX3_gainBy_9 12 rfl ?_
  refine j_iload_n C dX3_gainBy_12 rfl 2 rfl 13 rfl ?_
  refine j_iload_n C dX3_gainBy_13 rfl 3 rfl 14 rfl ?_
  obtain ⟨T3, hT3, hf⟩ := bnd hf
  obtain ⟨S4, hS4, hf⟩ := bnd hf
  refine j_x (put_blk S2 15 7).symm ?_
  refine j_callVv (As := [.int a2, .int a3]) (rest := []) C (c_X1_release l g sz S2 mm 15 rfl a2 a3 (blk S2 15) _ hT3) (j_cwV C qc_X1_release qm_X3_131 qi_X1_release qs_X1_release qn_X1 hd_X1_release ⟨rfl, rfl⟩ ⟨by decide, by decide⟩) ((rcv_sh rfl).cell C.2) rfl (Nat.le_of_ble_eq_true rfl) dX3_gainBy_14 17 rfl ?_
  rw [Option.some.inj hS4]
  refine j_aload_n C dX3_gainBy_17 rfl 0 rfl 18 rfl ?_
  refine j3_get C 3 (by decide) qf_X3_23 (v := .ref (ad g 15)) rfl dX3_gainBy_18 21 rfl ?_
  refine j_iload C dX3_gainBy_21 4 rfl 23 rfl ?_
  obtain ⟨T5, hT5, hf⟩ := bnd hf
  obtain ⟨S6, hS6, hf⟩ := bnd hf
  refine j_x (put_blk S4 15 7).symm ?_
  refine j_callVv (As := [.int a4]) (rest := []) C (c_X1_advance l g sz S4 mm 15 rfl a4 (blk S4 15) _ hT5) (j_cwV C qc_X1_advance qm_X3_137 qi_X1_advance qs_X1_advance qn_X1 hd_X1_advance ⟨rfl, rfl⟩ ⟨by decide, by decide⟩) ((rcv_sh rfl).cell C.2) rfl (Nat.le_of_ble_eq_true rfl) dX3_gainBy_23 26 rfl ?_
  rw [Option.some.inj hS6]
  refine j_aload_n C dX3_gainBy_26 rfl 0 rfl 27 rfl ?_
  refine j3_get C 3 (by decide) qf_X3_23 (v := .ref (ad g 15)) rfl dX3_gainBy_27 30 rfl ?_
  obtain ⟨r7, hr7, hf⟩ := bnd hf
  refine j_x (put_blk S6 15 7).symm ?_
  refine j_callVi (As := []) (rest := []) C (c_X1_gain l g sz S6 mm 15 rfl  (blk S6 15) _ hr7) (j_cwV C qc_X1_gain qm_X3_127 qi_X1_gain qs_X1_gain qn_X1 hd_X1_gain ⟨rfl, rfl⟩ ⟨by decide, by decide⟩) ((rcv_sh rfl).cell C.2) rfl (Nat.le_of_ble_eq_true rfl) dX3_gainBy_30 33 rfl ?_
  refine j_x (put_blk S6 15 7) ?_
  obtain ⟨rfl, rfl⟩ := Prod.mk.inj (Option.some.inj hf)
  exact j_iret C hr hlk dX3_gainBy_33
set_option maxRecDepth 100000 in
set_option maxHeartbeats 4000000 in
theorem c_X3_brings (l : Launch) (g : GG) (sz : Nat) (S mm : St) (a1 : Int32) (a2 : Int32) (a3 : Int32) (r : Int32) (S' : St) (hf : X3_brings a1 a2 a3 S = some (r, S')) : Met l yX3_brings (.code yX3_brings cX3_brings 4 (some .int) :: ALLW) (rmJ 6 140) (PcJ g sz S mm [.ref (ad g 0), .int a1, .int a2, .int a3]) (QiJ g sz r S' mm) 0 0 (Ag sz) := by
  refine j_met (own := RX3) (by decide) rfl (Nat.le_of_ble_eq_true rfl) rfl ?_
  intro p e s m args below meth c C hr hlk
  unfold X3_brings at hf
  refine j_aload_n C dX3_brings_0 rfl 0 rfl 1 rfl ?_
  refine j_iload_n C dX3_brings_1 rfl 1 rfl 2 rfl ?_
  refine j_callVi (As := [.int a1]) (rest := []) C (c_X3_isCoin l g sz S mm  a1 _ rfl) (j_cwV C qc_X3_isCoin qm_X3_63 qi_X3_isCoin qs_X3_isCoin qn_X3 hd_X3_isCoin ⟨rfl, rfl⟩ ⟨by decide, by decide⟩) (rcv_pl.cell C.2) rfl (Nat.le_of_ble_eq_true rfl) dX3_brings_2 5 rfl ?_
  refine j_if_eq C dX3_brings_5 25 (by decide) 8 rfl (fun c1 => ?_) (fun c1 => ?_)
  · rw [if_pos c1] at hf
    refine j_aload_n C dX3_brings_25 rfl 0 rfl 26 rfl ?_
    refine j_iconst C dX3_brings_26 (v := 0) c_iconst_0 27 rfl ?_
    obtain ⟨⟨r3, S4⟩, hq2, hf⟩ := bnd hf
    dsimp only at hf
    refine j_callVi (As := [.int 0]) (rest := []) C (c_X3_found l g sz S mm  0 _ _ hq2) (j_cwV C qc_X3_found qm_X3_52 qi_X3_found qs_X3_found qn_X3 hd_X3_found ⟨rfl, rfl⟩ ⟨by decide, by decide⟩) (rcv_pl.cell C.2) rfl (Nat.le_of_ble_eq_true rfl) dX3_brings_27 30 rfl ?_
    obtain ⟨rfl, rfl⟩ := Prod.mk.inj (Option.some.inj hf)
    exact j_iret C hr hlk dX3_brings_30
  · rw [if_neg c1] at hf
    refine j_iload_n C dX3_brings_8 rfl 2 rfl 9 rfl ?_
    refine j_callSi (As := [.int a2]) (rest := []) C (c_X3_isColumn l g sz S mm a2 _ rfl) (j_cwS C qc_X3_isColumn qm_X3_121 qs_X3_isColumn qn_X3 hd_X3_isColumn ⟨rfl, rfl⟩ ⟨by decide, by decide⟩)  rfl (Nat.le_of_ble_eq_true rfl) dX3_brings_9 12 rfl ?_
    refine j_if_eq C dX3_brings_12 25 (by decide) 15 rfl (fun c5 => ?_) (fun c5 => ?_)
    · rw [if_pos c5] at hf
      refine j_aload_n C dX3_brings_25 rfl 0 rfl 26 rfl ?_
      refine j_iconst C dX3_brings_26 (v := 0) c_iconst_0 27 rfl ?_
      obtain ⟨⟨r7, S8⟩, hq6, hf⟩ := bnd hf
      dsimp only at hf
      refine j_callVi (As := [.int 0]) (rest := []) C (c_X3_found l g sz S mm  0 _ _ hq6) (j_cwV C qc_X3_found qm_X3_52 qi_X3_found qs_X3_found qn_X3 hd_X3_found ⟨rfl, rfl⟩ ⟨by decide, by decide⟩) (rcv_pl.cell C.2) rfl (Nat.le_of_ble_eq_true rfl) dX3_brings_27 30 rfl ?_
      obtain ⟨rfl, rfl⟩ := Prod.mk.inj (Option.some.inj hf)
      exact j_iret C hr hlk dX3_brings_30
    · rw [if_neg c5] at hf
      refine j_iload_n C dX3_brings_15 rfl 3 rfl 16 rfl ?_
      refine j_iconst C dX3_brings_16 (v := 0) c_iconst_0 17 rfl ?_
      refine j_bipush C dX3_brings_17 (v := 20) c_bipush_20 19 rfl ?_
      refine j_callSi (As := [.int a3, .int 0, .int 20]) (rest := []) C (c_X3_within l g sz S mm a3 0 20 _ rfl) (j_cwS C qc_X3_within qm_X3_66 qs_X3_within qn_X3 hd_X3_within ⟨rfl, rfl⟩ ⟨by decide, by decide⟩)  rfl (Nat.le_of_ble_eq_true rfl) dX3_brings_19 22 rfl ?_
      refine j_if_ne C dX3_brings_22 31 (by decide) 25 rfl (fun c9 => ?_) (fun c9 => ?_)
      · rw [if_neg c9] at hf
        refine j_aload_n C dX3_brings_31 rfl 0 rfl 32 rfl ?_
        refine j_iload_n C dX3_brings_32 rfl 1 rfl 33 rfl ?_
        obtain ⟨r10, hr10, hf⟩ := bnd hf
        refine j_callVi (As := [.int a1]) (rest := []) C (c_X3_isSearched l g sz S mm  a1 _ hr10) (j_cwV C qc_X3_isSearched qm_X3_182 qi_X3_isSearched qs_X3_isSearched qn_X3 hd_X3_isSearched ⟨rfl, rfl⟩ ⟨by decide, by decide⟩) (rcv_pl.cell C.2) rfl (Nat.le_of_ble_eq_true rfl) dX3_brings_33 36 rfl ?_
        refine j_if_ne C dX3_brings_36 45 (by decide) 39 rfl (fun c11 => ?_) (fun c11 => ?_)
        · rw [if_neg c11] at hf
          refine j_aload_n C dX3_brings_45 rfl 0 rfl 46 rfl ?_
          refine j_aload_n C dX3_brings_46 rfl 0 rfl 47 rfl ?_
          refine j3_get C 0 (by decide) qf_X3_12 (v := .ref (ad g 1)) rfl dX3_brings_47 50 rfl ?_
          refine j_iload_n C dX3_brings_50 rfl 1 rfl 51 rfl ?_
          refine j_iload_n C dX3_brings_51 rfl 2 rfl 52 rfl ?_
          refine j_iload_n C dX3_brings_52 rfl 3 rfl 53 rfl ?_
          obtain ⟨⟨r13, S14⟩, hq12, hf⟩ := bnd hf
          dsimp only at hf
          refine j_callVi (As := [.ref (ad g 1), .int a1, .int a2, .int a3]) (rest := []) C (c_X3_gainBy l g sz S mm  1 rfl a1 a2 a3 _ _ hq12) (j_cwV C qc_X3_gainBy qm_X3_185 qi_X3_gainBy qs_X3_gainBy qn_X3 hd_X3_gainBy ⟨rfl, rfl⟩ ⟨by decide, by decide⟩) (rcv_pl.cell C.2) rfl (Nat.le_of_ble_eq_true rfl) dX3_brings_53 56 rfl ?_
          refine j_aload_n C dX3_brings_56 rfl 0 rfl 57 rfl ?_
          refine j3_get C 0 (by decide) qf_X3_12 (v := .ref (ad g 1)) rfl dX3_brings_57 60 rfl ?_
          obtain ⟨r15, hr15, hf⟩ := bnd hf
          refine j_x (put_blk S14 1 7).symm ?_
          refine j_callVi (As := []) (rest := [.int r13]) C (c_X1_gain l g sz S14 mm 1 rfl  (blk S14 1) _ hr15) (j_cwV C qc_X1_gain qm_X3_127 qi_X1_gain qs_X1_gain qn_X1 hd_X1_gain ⟨rfl, rfl⟩ ⟨by decide, by decide⟩) ((rcv_sh rfl).cell C.2) rfl (Nat.le_of_ble_eq_true rfl) dX3_brings_60 63 rfl ?_
          refine j_x (put_blk S14 1 7) ?_
          refine j_isub C dX3_brings_63 64 rfl ?_
          obtain ⟨rfl, rfl⟩ := Prod.mk.inj (Option.some.inj hf)
          exact j_iret C hr hlk dX3_brings_64
        · rw [if_pos c11] at hf
          refine j_aload_n C dX3_brings_39 rfl 0 rfl 40 rfl ?_
          refine j_iconst C dX3_brings_40 (v := 4) c_iconst_4 41 rfl ?_
          obtain ⟨⟨r17, S18⟩, hq16, hf⟩ := bnd hf
          dsimp only at hf
          refine j_callVi (As := [.int 4]) (rest := []) C (c_X3_found l g sz S mm  4 _ _ hq16) (j_cwV C qc_X3_found qm_X3_52 qi_X3_found qs_X3_found qn_X3 hd_X3_found ⟨rfl, rfl⟩ ⟨by decide, by decide⟩) (rcv_pl.cell C.2) rfl (Nat.le_of_ble_eq_true rfl) dX3_brings_41 44 rfl ?_
          obtain ⟨rfl, rfl⟩ := Prod.mk.inj (Option.some.inj hf)
          exact j_iret C hr hlk dX3_brings_44
      · rw [if_pos c9] at hf
        refine j_aload_n C dX3_brings_25 rfl 0 rfl 26 rfl ?_
        refine j_iconst C dX3_brings_26 (v := 0) c_iconst_0 27 rfl ?_
        obtain ⟨⟨r20, S21⟩, hq19, hf⟩ := bnd hf
        dsimp only at hf
        refine j_callVi (As := [.int 0]) (rest := []) C (c_X3_found l g sz S mm  0 _ _ hq19) (j_cwV C qc_X3_found qm_X3_52 qi_X3_found qs_X3_found qn_X3 hd_X3_found ⟨rfl, rfl⟩ ⟨by decide, by decide⟩) (rcv_pl.cell C.2) rfl (Nat.le_of_ble_eq_true rfl) dX3_brings_27 30 rfl ?_
        obtain ⟨rfl, rfl⟩ := Prod.mk.inj (Option.some.inj hf)
        exact j_iret C hr hlk dX3_brings_30
set_option maxRecDepth 100000 in
set_option maxHeartbeats 4000000 in
theorem c_X3_best (l : Launch) (g : GG) (sz : Nat) (S mm : St) (a1 : Int32) (a2 : Int32) (r : Int32) (S' : St) (hf : X3_best a1 a2 S = some (r, S')) : Met l yX3_best (.code yX3_best cX3_best 7 (some .int) :: ALLW) (rmJ 6 140) (PcJ g sz S mm [.ref (ad g 0), .int a1, .int a2]) (QiJ g sz r S' mm) 0 0 (Ag sz) := by
  refine j_met (own := RX3) (by decide) rfl (Nat.le_of_ble_eq_true rfl) rfl ?_
  intro p e s m args below meth c C hr hlk
  have hL56 : ∀ (n : Nat), ∀ (b1 : Int32) (b2 : Int32) (b3 : Int32) (b4 : Int32) (b5 : Int32) (S : St), X3_best_L56 n b1 b2 b3 b4 b5 S = some (r, S') → Wj p l e (rmJ 6 140) s m args below meth c (MQ below (QiJ g sz r S' mm) args s 0 0 (Ag sz)) 7 g sz S mm 56 [(0, .ref (ad g 0)), (1, .int b1), (2, .int b2), (3, .int b3), (4, .int b4), (5, .int b5)] [] := by
    intro  n
    induction n with
    | zero =>
      intro b1 b2 b3 b4 b5 S hf
      rw [X3_best_L56] at hf
      cases hf
    | succ n ih =>
      intro b1 b2 b3 b4 b5 S hf
      rw [X3_best_L56] at hf
      refine j_iload C dX3_best_56 5 rfl 58 rfl ?_
      refine j_bipush C dX3_best_58 (v := 7) c_bipush_7 60 rfl ?_
      refine j_icmp_ge C dX3_best_60 97 (by decide) 63 rfl (fun c11 => ?_) (fun c11 => ?_)
      · rw [if_pos c11] at hf
        refine j_iload_n C dX3_best_97 rfl 3 rfl 98 rfl ?_
        obtain ⟨rfl, rfl⟩ := Prod.mk.inj (Option.some.inj hf)
        exact j_iret C hr hlk dX3_best_98
      · rw [if_neg c11] at hf
        refine j_aload_n C dX3_best_63 rfl 0 rfl 64 rfl ?_
        refine j_aload_n C dX3_best_64 rfl 0 rfl 65 rfl ?_
        refine j3_get C 0 (by decide) qf_X3_12 (v := .ref (ad g 1)) rfl dX3_best_65 68 rfl ?_
        refine j_iload_n C dX3_best_68 rfl 1 rfl 69 rfl ?_
        refine j_iload C dX3_best_69 5 rfl 71 rfl ?_
        refine j_iload_n C dX3_best_71 rfl 2 rfl 72 rfl ?_
        obtain ⟨⟨r13, S14⟩, hq12, hf⟩ := bnd hf
        dsimp only at hf
        refine j_callVi (As := [.ref (ad g 1), .int b1, .int b5, .int b2]) (rest := []) C (c_X3_gainBy l g sz S mm  1 rfl b1 b5 b2 _ _ hq12) (j_cwV C qc_X3_gainBy qm_X3_185 qi_X3_gainBy qs_X3_gainBy qn_X3 hd_X3_gainBy ⟨rfl, rfl⟩ ⟨by decide, by decide⟩) (rcv_pl.cell C.2) rfl (Nat.le_of_ble_eq_true rfl) dX3_best_72 75 rfl ?_
        refine j_istore (lv2 := [(6, .int r13), (0, .ref (ad g 0)), (1, .int b1), (2, .int b2), (3, .int b3), (4, .int b4), (5, .int b5)]) C dX3_best_75 (by decide) rfl 77 rfl ?_
        refine j_iload C dX3_best_77 0 rfl 79 rfl ?_
        refine j_iload C dX3_best_79 5 rfl 81 rfl ?_
        refine j_icmp_le C dX3_best_81 91 (by decide) 84 rfl (fun c15 => ?_) (fun c15 => ?_)
        · rw [if_pos c15] at hf
          refine j_iinc (lv2 := [(5, .int (b5 + 1)), (6, .int r13), (0, .ref (ad g 0)), (1, .int b1), (2, .int b2), (3, .int b3), (4, .int b4)]) C dX3_best_91 (k := 6) rfl (congrArg (HAdd.hAdd b5) c_oi_1) (by decide) rfl 94 rfl ?_
          refine j_goto C dX3_best_94 56 (by decide) ?_
          refine j_sub [2, 3, 4, 5, 6, 0] rfl ?_
          exact ih b1 b2 b3 b4 (b5 + 1) S14 hf
        · rw [if_neg c15] at hf
          refine j_iload C dX3_best_84 0 rfl 86 rfl ?_
          refine j_istore (lv2 := [(4, .int r13), (6, .int r13), (0, .ref (ad g 0)), (1, .int b1), (2, .int b2), (3, .int b3), (5, .int b5)]) C dX3_best_86 (by decide) rfl 88 rfl ?_
          refine j_iload C dX3_best_88 6 rfl 90 rfl ?_
          refine j_istore_n (lv2 := [(3, .int b5), (4, .int r13), (6, .int r13), (0, .ref (ad g 0)), (1, .int b1), (2, .int b2), (5, .int b5)]) C dX3_best_90 rfl (by decide) rfl 91 rfl ?_
          refine j_iinc (lv2 := [(5, .int (b5 + 1)), (3, .int b5), (4, .int r13), (6, .int r13), (0, .ref (ad g 0)), (1, .int b1), (2, .int b2)]) C dX3_best_91 (k := 6) rfl (congrArg (HAdd.hAdd b5) c_oi_1) (by decide) rfl 94 rfl ?_
          refine j_goto C dX3_best_94 56 (by decide) ?_
          refine j_sub [4, 5, 6, 1, 2, 0] rfl ?_
          exact ih b1 b2 b5 r13 (b5 + 1) S14 hf
  unfold X3_best at hf
  refine j_aload_n C dX3_best_0 rfl 0 rfl 1 rfl ?_
  refine j_iload_n C dX3_best_1 rfl 1 rfl 2 rfl ?_
  refine j_callVi (As := [.int a1]) (rest := []) C (c_X3_isCoin l g sz S mm  a1 _ rfl) (j_cwV C qc_X3_isCoin qm_X3_63 qi_X3_isCoin qs_X3_isCoin qn_X3 hd_X3_isCoin ⟨rfl, rfl⟩ ⟨by decide, by decide⟩) (rcv_pl.cell C.2) rfl (Nat.le_of_ble_eq_true rfl) dX3_best_2 5 rfl ?_
  refine j_if_eq C dX3_best_5 18 (by decide) 8 rfl (fun c1 => ?_) (fun c1 => ?_)
  · rw [if_pos c1] at hf
    refine j_aload_n C dX3_best_18 rfl 0 rfl 19 rfl ?_
    refine j_iconst C dX3_best_19 (v := 0) c_iconst_0 20 rfl ?_
    obtain ⟨⟨r3, S4⟩, hq2, hf⟩ := bnd hf
    dsimp only at hf
    refine j_callVi (As := [.int 0]) (rest := []) C (c_X3_found l g sz S mm  0 _ _ hq2) (j_cwV C qc_X3_found qm_X3_52 qi_X3_found qs_X3_found qn_X3 hd_X3_found ⟨rfl, rfl⟩ ⟨by decide, by decide⟩) (rcv_pl.cell C.2) rfl (Nat.le_of_ble_eq_true rfl) dX3_best_20 23 rfl ?_
    obtain ⟨rfl, rfl⟩ := Prod.mk.inj (Option.some.inj hf)
    exact j_iret C hr hlk dX3_best_23
  · rw [if_neg c1] at hf
    refine j_iload_n C dX3_best_8 rfl 2 rfl 9 rfl ?_
    refine j_iconst C dX3_best_9 (v := 0) c_iconst_0 10 rfl ?_
    refine j_bipush C dX3_best_10 (v := 20) c_bipush_20 12 rfl ?_
    refine j_callSi (As := [.int a2, .int 0, .int 20]) (rest := []) C (c_X3_within l g sz S mm a2 0 20 _ rfl) (j_cwS C qc_X3_within qm_X3_66 qs_X3_within qn_X3 hd_X3_within ⟨rfl, rfl⟩ ⟨by decide, by decide⟩)  rfl (Nat.le_of_ble_eq_true rfl) dX3_best_12 15 rfl ?_
    refine j_if_ne C dX3_best_15 24 (by decide) 18 rfl (fun c5 => ?_) (fun c5 => ?_)
    · rw [if_neg c5] at hf
      refine j_aload_n C dX3_best_24 rfl 0 rfl 25 rfl ?_
      refine j_iload_n C dX3_best_25 rfl 1 rfl 26 rfl ?_
      obtain ⟨r6, hr6, hf⟩ := bnd hf
      refine j_callVi (As := [.int a1]) (rest := []) C (c_X3_isSearched l g sz S mm  a1 _ hr6) (j_cwV C qc_X3_isSearched qm_X3_182 qi_X3_isSearched qs_X3_isSearched qn_X3 hd_X3_isSearched ⟨rfl, rfl⟩ ⟨by decide, by decide⟩) (rcv_pl.cell C.2) rfl (Nat.le_of_ble_eq_true rfl) dX3_best_26 29 rfl ?_
      refine j_if_ne C dX3_best_29 38 (by decide) 32 rfl (fun c7 => ?_) (fun c7 => ?_)
      · rw [if_neg c7] at hf
        refine j_iconst C dX3_best_38 (v := 0) c_iconst_0 39 rfl ?_
        refine j_istore_n (lv2 := [(3, .int 0), (0, .ref (ad g 0)), (1, .int a1), (2, .int a2)]) C dX3_best_39 rfl (by decide) rfl 40 rfl ?_
        refine j_aload_n C dX3_best_40 rfl 1 rfl 41 rfl ?_
        refine j_aload_n C dX3_best_41 rfl 1 rfl 42 rfl ?_
        refine j3_get C 0 (by decide) qf_X3_12 (v := .ref (ad g 1)) rfl dX3_best_42 45 rfl ?_
        refine j_iload_n C dX3_best_45 rfl 2 rfl 46 rfl ?_
        refine j_iconst C dX3_best_46 (v := 0) c_iconst_0 47 rfl ?_
        refine j_iload_n C dX3_best_47 rfl 3 rfl 48 rfl ?_
        obtain ⟨⟨r9, S10⟩, hq8, hf⟩ := bnd hf
        dsimp only at hf
        refine j_callVi (As := [.ref (ad g 1), .int a1, .int 0, .int a2]) (rest := []) C (c_X3_gainBy l g sz S mm  1 rfl a1 0 a2 _ _ hq8) (j_cwV C qc_X3_gainBy qm_X3_185 qi_X3_gainBy qs_X3_gainBy qn_X3 hd_X3_gainBy ⟨rfl, rfl⟩ ⟨by decide, by decide⟩) (rcv_pl.cell C.2) rfl (Nat.le_of_ble_eq_true rfl) dX3_best_48 51 rfl ?_
        refine j_istore (lv2 := [(4, .int r9), (3, .int 0), (0, .ref (ad g 0)), (1, .int a1), (2, .int a2)]) C dX3_best_51 (by decide) rfl 53 rfl ?_
        refine j_iconst C dX3_best_53 (v := 1) c_iconst_1 54 rfl ?_
        refine j_istore (lv2 := [(5, .int 1), (4, .int r9), (3, .int 0), (0, .ref (ad g 0)), (1, .int a1), (2, .int a2)]) C dX3_best_54 (by decide) rfl 56 rfl ?_
        refine j_sub [3, 4, 5, 2, 1, 0] rfl ?_
        exact hL56 FU a1 a2 0 r9 1 S10 hf
      · rw [if_pos c7] at hf
        refine j_aload_n C dX3_best_32 rfl 0 rfl 33 rfl ?_
        refine j_iconst C dX3_best_33 (v := 4) c_iconst_4 34 rfl ?_
        obtain ⟨⟨r17, S18⟩, hq16, hf⟩ := bnd hf
        dsimp only at hf
        refine j_callVi (As := [.int 4]) (rest := []) C (c_X3_found l g sz S mm  4 _ _ hq16) (j_cwV C qc_X3_found qm_X3_52 qi_X3_found qs_X3_found qn_X3 hd_X3_found ⟨rfl, rfl⟩ ⟨by decide, by decide⟩) (rcv_pl.cell C.2) rfl (Nat.le_of_ble_eq_true rfl) dX3_best_34 37 rfl ?_
        obtain ⟨rfl, rfl⟩ := Prod.mk.inj (Option.some.inj hf)
        exact j_iret C hr hlk dX3_best_37
    · rw [if_pos c5] at hf
      refine j_aload_n C dX3_best_18 rfl 0 rfl 19 rfl ?_
      refine j_iconst C dX3_best_19 (v := 0) c_iconst_0 20 rfl ?_
      obtain ⟨⟨r20, S21⟩, hq19, hf⟩ := bnd hf
      dsimp only at hf
      refine j_callVi (As := [.int 0]) (rest := []) C (c_X3_found l g sz S mm  0 _ _ hq19) (j_cwV C qc_X3_found qm_X3_52 qi_X3_found qs_X3_found qn_X3 hd_X3_found ⟨rfl, rfl⟩ ⟨by decide, by decide⟩) (rcv_pl.cell C.2) rfl (Nat.le_of_ble_eq_true rfl) dX3_best_20 23 rfl ?_
      obtain ⟨rfl, rfl⟩ := Prod.mk.inj (Option.some.inj hf)
      exact j_iret C hr hlk dX3_best_23
set_option maxRecDepth 100000 in
set_option maxHeartbeats 4000000 in
theorem c_X3_wait (l : Launch) (g : GG) (sz : Nat) (S mm : St) (a1 : Int32) (a2 : Int32) (r : Int32) (S' : St) (hf : X3_wait a1 a2 S = some (r, S')) : Met l yX3_wait (.code yX3_wait cX3_wait 9 (some .int) :: ALLW) (rmJ 6 140) (PcJ g sz S mm [.ref (ad g 0), .int a1, .int a2]) (QiJ g sz r S' mm) 0 0 (Ag sz) := by
  refine j_met (own := RX3) (by decide) rfl (Nat.le_of_ble_eq_true rfl) rfl ?_
  intro p e s m args below meth c C hr hlk
  have hL82 : ∀ (k72 : Int32 → Int32 → Nat → Int32 → Int32 → Int32 → St → Option (Int32 × St)) (_ : ∀ (b1 : Int32) (b2 : Int32) (kb3 : Nat) (hkb3 : isSh kb3 = true) (b4 : Int32) (b5 : Int32) (b6 : Int32) (S : St), k72 b1 b2 kb3 b4 b5 b6 S = some (r, S') → Wj p l e (rmJ 6 140) s m args below meth c (MQ below (QiJ g sz r S' mm) args s 0 0 (Ag sz)) 9 g sz S mm 72 [(0, .ref (ad g 0)), (1, .int b1), (2, .int b2), (3, .ref (ad g kb3)), (4, .int b4), (5, .int b5), (6, .int b6)] []), ∀ (n : Nat), ∀ (b1 : Int32) (b2 : Int32) (kb3 : Nat) (hkb3 : isSh kb3 = true) (b4 : Int32) (b5 : Int32) (b6 : Int32) (b7 : Int32) (S : St), X3_wait_L82 k72 n b1 b2 kb3 b4 b5 b6 b7 S = some (r, S') → Wj p l e (rmJ 6 140) s m args below meth c (MQ below (QiJ g sz r S' mm) args s 0 0 (Ag sz)) 9 g sz S mm 82 [(0, .ref (ad g 0)), (1, .int b1), (2, .int b2), (3, .ref (ad g kb3)), (4, .int b4), (5, .int b5), (6, .int b6), (7, .int b7)] [] := by
    intro k72 hk72 n
    induction n with
    | zero =>
      intro b1 b2 kb3 hkb3 b4 b5 b6 b7 S hf
      rw [X3_wait_L82] at hf
      cases hf
    | succ n ih =>
      intro b1 b2 kb3 hkb3 b4 b5 b6 b7 S hf
      rw [X3_wait_L82] at hf
      refine j_iload C dX3_wait_82 7 rfl 84 rfl ?_
      refine j_bipush C dX3_wait_84 (v := 7) c_bipush_7 86 rfl ?_
      refine j_icmp_ge C dX3_wait_86 127 (by decide) 89 rfl (fun c15 => ?_) (fun c15 => ?_)
      · rw [if_pos c15] at hf
        refine j_aload_n C dX3_wait_127 rfl 3 rfl 128 rfl ?_
        refine j_iconst C dX3_wait_128 (v := 1) c_iconst_1 129 rfl ?_
        obtain ⟨T16, hT16, hf⟩ := bnd hf
        obtain ⟨S17, hS17, hf⟩ := bnd hf
        refine j_x (put_blk S kb3 7).symm ?_
        refine j_callVv (As := [.int 1]) (rest := []) C (c_X1_advance l g sz S mm kb3 hkb3 1 (blk S kb3) _ hT16) (j_cwV C qc_X1_advance qm_X3_137 qi_X1_advance qs_X1_advance qn_X1 hd_X1_advance ⟨rfl, rfl⟩ ⟨by decide, by decide⟩) ((rcv_sh hkb3).cell C.2) rfl (Nat.le_of_ble_eq_true rfl) dX3_wait_129 132 rfl ?_
        rw [Option.some.inj hS17]
        refine j_iinc (lv2 := [(6, .int (b6 + 1)), (0, .ref (ad g 0)), (1, .int b1), (2, .int b2), (3, .ref (ad g kb3)), (4, .int b4), (5, .int b5), (7, .int b7)]) C dX3_wait_132 (k := 6) rfl (congrArg (HAdd.hAdd b6) c_oi_1) (by decide) rfl 135 rfl ?_
        refine j_goto C dX3_wait_135 72 (by decide) ?_
        refine j_sub [1, 2, 3, 4, 5, 6, 0] rfl ?_
        exact hk72 b1 b2 kb3 hkb3 b4 b5 (b6 + 1) S17 hf
      · rw [if_neg c15] at hf
        refine j_aload_n C dX3_wait_89 rfl 0 rfl 90 rfl ?_
        refine j_aload_n C dX3_wait_90 rfl 3 rfl 91 rfl ?_
        refine j_iload_n C dX3_wait_91 rfl 1 rfl 92 rfl ?_
        refine j_iload C dX3_wait_92 7 rfl 94 rfl ?_
        refine j_iload_n C dX3_wait_94 rfl 2 rfl 95 rfl ?_
        obtain ⟨⟨r19, S20⟩, hq18, hf⟩ := bnd hf
        dsimp only at hf
        refine j_callVi (As := [.ref (ad g kb3), .int b1, .int b7, .int b2]) (rest := []) C (c_X3_gainBy l g sz S mm  kb3 hkb3 b1 b7 b2 _ _ hq18) (j_cwV C qc_X3_gainBy qm_X3_185 qi_X3_gainBy qs_X3_gainBy qn_X3 hd_X3_gainBy ⟨rfl, rfl⟩ ⟨by decide, by decide⟩) (rcv_pl.cell C.2) rfl (Nat.le_of_ble_eq_true rfl) dX3_wait_95 98 rfl ?_
        refine j_istore (lv2 := [(8, .int r19), (0, .ref (ad g 0)), (1, .int b1), (2, .int b2), (3, .ref (ad g kb3)), (4, .int b4), (5, .int b5), (6, .int b6), (7, .int b7)]) C dX3_wait_98 (by decide) rfl 100 rfl ?_
        refine j_iload C dX3_wait_100 0 rfl 102 rfl ?_
        refine j_iload C dX3_wait_102 6 rfl 104 rfl ?_
        refine j_icmp_le C dX3_wait_104 121 (by decide) 107 rfl (fun c21 => ?_) (fun c21 => ?_)
        · rw [if_pos c21] at hf
          refine j_iinc (lv2 := [(7, .int (b7 + 1)), (8, .int r19), (0, .ref (ad g 0)), (1, .int b1), (2, .int b2), (3, .ref (ad g kb3)), (4, .int b4), (5, .int b5), (6, .int b6)]) C dX3_wait_121 (k := 8) rfl (congrArg (HAdd.hAdd b7) c_oi_1) (by decide) rfl 124 rfl ?_
          refine j_goto C dX3_wait_124 82 (by decide) ?_
          refine j_sub [2, 3, 4, 5, 6, 7, 8, 0] rfl ?_
          exact ih b1 b2 kb3 hkb3 b4 b5 b6 (b7 + 1) S20 hf
        · rw [if_neg c21] at hf
          refine j_iload C dX3_wait_107 0 rfl 109 rfl ?_
          refine j_istore (lv2 := [(5, .int r19), (8, .int r19), (0, .ref (ad g 0)), (1, .int b1), (2, .int b2), (3, .ref (ad g kb3)), (4, .int b4), (6, .int b6), (7, .int b7)]) C dX3_wait_109 (by decide) rfl 111 rfl ?_
          refine j_bipush C dX3_wait_111 (v := 10) c_bipush_10 113 rfl ?_
          refine j_iload C dX3_wait_113 7 rfl 115 rfl ?_
          refine j_imul C dX3_wait_115 116 rfl ?_
          refine j_iload C dX3_wait_116 8 rfl 118 rfl ?_
          refine j_iadd C dX3_wait_118 119 rfl ?_
          refine j_istore (lv2 := [(4, .int ((10 * b6) + b7)), (5, .int r19), (8, .int r19), (0, .ref (ad g 0)), (1, .int b1), (2, .int b2), (3, .ref (ad g kb3)), (6, .int b6), (7, .int b7)]) C dX3_wait_119 (by decide) rfl 121 rfl ?_
          refine j_iinc (lv2 := [(7, .int (b7 + 1)), (4, .int ((10 * b6) + b7)), (5, .int r19), (8, .int r19), (0, .ref (ad g 0)), (1, .int b1), (2, .int b2), (3, .ref (ad g kb3)), (6, .int b6)]) C dX3_wait_121 (k := 8) rfl (congrArg (HAdd.hAdd b7) c_oi_1) (by decide) rfl 124 rfl ?_
          refine j_goto C dX3_wait_124 82 (by decide) ?_
          refine j_sub [4, 5, 6, 7, 1, 2, 8, 0] rfl ?_
          exact ih b1 b2 kb3 hkb3 ((10 * b6) + b7) r19 b6 (b7 + 1) S20 hf
  have hL72 : ∀ (n : Nat), ∀ (b1 : Int32) (b2 : Int32) (kb3 : Nat) (hkb3 : isSh kb3 = true) (b4 : Int32) (b5 : Int32) (b6 : Int32) (S : St), X3_wait_L72 n b1 b2 kb3 b4 b5 b6 S = some (r, S') → Wj p l e (rmJ 6 140) s m args below meth c (MQ below (QiJ g sz r S' mm) args s 0 0 (Ag sz)) 9 g sz S mm 72 [(0, .ref (ad g 0)), (1, .int b1), (2, .int b2), (3, .ref (ad g kb3)), (4, .int b4), (5, .int b5), (6, .int b6)] [] := by
    intro  n
    induction n with
    | zero =>
      intro b1 b2 kb3 hkb3 b4 b5 b6 S hf
      rw [X3_wait_L72] at hf
      cases hf
    | succ n ih =>
      intro b1 b2 kb3 hkb3 b4 b5 b6 S hf
      rw [X3_wait_L72] at hf
      refine j_iload C dX3_wait_72 6 rfl 74 rfl ?_
      refine j_bipush C dX3_wait_74 (v := 11) c_bipush_11 76 rfl ?_
      refine j_icmp_gt C dX3_wait_76 138 (by decide) 79 rfl (fun c14 => ?_) (fun c14 => ?_)
      · rw [if_pos c14] at hf
        refine j_iload C dX3_wait_138 4 rfl 140 rfl ?_
        obtain ⟨rfl, rfl⟩ := Prod.mk.inj (Option.some.inj hf)
        exact j_iret C hr hlk dX3_wait_140
      · rw [if_neg c14] at hf
        refine j_iconst C dX3_wait_79 (v := 0) c_iconst_0 80 rfl ?_
        refine j_istore (lv2 := [(7, .int 0), (0, .ref (ad g 0)), (1, .int b1), (2, .int b2), (3, .ref (ad g kb3)), (4, .int b4), (5, .int b5), (6, .int b6)]) C dX3_wait_80 (by decide) rfl 82 rfl ?_
        refine j_sub [1, 2, 3, 4, 5, 6, 7, 0] rfl ?_
        exact hL82 _ ih FU b1 b2 kb3 hkb3 b4 b5 b6 0 S hf
  unfold X3_wait at hf
  refine j_aload_n C dX3_wait_0 rfl 0 rfl 1 rfl ?_
  refine j_iload_n C dX3_wait_1 rfl 1 rfl 2 rfl ?_
  refine j_callVi (As := [.int a1]) (rest := []) C (c_X3_isCoin l g sz S mm  a1 _ rfl) (j_cwV C qc_X3_isCoin qm_X3_63 qi_X3_isCoin qs_X3_isCoin qn_X3 hd_X3_isCoin ⟨rfl, rfl⟩ ⟨by decide, by decide⟩) (rcv_pl.cell C.2) rfl (Nat.le_of_ble_eq_true rfl) dX3_wait_2 5 rfl ?_
  refine j_if_eq C dX3_wait_5 18 (by decide) 8 rfl (fun c1 => ?_) (fun c1 => ?_)
  · rw [if_pos c1] at hf
    refine j_aload_n C dX3_wait_18 rfl 0 rfl 19 rfl ?_
    refine j_iconst C dX3_wait_19 (v := 0) c_iconst_0 20 rfl ?_
    obtain ⟨⟨r3, S4⟩, hq2, hf⟩ := bnd hf
    dsimp only at hf
    refine j_callVi (As := [.int 0]) (rest := []) C (c_X3_found l g sz S mm  0 _ _ hq2) (j_cwV C qc_X3_found qm_X3_52 qi_X3_found qs_X3_found qn_X3 hd_X3_found ⟨rfl, rfl⟩ ⟨by decide, by decide⟩) (rcv_pl.cell C.2) rfl (Nat.le_of_ble_eq_true rfl) dX3_wait_20 23 rfl ?_
    obtain ⟨rfl, rfl⟩ := Prod.mk.inj (Option.some.inj hf)
    exact j_iret C hr hlk dX3_wait_23
  · rw [if_neg c1] at hf
    refine j_iload_n C dX3_wait_8 rfl 2 rfl 9 rfl ?_
    refine j_iconst C dX3_wait_9 (v := 0) c_iconst_0 10 rfl ?_
    refine j_bipush C dX3_wait_10 (v := 20) c_bipush_20 12 rfl ?_
    refine j_callSi (As := [.int a2, .int 0, .int 20]) (rest := []) C (c_X3_within l g sz S mm a2 0 20 _ rfl) (j_cwS C qc_X3_within qm_X3_66 qs_X3_within qn_X3 hd_X3_within ⟨rfl, rfl⟩ ⟨by decide, by decide⟩)  rfl (Nat.le_of_ble_eq_true rfl) dX3_wait_12 15 rfl ?_
    refine j_if_ne C dX3_wait_15 24 (by decide) 18 rfl (fun c5 => ?_) (fun c5 => ?_)
    · rw [if_neg c5] at hf
      refine j_aload_n C dX3_wait_24 rfl 0 rfl 25 rfl ?_
      refine j_iload_n C dX3_wait_25 rfl 1 rfl 26 rfl ?_
      obtain ⟨r6, hr6, hf⟩ := bnd hf
      refine j_callVi (As := [.int a1]) (rest := []) C (c_X3_isSearched l g sz S mm  a1 _ hr6) (j_cwV C qc_X3_isSearched qm_X3_182 qi_X3_isSearched qs_X3_isSearched qn_X3 hd_X3_isSearched ⟨rfl, rfl⟩ ⟨by decide, by decide⟩) (rcv_pl.cell C.2) rfl (Nat.le_of_ble_eq_true rfl) dX3_wait_26 29 rfl ?_
      refine j_if_ne C dX3_wait_29 38 (by decide) 32 rfl (fun c7 => ?_) (fun c7 => ?_)
      · rw [if_neg c7] at hf
        refine j_aload_n C dX3_wait_38 rfl 0 rfl 39 rfl ?_
        refine j3_get C 4 (by decide) qf_X3_26 (v := .ref (ad g 22)) rfl dX3_wait_39 42 rfl ?_
        refine j_iconst C dX3_wait_42 (v := 1) c_iconst_1 43 rfl ?_
        obtain ⟨kv8, hkv8, hf⟩ := bnd hf
        refine j3_levels C hkv8 dX3_wait_43 44 rfl ?_
        refine j_astore_n (lv2 := [(3, .ref (ad g kv8)), (0, .ref (ad g 0)), (1, .int a1), (2, .int a2)]) C dX3_wait_44 rfl (by decide) rfl 45 rfl ?_
        refine j_aload_n C dX3_wait_45 rfl 0 rfl 46 rfl ?_
        refine j_aload_n C dX3_wait_46 rfl 1 rfl 47 rfl ?_
        refine j3_get C 0 (by decide) qf_X3_12 (v := .ref (ad g 1)) rfl dX3_wait_47 50 rfl ?_
        obtain ⟨kv9, hkv9, hf⟩ := bnd hf
        obtain ⟨S10, hS10, hf⟩ := bnd hf
        refine j_callVv (As := [.ref (ad g 1)]) (rest := []) C (c_X1_become l g sz S mm kv8 (lvl_ok hkv8) 1 rfl (gne_ok hkv9)) (j_cwV C qc_X1_become qm_X3_165 qi_X1_become qs_X1_become qn_X1 hd_X1_become ⟨rfl, rfl⟩ ⟨by decide, by decide⟩) ((rcv_sh (lvl_ok hkv8)).cell C.2) rfl (Nat.le_of_ble_eq_true rfl) dX3_wait_50 53 rfl ?_
        rw [Option.some.inj hS10]
        refine j_iconst C dX3_wait_53 (v := 0) c_iconst_0 54 rfl ?_
        refine j_istore (lv2 := [(4, .int 0), (3, .ref (ad g kv8)), (0, .ref (ad g 0)), (1, .int a1), (2, .int a2)]) C dX3_wait_54 (by decide) rfl 56 rfl ?_
        refine j_aload_n C dX3_wait_56 rfl 2 rfl 57 rfl ?_
        refine j_aload_n C dX3_wait_57 rfl 2 rfl 58 rfl ?_
        refine j3_get C 0 (by decide) qf_X3_12 (v := .ref (ad g 1)) rfl dX3_wait_58 61 rfl ?_
        refine j_iload_n C dX3_wait_61 rfl 3 rfl 62 rfl ?_
        refine j_iconst C dX3_wait_62 (v := 0) c_iconst_0 63 rfl ?_
        refine j_iload_n C dX3_wait_63 rfl 4 rfl 64 rfl ?_
        obtain ⟨⟨r12, S13⟩, hq11, hf⟩ := bnd hf
        dsimp only at hf
        refine j_callVi (As := [.ref (ad g 1), .int a1, .int 0, .int a2]) (rest := []) C (c_X3_gainBy l g sz S10 mm  1 rfl a1 0 a2 _ _ hq11) (j_cwV C qc_X3_gainBy qm_X3_185 qi_X3_gainBy qs_X3_gainBy qn_X3 hd_X3_gainBy ⟨rfl, rfl⟩ ⟨by decide, by decide⟩) (rcv_pl.cell C.2) rfl (Nat.le_of_ble_eq_true rfl) dX3_wait_64 67 rfl ?_
        refine j_istore (lv2 := [(5, .int r12), (4, .int 0), (3, .ref (ad g kv8)), (0, .ref (ad g 0)), (1, .int a1), (2, .int a2)]) C dX3_wait_67 (by decide) rfl 69 rfl ?_
        refine j_iconst C dX3_wait_69 (v := 0) c_iconst_0 70 rfl ?_
        refine j_istore (lv2 := [(6, .int 0), (5, .int r12), (4, .int 0), (3, .ref (ad g kv8)), (0, .ref (ad g 0)), (1, .int a1), (2, .int a2)]) C dX3_wait_70 (by decide) rfl 72 rfl ?_
        refine j_sub [4, 5, 6, 3, 2, 1, 0] rfl ?_
        exact hL72 FU a1 a2 kv8 (lvl_ok hkv8) 0 r12 0 S13 hf
      · rw [if_pos c7] at hf
        refine j_aload_n C dX3_wait_32 rfl 0 rfl 33 rfl ?_
        refine j_iconst C dX3_wait_33 (v := 4) c_iconst_4 34 rfl ?_
        obtain ⟨⟨r23, S24⟩, hq22, hf⟩ := bnd hf
        dsimp only at hf
        refine j_callVi (As := [.int 4]) (rest := []) C (c_X3_found l g sz S mm  4 _ _ hq22) (j_cwV C qc_X3_found qm_X3_52 qi_X3_found qs_X3_found qn_X3 hd_X3_found ⟨rfl, rfl⟩ ⟨by decide, by decide⟩) (rcv_pl.cell C.2) rfl (Nat.le_of_ble_eq_true rfl) dX3_wait_34 37 rfl ?_
        obtain ⟨rfl, rfl⟩ := Prod.mk.inj (Option.some.inj hf)
        exact j_iret C hr hlk dX3_wait_37
    · rw [if_pos c5] at hf
      refine j_aload_n C dX3_wait_18 rfl 0 rfl 19 rfl ?_
      refine j_iconst C dX3_wait_19 (v := 0) c_iconst_0 20 rfl ?_
      obtain ⟨⟨r26, S27⟩, hq25, hf⟩ := bnd hf
      dsimp only at hf
      refine j_callVi (As := [.int 0]) (rest := []) C (c_X3_found l g sz S mm  0 _ _ hq25) (j_cwV C qc_X3_found qm_X3_52 qi_X3_found qs_X3_found qn_X3 hd_X3_found ⟨rfl, rfl⟩ ⟨by decide, by decide⟩) (rcv_pl.cell C.2) rfl (Nat.le_of_ble_eq_true rfl) dX3_wait_20 23 rfl ?_
      obtain ⟨rfl, rfl⟩ := Prod.mk.inj (Option.some.inj hf)
      exact j_iret C hr hlk dX3_wait_23
set_option maxRecDepth 100000 in
set_option maxHeartbeats 4000000 in
theorem c_X3_canDrop (l : Launch) (g : GG) (sz : Nat) (S mm : St) (a1 : Int32) (r : Int32) (hf : X3_canDrop a1 S = some r) : Met l yX3_canDrop (.code yX3_canDrop cX3_canDrop 2 (some .boolean) :: ALLW) (rmJ 1 23) (PcJ g sz S mm [.ref (ad g 0), .int a1]) (QiJ g sz r S mm) 0 0 (Ag sz) := by
  refine j_met (own := RX3) (by decide) rfl (Nat.le_of_ble_eq_true rfl) rfl ?_
  intro p e s m args below meth c C hr hlk
  unfold X3_canDrop at hf
  refine j_aload_n C dX3_canDrop_0 rfl 0 rfl 1 rfl ?_
  refine j3_get C 0 (by decide) qf_X3_12 (v := .ref (ad g 1)) rfl dX3_canDrop_1 4 rfl ?_
  refine j_bipush C dX3_canDrop_4 (v := 100) c_bipush_100 6 rfl ?_
  obtain ⟨r1, hr1, hf⟩ := bnd hf
  refine j_x (put_blk S 1 7).symm ?_
  refine j_callVi (As := [.int 100]) (rest := []) C (c_X1_bitsAt l g sz S mm 1 rfl 100 (blk S 1) _ hr1) (j_cwV C qc_X1_bitsAt qm_X3_144 qi_X1_bitsAt qs_X1_bitsAt qn_X1 hd_X1_bitsAt ⟨rfl, rfl⟩ ⟨by decide, by decide⟩) ((rcv_sh rfl).cell C.2) rfl (Nat.le_of_ble_eq_true rfl) dX3_canDrop_6 9 rfl ?_
  refine j_x (put_blk S 1 7) ?_
  refine j_callSi (As := [.int r1]) (rest := []) C (c_J6_bitCount_0f7a4 l g sz S mm r1 _ rfl) (j_cwO C qc_J6_bitCount_0f7a4 qm_X3_276 qs_J6_bitCount_0f7a4 qn_J6 hd_J6_bitCount_0f7a4 ⟨rfl, rfl⟩ ⟨by decide, by decide⟩)  rfl (Nat.le_of_ble_eq_true rfl) dX3_canDrop_9 12 rfl ?_
  refine j_iload_n C dX3_canDrop_12 rfl 1 rfl 13 rfl ?_
  refine j_icmp_lt C dX3_canDrop_13 33 (by decide) 16 rfl (fun c2 => ?_) (fun c2 => ?_)
  · rw [if_pos c2] at hf
    refine j_iconst C dX3_canDrop_33 (v := 0) c_iconst_0 34 rfl ?_
    obtain rfl := Option.some.inj hf
    exact j_zret C hr hlk (Or.inl rfl) dX3_canDrop_34
  · rw [if_neg c2] at hf
    refine j_aload_n C dX3_canDrop_16 rfl 0 rfl 17 rfl ?_
    refine j3_get C 0 (by decide) qf_X3_12 (v := .ref (ad g 1)) rfl dX3_canDrop_17 20 rfl ?_
    refine j3s_get (k := 1) rfl C 7 (by decide) qf_X3_141 (v := .int (S 1 7)) rfl dX3_canDrop_20 23 rfl ?_
    refine j_sipush C dX3_canDrop_23 (v := 9900) c_sipush_9900 26 rfl ?_
    refine j_icmp_gt C dX3_canDrop_26 33 (by decide) 29 rfl (fun c3 => ?_) (fun c3 => ?_)
    · rw [if_pos c3] at hf
      refine j_iconst C dX3_canDrop_33 (v := 0) c_iconst_0 34 rfl ?_
      obtain rfl := Option.some.inj hf
      exact j_zret C hr hlk (Or.inl rfl) dX3_canDrop_34
    · rw [if_neg c3] at hf
      refine j_iconst C dX3_canDrop_29 (v := 1) c_iconst_1 30 rfl ?_
      refine j_goto C dX3_canDrop_30 34 (by decide) ?_
      obtain rfl := Option.some.inj hf
      exact j_zret C hr hlk (Or.inr rfl) dX3_canDrop_34
set_option maxRecDepth 100000 in
set_option maxHeartbeats 4000000 in
theorem c_X3_columnOf (l : Launch) (g : GG) (sz : Nat) (x mm : St) (a0 : Int32) (a1 : Int32) (a2 : Int32) (r : Int32) (hf : X3_columnOf a0 a1 a2 = some r) : Met l yX3_columnOf (.code yX3_columnOf cX3_columnOf 3 (some .int) :: ALLW) (rmJ 0 0) (PcJ g sz x mm [.int a0, .int a1, .int a2]) (QiJ g sz r x mm) 0 0 (Ag sz) := by
  refine j_met (own := RX3) (by decide) rfl (Nat.le_of_ble_eq_true rfl) rfl ?_
  intro p e s m args below meth c C hr hlk
  unfold X3_columnOf at hf
  refine j_iload_n C dX3_columnOf_0 rfl 0 rfl 1 rfl ?_
  refine j_gets C 6 (by decide) qf_X3_195 dX3_columnOf_1 4 rfl ?_
  refine j_iload_n C dX3_columnOf_4 rfl 1 rfl 5 rfl ?_
  refine j_iload_n C dX3_columnOf_5 rfl 2 rfl 6 rfl ?_
  refine j_isub C dX3_columnOf_6 7 rfl ?_
  obtain ⟨v1, hv1, hf⟩ := bnd hf
  refine j_sald C 6 (by decide) hv1 dX3_columnOf_7 8 rfl ?_
  obtain ⟨v2, hv2, hf⟩ := bnd hf
  refine j_idiv C dX3_columnOf_8 hv2 9 rfl ?_
  refine j_bipush C dX3_columnOf_9 (v := 7) c_bipush_7 11 rfl ?_
  refine j_iremc C dX3_columnOf_11 (by decide) 12 rfl ?_
  obtain rfl := Option.some.inj hf
  exact j_iret C hr hlk dX3_columnOf_12
set_option maxRecDepth 100000 in
set_option maxHeartbeats 4000000 in
theorem c_X3_walk (l : Launch) (g : GG) (sz : Nat) (S mm : St) (a1 : Int32) (a2 : Int32) (r : Nat) (S' : St) (hf : X3_walk a1 a2 S = some (r, S')) : Met l yX3_walk (.code yX3_walk cX3_walk 5 (some (.object "PennyLedge$Shelf")) :: ALLW) (rmJ 5 116) (PcJ g sz S mm [.ref (ad g 0), .int a1, .int a2]) (QrJ g sz (ad g r) S' mm) 0 0 (Ag sz) := by
  refine j_met (own := RX3) (by decide) rfl (Nat.le_of_ble_eq_true rfl) rfl ?_
  intro p e s m args below meth c C hr hlk
  have hL2 : ∀ (n : Nat), ∀ (b1 : Int32) (b2 : Int32) (b3 : Int32) (S : St), X3_walk_L2 n b1 b2 b3 S = some (r, S') → Wj p l e (rmJ 5 116) s m args below meth c (MQ below (QrJ g sz (ad g r) S' mm) args s 0 0 (Ag sz)) 5 g sz S mm 2 [(0, .ref (ad g 0)), (1, .int b1), (2, .int b2), (3, .int b3)] [] := by
    intro  n
    induction n with
    | zero =>
      intro b1 b2 b3 S hf
      rw [X3_walk_L2] at hf
      cases hf
    | succ n ih =>
      intro b1 b2 b3 S hf
      rw [X3_walk_L2] at hf
      refine j_iload_n C dX3_walk_2 rfl 3 rfl 3 rfl ?_
      refine j_iload_n C dX3_walk_3 rfl 2 rfl 4 rfl ?_
      refine j_icmp_gt C dX3_walk_4 62 (by decide) 7 rfl (fun c1 => ?_) (fun c1 => ?_)
      · rw [if_pos c1] at hf
        refine j_aload_n C dX3_walk_62 rfl 0 rfl 63 rfl ?_
        refine j3_get C 4 (by decide) qf_X3_26 (v := .ref (ad g 22)) rfl dX3_walk_63 66 rfl ?_
        refine j_iload_n C dX3_walk_66 rfl 2 rfl 67 rfl ?_
        obtain ⟨kv2, hkv2, hf⟩ := bnd hf
        refine j3_levels C hkv2 dX3_walk_67 68 rfl ?_
        obtain ⟨rfl, rfl⟩ := Prod.mk.inj (Option.some.inj hf)
        exact j_aret C hr hlk dX3_walk_68
      · rw [if_neg c1] at hf
        refine j_iload_n C dX3_walk_7 rfl 1 rfl 8 rfl ?_
        refine j_gets C 6 (by decide) qf_X3_195 dX3_walk_8 11 rfl ?_
        refine j_iload_n C dX3_walk_11 rfl 2 rfl 12 rfl ?_
        refine j_iload_n C dX3_walk_12 rfl 3 rfl 13 rfl ?_
        refine j_isub C dX3_walk_13 14 rfl ?_
        obtain ⟨v3, hv3, hf⟩ := bnd hf
        refine j_sald C 6 (by decide) hv3 dX3_walk_14 15 rfl ?_
        obtain ⟨v4, hv4, hf⟩ := bnd hf
        refine j_irem C dX3_walk_15 hv4 16 rfl ?_
        refine j_if_ne C dX3_walk_16 56 (by decide) 19 rfl (fun c5 => ?_) (fun c5 => ?_)
        · rw [if_neg c5] at hf
          refine j_iinc (lv2 := [(3, .int (b3 + 1)), (0, .ref (ad g 0)), (1, .int b1), (2, .int b2)]) C dX3_walk_56 (k := 3) rfl (congrArg (HAdd.hAdd b3) c_oi_1) (by decide) rfl 59 rfl ?_
          refine j_goto C dX3_walk_59 2 (by decide) ?_
          refine j_sub [1, 2, 3, 0] rfl ?_
          exact ih b1 b2 (b3 + 1) S hf
        · rw [if_pos c5] at hf
          refine j_aload_n C dX3_walk_19 rfl 0 rfl 20 rfl ?_
          refine j3_get C 4 (by decide) qf_X3_26 (v := .ref (ad g 22)) rfl dX3_walk_20 23 rfl ?_
          refine j_iload_n C dX3_walk_23 rfl 3 rfl 24 rfl ?_
          obtain ⟨kv6, hkv6, hf⟩ := bnd hf
          refine j3_levels C hkv6 dX3_walk_24 25 rfl ?_
          refine j_astore (lv2 := [(4, .ref (ad g kv6)), (0, .ref (ad g 0)), (1, .int b1), (2, .int b2), (3, .int b3)]) C dX3_walk_25 (by decide) rfl 27 rfl ?_
          refine j_aload C dX3_walk_27 0 rfl 29 rfl ?_
          refine j_aload_n C dX3_walk_29 rfl 1 rfl 30 rfl ?_
          refine j3_get C 4 (by decide) qf_X3_26 (v := .ref (ad g 22)) rfl dX3_walk_30 33 rfl ?_
          refine j_iload_n C dX3_walk_33 rfl 4 rfl 34 rfl ?_
          refine j_iconst C dX3_walk_34 (v := 1) c_iconst_1 35 rfl ?_
          refine j_isub C dX3_walk_35 36 rfl ?_
          obtain ⟨kv7, hkv7, hf⟩ := bnd hf
          refine j3_levels C hkv7 dX3_walk_36 37 rfl ?_
          obtain ⟨kv8, hkv8, hf⟩ := bnd hf
          obtain ⟨S9, hS9, hf⟩ := bnd hf
          refine j_callVv (As := [.ref (ad g kv7)]) (rest := []) C (c_X1_become l g sz S mm kv6 (lvl_ok hkv6) kv7 (lvl_ok hkv7) (gne_ok hkv8)) (j_cwV C qc_X1_become qm_X3_165 qi_X1_become qs_X1_become qn_X1 hd_X1_become ⟨rfl, rfl⟩ ⟨by decide, by decide⟩) ((rcv_sh (lvl_ok hkv6)).cell C.2) rfl (Nat.le_of_ble_eq_true rfl) dX3_walk_37 40 rfl ?_
          rw [Option.some.inj hS9]
          refine j_aload C dX3_walk_40 0 rfl 42 rfl ?_
          refine j_aload C dX3_walk_42 0 rfl 44 rfl ?_
          obtain ⟨r10, hr10, hf⟩ := bnd hf
          refine j_x (put_blk S9 kv6 7).symm ?_
          refine j_callVi (As := []) (rest := [.ref (ad g kv6)]) C (c_X1_leastInHand l g sz S9 mm kv6 (lvl_ok hkv6)  (blk S9 kv6) _ hr10) (j_cwV C qc_X1_leastInHand qm_X3_214 qi_X1_leastInHand qs_X1_leastInHand qn_X1 hd_X1_leastInHand ⟨rfl, rfl⟩ ⟨by decide, by decide⟩) ((rcv_sh (lvl_ok hkv6)).cell C.2) rfl (Nat.le_of_ble_eq_true rfl) dX3_walk_44 47 rfl ?_
          refine j_x (put_blk S9 kv6 7) ?_
          refine j_iload_n C dX3_walk_47 rfl 2 rfl 48 rfl ?_
          refine j_iload_n C dX3_walk_48 rfl 3 rfl 49 rfl ?_
          refine j_iload_n C dX3_walk_49 rfl 4 rfl 50 rfl ?_
          obtain ⟨r11, hr11, hf⟩ := bnd hf
          refine j_callSi (As := [.int b1, .int b2, .int b3]) (rest := [.int r10, .ref (ad g kv6)]) C (c_X3_columnOf l g sz S9 mm b1 b2 b3 _ hr11) (j_cwS C qc_X3_columnOf qm_X3_198 qs_X3_columnOf qn_X3 hd_X3_columnOf ⟨rfl, rfl⟩ ⟨by decide, by decide⟩)  rfl (Nat.le_of_ble_eq_true rfl) dX3_walk_50 53 rfl ?_
          obtain ⟨T12, hT12, hf⟩ := bnd hf
          obtain ⟨S13, hS13, hf⟩ := bnd hf
          refine j_x (put_blk S9 kv6 7).symm ?_
          refine j_callVv (As := [.int r10, .int r11]) (rest := []) C (c_X1_release l g sz S9 mm kv6 (lvl_ok hkv6) r10 r11 (blk S9 kv6) _ hT12) (j_cwV C qc_X1_release qm_X3_131 qi_X1_release qs_X1_release qn_X1 hd_X1_release ⟨rfl, rfl⟩ ⟨by decide, by decide⟩) ((rcv_sh (lvl_ok hkv6)).cell C.2) rfl (Nat.le_of_ble_eq_true rfl) dX3_walk_53 56 rfl ?_
          rw [Option.some.inj hS13]
          refine j_iinc (lv2 := [(3, .int (b3 + 1)), (4, .ref (ad g kv6)), (0, .ref (ad g 0)), (1, .int b1), (2, .int b2)]) C dX3_walk_56 (k := 4) rfl (congrArg (HAdd.hAdd b3) c_oi_1) (by decide) rfl 59 rfl ?_
          refine j_goto C dX3_walk_59 2 (by decide) ?_
          refine j_sub [2, 3, 4, 0] rfl ?_
          exact ih b1 b2 (b3 + 1) S13 hf
  unfold X3_walk at hf
  refine j_iconst C dX3_walk_0 (v := 1) c_iconst_1 1 rfl ?_
  refine j_istore_n (lv2 := [(3, .int 1), (0, .ref (ad g 0)), (1, .int a1), (2, .int a2)]) C dX3_walk_1 rfl (by decide) rfl 2 rfl ?_
  refine j_sub [1, 2, 3, 0] rfl ?_
  exact hL2 FU a1 a2 1 S hf
set_option maxRecDepth 100000 in
set_option maxHeartbeats 4000000 in
theorem c_X3_gainOfThree (l : Launch) (g : GG) (sz : Nat) (S mm : St) (a1 : Int32) (a2 : Int32) (r : Int32) (S' : St) (hf : X3_gainOfThree a1 a2 S = some (r, S')) : Met l yX3_gainOfThree (.code yX3_gainOfThree cX3_gainOfThree 3 (some .int) :: ALLW) (rmJ 6 140) (PcJ g sz S mm [.ref (ad g 0), .int a1, .int a2]) (QiJ g sz r S' mm) 0 0 (Ag sz) := by
  refine j_met (own := RX3) (by decide) rfl (Nat.le_of_ble_eq_true rfl) rfl ?_
  intro p e s m args below meth c C hr hlk
  unfold X3_gainOfThree at hf
  refine j_aload_n C dX3_gainOfThree_0 rfl 0 rfl 1 rfl ?_
  refine j3_get C 3 (by decide) qf_X3_23 (v := .ref (ad g 15)) rfl dX3_gainOfThree_1 4 rfl ?_
  refine j_aload_n C dX3_gainOfThree_4 rfl 0 rfl 5 rfl ?_
  refine j_iload_n C dX3_gainOfThree_5 rfl 1 rfl 6 rfl ?_
  refine j_iconst C dX3_gainOfThree_6 (v := 3) c_iconst_3 7 rfl ?_
  obtain ⟨⟨r2, S3⟩, hq1, hf⟩ := bnd hf
  dsimp only at hf
  refine j_callVr (As := [.int a1, .int 3]) (rest := [.ref (ad g 15)]) C (c_X3_walk l g sz S mm  a1 3 _ _ hq1) (j_cwV C qc_X3_walk qm_X3_210 qi_X3_walk qs_X3_walk qn_X3 hd_X3_walk ⟨rfl, rfl⟩ ⟨by decide, by decide⟩) (rcv_pl.cell C.2) rfl (Nat.le_of_ble_eq_true rfl) dX3_gainOfThree_7 10 rfl ?_
  obtain ⟨kv4, hkv4, hf⟩ := bnd hf
  obtain ⟨kv5, hkv5, hf⟩ := bnd hf
  obtain ⟨S6, hS6, hf⟩ := bnd hf
  refine j_callVv (As := [.ref (ad g r2)]) (rest := []) C (c_X1_become l g sz S3 mm 15 rfl r2 (gsh_ok hkv4) (gne_ok hkv5)) (j_cwV C qc_X1_become qm_X3_165 qi_X1_become qs_X1_become qn_X1 hd_X1_become ⟨rfl, rfl⟩ ⟨by decide, by decide⟩) ((rcv_sh rfl).cell C.2) rfl (Nat.le_of_ble_eq_true rfl) dX3_gainOfThree_10 13 rfl ?_
  rw [Option.some.inj hS6]
  refine j_aload_n C dX3_gainOfThree_13 rfl 0 rfl 14 rfl ?_
  refine j3_get C 3 (by decide) qf_X3_23 (v := .ref (ad g 15)) rfl dX3_gainOfThree_14 17 rfl ?_
  refine j_iload_n C dX3_gainOfThree_17 rfl 2 rfl 18 rfl ?_
  obtain ⟨T7, hT7, hf⟩ := bnd hf
  obtain ⟨S8, hS8, hf⟩ := bnd hf
  refine j_x (put_blk S6 15 7).symm ?_
  refine j_callVv (As := [.int a2]) (rest := []) C (c_X1_advance l g sz S6 mm 15 rfl a2 (blk S6 15) _ hT7) (j_cwV C qc_X1_advance qm_X3_137 qi_X1_advance qs_X1_advance qn_X1 hd_X1_advance ⟨rfl, rfl⟩ ⟨by decide, by decide⟩) ((rcv_sh rfl).cell C.2) rfl (Nat.le_of_ble_eq_true rfl) dX3_gainOfThree_18 21 rfl ?_
  rw [Option.some.inj hS8]
  refine j_aload_n C dX3_gainOfThree_21 rfl 0 rfl 22 rfl ?_
  refine j3_get C 3 (by decide) qf_X3_23 (v := .ref (ad g 15)) rfl dX3_gainOfThree_22 25 rfl ?_
  obtain ⟨r9, hr9, hf⟩ := bnd hf
  refine j_x (put_blk S8 15 7).symm ?_
  refine j_callVi (As := []) (rest := []) C (c_X1_gain l g sz S8 mm 15 rfl  (blk S8 15) _ hr9) (j_cwV C qc_X1_gain qm_X3_127 qi_X1_gain qs_X1_gain qn_X1 hd_X1_gain ⟨rfl, rfl⟩ ⟨by decide, by decide⟩) ((rcv_sh rfl).cell C.2) rfl (Nat.le_of_ble_eq_true rfl) dX3_gainOfThree_25 28 rfl ?_
  refine j_x (put_blk S8 15 7) ?_
  obtain ⟨rfl, rfl⟩ := Prod.mk.inj (Option.some.inj hf)
  exact j_iret C hr hlk dX3_gainOfThree_28
set_option maxRecDepth 100000 in
set_option maxHeartbeats 4000000 in
theorem c_X3_three (l : Launch) (g : GG) (sz : Nat) (S mm : St) (a1 : Int32) (r : Int32) (S' : St) (hf : X3_three a1 S = some (r, S')) : Met l yX3_three (.code yX3_three cX3_three 7 (some .int) :: ALLW) (rmJ 7 162) (PcJ g sz S mm [.ref (ad g 0), .int a1]) (QiJ g sz r S' mm) 0 0 (Ag sz) := by
  refine j_met (own := RX3) (by decide) rfl (Nat.le_of_ble_eq_true rfl) rfl ?_
  intro p e s m args below meth c C hr hlk
  have hL42 : ∀ (n : Nat), ∀ (b1 : Int32) (b2 : Int32) (b3 : Int32) (b4 : Int32) (S : St), X3_three_L42 n b1 b2 b3 b4 S = some (r, S') → Wj p l e (rmJ 7 162) s m args below meth c (MQ below (QiJ g sz r S' mm) args s 0 0 (Ag sz)) 7 g sz S mm 42 [(0, .ref (ad g 0)), (1, .int b1), (2, .int b2), (3, .int b3), (4, .int b4)] [] := by
    intro  n
    induction n with
    | zero =>
      intro b1 b2 b3 b4 S hf
      rw [X3_three_L42] at hf
      cases hf
    | succ n ih =>
      intro b1 b2 b3 b4 S hf
      rw [X3_three_L42] at hf
      refine j_iload C dX3_three_42 4 rfl 44 rfl ?_
      refine j_gets C 6 (by decide) qf_X3_195 dX3_three_44 47 rfl ?_
      refine j_iconst C dX3_three_47 (v := 3) c_iconst_3 48 rfl ?_
      obtain ⟨v7, hv7, hf⟩ := bnd hf
      refine j_sald C 6 (by decide) hv7 dX3_three_48 49 rfl ?_
      refine j_icmp_ge C dX3_three_49 79 (by decide) 52 rfl (fun c8 => ?_) (fun c8 => ?_)
      · rw [if_pos c8] at hf
        refine j_iload_n C dX3_three_79 rfl 2 rfl 80 rfl ?_
        refine j_iconst C dX3_three_80 (v := 3) c_iconst_3 81 rfl ?_
        refine j_iconst C dX3_three_81 (v := 1) c_iconst_1 82 rfl ?_
        obtain ⟨r9, hr9, hf⟩ := bnd hf
        refine j_callSi (As := [.int b2, .int 3, .int 1]) (rest := []) C (c_X3_columnOf l g sz S mm b2 3 1 _ hr9) (j_cwS C qc_X3_columnOf qm_X3_198 qs_X3_columnOf qn_X3 hd_X3_columnOf ⟨rfl, rfl⟩ ⟨by decide, by decide⟩)  rfl (Nat.le_of_ble_eq_true rfl) dX3_three_82 85 rfl ?_
        refine j_istore (lv2 := [(4, .int r9), (0, .ref (ad g 0)), (1, .int b1), (2, .int b2), (3, .int b3)]) C dX3_three_85 (by decide) rfl 87 rfl ?_
        refine j_iload_n C dX3_three_87 rfl 3 rfl 88 rfl ?_
        refine j_iconst C dX3_three_88 (v := 3) c_iconst_3 89 rfl ?_
        refine j_iconst C dX3_three_89 (v := 2) c_iconst_2 90 rfl ?_
        obtain ⟨r10, hr10, hf⟩ := bnd hf
        refine j_callSi (As := [.int b2, .int 3, .int 2]) (rest := []) C (c_X3_columnOf l g sz S mm b2 3 2 _ hr10) (j_cwS C qc_X3_columnOf qm_X3_198 qs_X3_columnOf qn_X3 hd_X3_columnOf ⟨rfl, rfl⟩ ⟨by decide, by decide⟩)  rfl (Nat.le_of_ble_eq_true rfl) dX3_three_90 93 rfl ?_
        refine j_istore (lv2 := [(5, .int r10), (4, .int r9), (0, .ref (ad g 0)), (1, .int b1), (2, .int b2), (3, .int b3)]) C dX3_three_93 (by decide) rfl 95 rfl ?_
        refine j_iload_n C dX3_three_95 rfl 4 rfl 96 rfl ?_
        refine j_iconst C dX3_three_96 (v := 3) c_iconst_3 97 rfl ?_
        refine j_iconst C dX3_three_97 (v := 3) c_iconst_3 98 rfl ?_
        obtain ⟨r11, hr11, hf⟩ := bnd hf
        refine j_callSi (As := [.int b2, .int 3, .int 3]) (rest := []) C (c_X3_columnOf l g sz S mm b2 3 3 _ hr11) (j_cwS C qc_X3_columnOf qm_X3_198 qs_X3_columnOf qn_X3 hd_X3_columnOf ⟨rfl, rfl⟩ ⟨by decide, by decide⟩)  rfl (Nat.le_of_ble_eq_true rfl) dX3_three_98 101 rfl ?_
        refine j_istore (lv2 := [(6, .int r11), (5, .int r10), (4, .int r9), (0, .ref (ad g 0)), (1, .int b1), (2, .int b2), (3, .int b3)]) C dX3_three_101 (by decide) rfl 103 rfl ?_
        refine j_bipush C dX3_three_103 (v := 100) c_bipush_100 105 rfl ?_
        refine j_iload C dX3_three_105 2 rfl 107 rfl ?_
        refine j_imul C dX3_three_107 108 rfl ?_
        refine j_bipush C dX3_three_108 (v := 10) c_bipush_10 110 rfl ?_
        refine j_iload C dX3_three_110 1 rfl 112 rfl ?_
        refine j_imul C dX3_three_112 113 rfl ?_
        refine j_iadd C dX3_three_113 114 rfl ?_
        refine j_iload C dX3_three_114 0 rfl 116 rfl ?_
        refine j_iadd C dX3_three_116 117 rfl ?_
        obtain ⟨rfl, rfl⟩ := Prod.mk.inj (Option.some.inj hf)
        exact j_iret C hr hlk dX3_three_117
      · rw [if_neg c8] at hf
        refine j_aload_n C dX3_three_52 rfl 0 rfl 53 rfl ?_
        refine j_iload C dX3_three_53 4 rfl 55 rfl ?_
        refine j_iload_n C dX3_three_55 rfl 1 rfl 56 rfl ?_
        obtain ⟨⟨r13, S14⟩, hq12, hf⟩ := bnd hf
        dsimp only at hf
        refine j_callVi (As := [.int b4, .int b1]) (rest := []) C (c_X3_gainOfThree l g sz S mm  b4 b1 _ _ hq12) (j_cwV C qc_X3_gainOfThree qm_X3_192 qi_X3_gainOfThree qs_X3_gainOfThree qn_X3 hd_X3_gainOfThree ⟨rfl, rfl⟩ ⟨by decide, by decide⟩) (rcv_pl.cell C.2) rfl (Nat.le_of_ble_eq_true rfl) dX3_three_56 59 rfl ?_
        refine j_istore (lv2 := [(5, .int r13), (0, .ref (ad g 0)), (1, .int b1), (2, .int b2), (3, .int b3), (4, .int b4)]) C dX3_three_59 (by decide) rfl 61 rfl ?_
        refine j_iload C dX3_three_61 0 rfl 63 rfl ?_
        refine j_iload_n C dX3_three_63 rfl 4 rfl 64 rfl ?_
        refine j_icmp_le C dX3_three_64 73 (by decide) 67 rfl (fun c15 => ?_) (fun c15 => ?_)
        · rw [if_pos c15] at hf
          refine j_iinc (lv2 := [(4, .int (b4 + 1)), (5, .int r13), (0, .ref (ad g 0)), (1, .int b1), (2, .int b2), (3, .int b3)]) C dX3_three_73 (k := 5) rfl (congrArg (HAdd.hAdd b4) c_oi_1) (by decide) rfl 76 rfl ?_
          refine j_goto C dX3_three_76 42 (by decide) ?_
          refine j_sub [2, 3, 4, 5, 0] rfl ?_
          exact ih b1 b2 b3 (b4 + 1) S14 hf
        · rw [if_neg c15] at hf
          refine j_iload C dX3_three_67 0 rfl 69 rfl ?_
          refine j_istore_n (lv2 := [(3, .int r13), (5, .int r13), (0, .ref (ad g 0)), (1, .int b1), (2, .int b2), (4, .int b4)]) C dX3_three_69 rfl (by decide) rfl 70 rfl ?_
          refine j_iload C dX3_three_70 5 rfl 72 rfl ?_
          refine j_istore_n (lv2 := [(2, .int b4), (3, .int r13), (5, .int r13), (0, .ref (ad g 0)), (1, .int b1), (4, .int b4)]) C dX3_three_72 rfl (by decide) rfl 73 rfl ?_
          refine j_iinc (lv2 := [(4, .int (b4 + 1)), (2, .int b4), (3, .int r13), (5, .int r13), (0, .ref (ad g 0)), (1, .int b1)]) C dX3_three_73 (k := 5) rfl (congrArg (HAdd.hAdd b4) c_oi_1) (by decide) rfl 76 rfl ?_
          refine j_goto C dX3_three_76 42 (by decide) ?_
          refine j_sub [4, 5, 1, 2, 0] rfl ?_
          exact ih b1 b4 r13 (b4 + 1) S14 hf
  unfold X3_three at hf
  refine j_iload_n C dX3_three_0 rfl 1 rfl 1 rfl ?_
  refine j_iconst C dX3_three_1 (v := 0) c_iconst_0 2 rfl ?_
  refine j_bipush C dX3_three_2 (v := 20) c_bipush_20 4 rfl ?_
  refine j_callSi (As := [.int a1, .int 0, .int 20]) (rest := []) C (c_X3_within l g sz S mm a1 0 20 _ rfl) (j_cwS C qc_X3_within qm_X3_66 qs_X3_within qn_X3 hd_X3_within ⟨rfl, rfl⟩ ⟨by decide, by decide⟩)  rfl (Nat.le_of_ble_eq_true rfl) dX3_three_4 7 rfl ?_
  refine j_if_ne C dX3_three_7 16 (by decide) 10 rfl (fun c1 => ?_) (fun c1 => ?_)
  · rw [if_neg c1] at hf
    refine j_aload_n C dX3_three_16 rfl 0 rfl 17 rfl ?_
    refine j_iconst C dX3_three_17 (v := 3) c_iconst_3 18 rfl ?_
    obtain ⟨r2, hr2, hf⟩ := bnd hf
    refine j_callVi (As := [.int 3]) (rest := []) C (c_X3_canDrop l g sz S mm  3 _ hr2) (j_cwV C qc_X3_canDrop qm_X3_189 qi_X3_canDrop qs_X3_canDrop qn_X3 hd_X3_canDrop ⟨rfl, rfl⟩ ⟨by decide, by decide⟩) (rcv_pl.cell C.2) rfl (Nat.le_of_ble_eq_true rfl) dX3_three_18 21 rfl ?_
    refine j_if_ne C dX3_three_21 30 (by decide) 24 rfl (fun c3 => ?_) (fun c3 => ?_)
    · rw [if_neg c3] at hf
      refine j_iconst C dX3_three_30 (v := 0) c_iconst_0 31 rfl ?_
      refine j_istore_n (lv2 := [(2, .int 0), (0, .ref (ad g 0)), (1, .int a1)]) C dX3_three_31 rfl (by decide) rfl 32 rfl ?_
      refine j_aload_n C dX3_three_32 rfl 1 rfl 33 rfl ?_
      refine j_iconst C dX3_three_33 (v := 0) c_iconst_0 34 rfl ?_
      refine j_iload_n C dX3_three_34 rfl 2 rfl 35 rfl ?_
      obtain ⟨⟨r5, S6⟩, hq4, hf⟩ := bnd hf
      dsimp only at hf
      refine j_callVi (As := [.int 0, .int a1]) (rest := []) C (c_X3_gainOfThree l g sz S mm  0 a1 _ _ hq4) (j_cwV C qc_X3_gainOfThree qm_X3_192 qi_X3_gainOfThree qs_X3_gainOfThree qn_X3 hd_X3_gainOfThree ⟨rfl, rfl⟩ ⟨by decide, by decide⟩) (rcv_pl.cell C.2) rfl (Nat.le_of_ble_eq_true rfl) dX3_three_35 38 rfl ?_
      refine j_istore_n (lv2 := [(3, .int r5), (2, .int 0), (0, .ref (ad g 0)), (1, .int a1)]) C dX3_three_38 rfl (by decide) rfl 39 rfl ?_
      refine j_iconst C dX3_three_39 (v := 1) c_iconst_1 40 rfl ?_
      refine j_istore (lv2 := [(4, .int 1), (3, .int r5), (2, .int 0), (0, .ref (ad g 0)), (1, .int a1)]) C dX3_three_40 (by decide) rfl 42 rfl ?_
      refine j_sub [3, 4, 2, 1, 0] rfl ?_
      exact hL42 FU a1 0 r5 1 S6 hf
    · rw [if_pos c3] at hf
      refine j_aload_n C dX3_three_24 rfl 0 rfl 25 rfl ?_
      refine j_iconst C dX3_three_25 (v := 4) c_iconst_4 26 rfl ?_
      obtain ⟨⟨r17, S18⟩, hq16, hf⟩ := bnd hf
      dsimp only at hf
      refine j_callVi (As := [.int 4]) (rest := []) C (c_X3_found l g sz S mm  4 _ _ hq16) (j_cwV C qc_X3_found qm_X3_52 qi_X3_found qs_X3_found qn_X3 hd_X3_found ⟨rfl, rfl⟩ ⟨by decide, by decide⟩) (rcv_pl.cell C.2) rfl (Nat.le_of_ble_eq_true rfl) dX3_three_26 29 rfl ?_
      obtain ⟨rfl, rfl⟩ := Prod.mk.inj (Option.some.inj hf)
      exact j_iret C hr hlk dX3_three_29
  · rw [if_pos c1] at hf
    refine j_aload_n C dX3_three_10 rfl 0 rfl 11 rfl ?_
    refine j_iconst C dX3_three_11 (v := 0) c_iconst_0 12 rfl ?_
    obtain ⟨⟨r20, S21⟩, hq19, hf⟩ := bnd hf
    dsimp only at hf
    refine j_callVi (As := [.int 0]) (rest := []) C (c_X3_found l g sz S mm  0 _ _ hq19) (j_cwV C qc_X3_found qm_X3_52 qi_X3_found qs_X3_found qn_X3 hd_X3_found ⟨rfl, rfl⟩ ⟨by decide, by decide⟩) (rcv_pl.cell C.2) rfl (Nat.le_of_ble_eq_true rfl) dX3_three_12 15 rfl ?_
    obtain ⟨rfl, rfl⟩ := Prod.mk.inj (Option.some.inj hf)
    exact j_iret C hr hlk dX3_three_15
set_option maxRecDepth 100000 in
set_option maxHeartbeats 4000000 in
theorem c_X3_threeBring (l : Launch) (g : GG) (sz : Nat) (S mm : St) (a1 : Int32) (r : Int32) (S' : St) (hf : X3_threeBring a1 S = some (r, S')) : Met l yX3_threeBring (.code yX3_threeBring cX3_threeBring 4 (some .int) :: ALLW) (rmJ 7 162) (PcJ g sz S mm [.ref (ad g 0), .int a1]) (QiJ g sz r S' mm) 0 0 (Ag sz) := by
  refine j_met (own := RX3) (by decide) rfl (Nat.le_of_ble_eq_true rfl) rfl ?_
  intro p e s m args below meth c C hr hlk
  have hL39 : ∀ (n : Nat), ∀ (b1 : Int32) (b2 : Int32) (b3 : Int32) (S : St), X3_threeBring_L39 n b1 b2 b3 S = some (r, S') → Wj p l e (rmJ 7 162) s m args below meth c (MQ below (QiJ g sz r S' mm) args s 0 0 (Ag sz)) 4 g sz S mm 39 [(0, .ref (ad g 0)), (1, .int b1), (2, .int b2), (3, .int b3)] [] := by
    intro  n
    induction n with
    | zero =>
      intro b1 b2 b3 S hf
      rw [X3_threeBring_L39] at hf
      cases hf
    | succ n ih =>
      intro b1 b2 b3 S hf
      rw [X3_threeBring_L39] at hf
      refine j_iload_n C dX3_threeBring_39 rfl 3 rfl 40 rfl ?_
      refine j_gets C 6 (by decide) qf_X3_195 dX3_threeBring_40 43 rfl ?_
      refine j_iconst C dX3_threeBring_43 (v := 3) c_iconst_3 44 rfl ?_
      obtain ⟨v7, hv7, hf⟩ := bnd hf
      refine j_sald C 6 (by decide) hv7 dX3_threeBring_44 45 rfl ?_
      refine j_icmp_ge C dX3_threeBring_45 65 (by decide) 48 rfl (fun c8 => ?_) (fun c8 => ?_)
      · rw [if_pos c8] at hf
        refine j_iload_n C dX3_threeBring_65 rfl 2 rfl 66 rfl ?_
        refine j_aload_n C dX3_threeBring_66 rfl 0 rfl 67 rfl ?_
        refine j3_get C 0 (by decide) qf_X3_12 (v := .ref (ad g 1)) rfl dX3_threeBring_67 70 rfl ?_
        obtain ⟨r9, hr9, hf⟩ := bnd hf
        refine j_x (put_blk S 1 7).symm ?_
        refine j_callVi (As := []) (rest := [.int b2]) C (c_X1_gain l g sz S mm 1 rfl  (blk S 1) _ hr9) (j_cwV C qc_X1_gain qm_X3_127 qi_X1_gain qs_X1_gain qn_X1 hd_X1_gain ⟨rfl, rfl⟩ ⟨by decide, by decide⟩) ((rcv_sh rfl).cell C.2) rfl (Nat.le_of_ble_eq_true rfl) dX3_threeBring_70 73 rfl ?_
        refine j_x (put_blk S 1 7) ?_
        refine j_isub C dX3_threeBring_73 74 rfl ?_
        obtain ⟨rfl, rfl⟩ := Prod.mk.inj (Option.some.inj hf)
        exact j_iret C hr hlk dX3_threeBring_74
      · rw [if_neg c8] at hf
        refine j_iload_n C dX3_threeBring_48 rfl 2 rfl 49 rfl ?_
        refine j_aload_n C dX3_threeBring_49 rfl 0 rfl 50 rfl ?_
        refine j_iload_n C dX3_threeBring_50 rfl 3 rfl 51 rfl ?_
        refine j_iload_n C dX3_threeBring_51 rfl 1 rfl 52 rfl ?_
        obtain ⟨⟨r11, S12⟩, hq10, hf⟩ := bnd hf
        dsimp only at hf
        refine j_callVi (As := [.int b3, .int b1]) (rest := [.int b2]) C (c_X3_gainOfThree l g sz S mm  b3 b1 _ _ hq10) (j_cwV C qc_X3_gainOfThree qm_X3_192 qi_X3_gainOfThree qs_X3_gainOfThree qn_X3 hd_X3_gainOfThree ⟨rfl, rfl⟩ ⟨by decide, by decide⟩) (rcv_pl.cell C.2) rfl (Nat.le_of_ble_eq_true rfl) dX3_threeBring_52 55 rfl ?_
        refine j_mmax C qm_X3_202 dX3_threeBring_55 (Nat.le_of_ble_eq_true rfl) (Nat.le_of_ble_eq_true rfl) 58 rfl ?_
        refine j_istore_n (lv2 := [(2, .int (mxI b2 r11)), (0, .ref (ad g 0)), (1, .int b1), (3, .int b3)]) C dX3_threeBring_58 rfl (by decide) rfl 59 rfl ?_
        refine j_iinc (lv2 := [(3, .int (b3 + 1)), (2, .int (mxI b2 r11)), (0, .ref (ad g 0)), (1, .int b1)]) C dX3_threeBring_59 (k := 3) rfl (congrArg (HAdd.hAdd b3) c_oi_1) (by decide) rfl 62 rfl ?_
        refine j_goto C dX3_threeBring_62 39 (by decide) ?_
        refine j_sub [2, 3, 1, 0] rfl ?_
        exact ih b1 (mxI b2 r11) (b3 + 1) S12 hf
  unfold X3_threeBring at hf
  refine j_iload_n C dX3_threeBring_0 rfl 1 rfl 1 rfl ?_
  refine j_iconst C dX3_threeBring_1 (v := 0) c_iconst_0 2 rfl ?_
  refine j_bipush C dX3_threeBring_2 (v := 20) c_bipush_20 4 rfl ?_
  refine j_callSi (As := [.int a1, .int 0, .int 20]) (rest := []) C (c_X3_within l g sz S mm a1 0 20 _ rfl) (j_cwS C qc_X3_within qm_X3_66 qs_X3_within qn_X3 hd_X3_within ⟨rfl, rfl⟩ ⟨by decide, by decide⟩)  rfl (Nat.le_of_ble_eq_true rfl) dX3_threeBring_4 7 rfl ?_
  refine j_if_ne C dX3_threeBring_7 16 (by decide) 10 rfl (fun c1 => ?_) (fun c1 => ?_)
  · rw [if_neg c1] at hf
    refine j_aload_n C dX3_threeBring_16 rfl 0 rfl 17 rfl ?_
    refine j_iconst C dX3_threeBring_17 (v := 3) c_iconst_3 18 rfl ?_
    obtain ⟨r2, hr2, hf⟩ := bnd hf
    refine j_callVi (As := [.int 3]) (rest := []) C (c_X3_canDrop l g sz S mm  3 _ hr2) (j_cwV C qc_X3_canDrop qm_X3_189 qi_X3_canDrop qs_X3_canDrop qn_X3 hd_X3_canDrop ⟨rfl, rfl⟩ ⟨by decide, by decide⟩) (rcv_pl.cell C.2) rfl (Nat.le_of_ble_eq_true rfl) dX3_threeBring_18 21 rfl ?_
    refine j_if_ne C dX3_threeBring_21 30 (by decide) 24 rfl (fun c3 => ?_) (fun c3 => ?_)
    · rw [if_neg c3] at hf
      refine j_aload_n C dX3_threeBring_30 rfl 0 rfl 31 rfl ?_
      refine j_iconst C dX3_threeBring_31 (v := 0) c_iconst_0 32 rfl ?_
      refine j_iload_n C dX3_threeBring_32 rfl 1 rfl 33 rfl ?_
      obtain ⟨⟨r5, S6⟩, hq4, hf⟩ := bnd hf
      dsimp only at hf
      refine j_callVi (As := [.int 0, .int a1]) (rest := []) C (c_X3_gainOfThree l g sz S mm  0 a1 _ _ hq4) (j_cwV C qc_X3_gainOfThree qm_X3_192 qi_X3_gainOfThree qs_X3_gainOfThree qn_X3 hd_X3_gainOfThree ⟨rfl, rfl⟩ ⟨by decide, by decide⟩) (rcv_pl.cell C.2) rfl (Nat.le_of_ble_eq_true rfl) dX3_threeBring_33 36 rfl ?_
      refine j_istore_n (lv2 := [(2, .int r5), (0, .ref (ad g 0)), (1, .int a1)]) C dX3_threeBring_36 rfl (by decide) rfl 37 rfl ?_
      refine j_iconst C dX3_threeBring_37 (v := 1) c_iconst_1 38 rfl ?_
      refine j_istore_n (lv2 := [(3, .int 1), (2, .int r5), (0, .ref (ad g 0)), (1, .int a1)]) C dX3_threeBring_38 rfl (by decide) rfl 39 rfl ?_
      refine j_sub [2, 3, 1, 0] rfl ?_
      exact hL39 FU a1 r5 1 S6 hf
    · rw [if_pos c3] at hf
      refine j_aload_n C dX3_threeBring_24 rfl 0 rfl 25 rfl ?_
      refine j_iconst C dX3_threeBring_25 (v := 4) c_iconst_4 26 rfl ?_
      obtain ⟨⟨r14, S15⟩, hq13, hf⟩ := bnd hf
      dsimp only at hf
      refine j_callVi (As := [.int 4]) (rest := []) C (c_X3_found l g sz S mm  4 _ _ hq13) (j_cwV C qc_X3_found qm_X3_52 qi_X3_found qs_X3_found qn_X3 hd_X3_found ⟨rfl, rfl⟩ ⟨by decide, by decide⟩) (rcv_pl.cell C.2) rfl (Nat.le_of_ble_eq_true rfl) dX3_threeBring_26 29 rfl ?_
      obtain ⟨rfl, rfl⟩ := Prod.mk.inj (Option.some.inj hf)
      exact j_iret C hr hlk dX3_threeBring_29
  · rw [if_pos c1] at hf
    refine j_aload_n C dX3_threeBring_10 rfl 0 rfl 11 rfl ?_
    refine j_iconst C dX3_threeBring_11 (v := 0) c_iconst_0 12 rfl ?_
    obtain ⟨⟨r17, S18⟩, hq16, hf⟩ := bnd hf
    dsimp only at hf
    refine j_callVi (As := [.int 0]) (rest := []) C (c_X3_found l g sz S mm  0 _ _ hq16) (j_cwV C qc_X3_found qm_X3_52 qi_X3_found qs_X3_found qn_X3 hd_X3_found ⟨rfl, rfl⟩ ⟨by decide, by decide⟩) (rcv_pl.cell C.2) rfl (Nat.le_of_ble_eq_true rfl) dX3_threeBring_12 15 rfl ?_
    obtain ⟨rfl, rfl⟩ := Prod.mk.inj (Option.some.inj hf)
    exact j_iret C hr hlk dX3_threeBring_15
set_option maxRecDepth 100000 in
set_option maxHeartbeats 4000000 in
theorem c_X3_soonestWay (l : Launch) (g : GG) (sz : Nat) (S mm : St) (a1 : Int32) (r : Int32) (S' : St) (hf : X3_soonestWay a1 S = some (r, S')) : Met l yX3_soonestWay (.code yX3_soonestWay cX3_soonestWay 4 (some .int) :: ALLW) (rmJ 6 140) (PcJ g sz S mm [.ref (ad g 0), .int a1]) (QiJ g sz r S' mm) 0 0 (Ag sz) := by
  refine j_met (own := RX3) (by decide) rfl (Nat.le_of_ble_eq_true rfl) rfl ?_
  intro p e s m args below meth c C hr hlk
  have hL19 : ∀ (k2 : Int32 → Int32 → St → Option (Int32 × St)) (_ : ∀ (b1 : Int32) (b2 : Int32) (S : St), k2 b1 b2 S = some (r, S') → Wj p l e (rmJ 6 140) s m args below meth c (MQ below (QiJ g sz r S' mm) args s 0 0 (Ag sz)) 4 g sz S mm 2 [(0, .ref (ad g 0)), (1, .int b1), (2, .int b2)] []), ∀ (n : Nat), ∀ (b1 : Int32) (b2 : Int32) (b3 : Int32) (S : St), X3_soonestWay_L19 k2 n b1 b2 b3 S = some (r, S') → Wj p l e (rmJ 6 140) s m args below meth c (MQ below (QiJ g sz r S' mm) args s 0 0 (Ag sz)) 4 g sz S mm 19 [(0, .ref (ad g 0)), (1, .int b1), (2, .int b2), (3, .int b3)] [] := by
    intro k2 hk2 n
    induction n with
    | zero =>
      intro b1 b2 b3 S hf
      rw [X3_soonestWay_L19] at hf
      cases hf
    | succ n ih =>
      intro b1 b2 b3 S hf
      rw [X3_soonestWay_L19] at hf
      refine j_iload_n C dX3_soonestWay_19 rfl 3 rfl 20 rfl ?_
      refine j_gets C 6 (by decide) qf_X3_195 dX3_soonestWay_20 23 rfl ?_
      refine j_iload_n C dX3_soonestWay_23 rfl 2 rfl 24 rfl ?_
      obtain ⟨v4, hv4, hf⟩ := bnd hf
      refine j_sald C 6 (by decide) hv4 dX3_soonestWay_24 25 rfl ?_
      refine j_icmp_ge C dX3_soonestWay_25 60 (by decide) 28 rfl (fun c5 => ?_) (fun c5 => ?_)
      · rw [if_pos c5] at hf
        refine j_iinc (lv2 := [(2, .int (b2 + 1)), (0, .ref (ad g 0)), (1, .int b1), (3, .int b3)]) C dX3_soonestWay_60 (k := 2) rfl (congrArg (HAdd.hAdd b2) c_oi_1) (by decide) rfl 63 rfl ?_
        refine j_goto C dX3_soonestWay_63 2 (by decide) ?_
        refine j_sub [1, 2, 0] rfl ?_
        exact hk2 b1 (b2 + 1) S hf
      · rw [if_neg c5] at hf
        refine j_aload_n C dX3_soonestWay_28 rfl 0 rfl 29 rfl ?_
        refine j_iload_n C dX3_soonestWay_29 rfl 3 rfl 30 rfl ?_
        refine j_iload_n C dX3_soonestWay_30 rfl 2 rfl 31 rfl ?_
        obtain ⟨⟨r7, S8⟩, hq6, hf⟩ := bnd hf
        dsimp only at hf
        refine j_callVr (As := [.int b3, .int b2]) (rest := []) C (c_X3_walk l g sz S mm  b3 b2 _ _ hq6) (j_cwV C qc_X3_walk qm_X3_210 qi_X3_walk qs_X3_walk qn_X3 hd_X3_walk ⟨rfl, rfl⟩ ⟨by decide, by decide⟩) (rcv_pl.cell C.2) rfl (Nat.le_of_ble_eq_true rfl) dX3_soonestWay_31 34 rfl ?_
        obtain ⟨kv9, hkv9, hf⟩ := bnd hf
        refine j3s_get (gsh_ok hkv9) C 1 (by decide) qf_X3_92 (v := .ref (ad g (r7 + 2))) rfl dX3_soonestWay_34 37 rfl ?_
        refine j_iload_n C dX3_soonestWay_37 rfl 1 rfl 38 rfl ?_
        obtain ⟨v10, hv10, hf⟩ := bnd hf
        refine j3s_ald (k := r7) (gsh_ok hkv9) 2 (by decide) (by decide) C hv10 dX3_soonestWay_38 39 rfl ?_
        refine j_bipush C dX3_soonestWay_39 (v := 101) c_bipush_101 41 rfl ?_
        refine j_icmp_ne C dX3_soonestWay_41 54 (by decide) 44 rfl (fun c11 => ?_) (fun c11 => ?_)
        · rw [if_neg c11] at hf
          refine j_iinc (lv2 := [(3, .int (b3 + 1)), (0, .ref (ad g 0)), (1, .int b1), (2, .int b2)]) C dX3_soonestWay_54 (k := 3) rfl (congrArg (HAdd.hAdd b3) c_oi_1) (by decide) rfl 57 rfl ?_
          refine j_goto C dX3_soonestWay_57 19 (by decide) ?_
          refine j_sub [1, 2, 3, 0] rfl ?_
          exact ih b1 b2 (b3 + 1) S8 hf
        · rw [if_pos c11] at hf
          refine j_iload_n C dX3_soonestWay_44 rfl 2 rfl 45 rfl ?_
          refine j_gets C 6 (by decide) qf_X3_195 dX3_soonestWay_45 48 rfl ?_
          refine j_iconst C dX3_soonestWay_48 (v := 3) c_iconst_3 49 rfl ?_
          obtain ⟨v12, hv12, hf⟩ := bnd hf
          refine j_sald C 6 (by decide) hv12 dX3_soonestWay_49 50 rfl ?_
          refine j_imul C dX3_soonestWay_50 51 rfl ?_
          refine j_iload_n C dX3_soonestWay_51 rfl 3 rfl 52 rfl ?_
          refine j_iadd C dX3_soonestWay_52 53 rfl ?_
          obtain ⟨rfl, rfl⟩ := Prod.mk.inj (Option.some.inj hf)
          exact j_iret C hr hlk dX3_soonestWay_53
  have hL2 : ∀ (n : Nat), ∀ (b1 : Int32) (b2 : Int32) (S : St), X3_soonestWay_L2 n b1 b2 S = some (r, S') → Wj p l e (rmJ 6 140) s m args below meth c (MQ below (QiJ g sz r S' mm) args s 0 0 (Ag sz)) 4 g sz S mm 2 [(0, .ref (ad g 0)), (1, .int b1), (2, .int b2)] [] := by
    intro  n
    induction n with
    | zero =>
      intro b1 b2 S hf
      rw [X3_soonestWay_L2] at hf
      cases hf
    | succ n ih =>
      intro b1 b2 S hf
      rw [X3_soonestWay_L2] at hf
      refine j_iload_n C dX3_soonestWay_2 rfl 2 rfl 3 rfl ?_
      refine j_iconst C dX3_soonestWay_3 (v := 3) c_iconst_3 4 rfl ?_
      refine j_icmp_gt C dX3_soonestWay_4 66 (by decide) 7 rfl (fun c1 => ?_) (fun c1 => ?_)
      · rw [if_pos c1] at hf
        refine j_iconst C dX3_soonestWay_66 (v := (-1)) c_iconst_m1 67 rfl ?_
        obtain ⟨rfl, rfl⟩ := Prod.mk.inj (Option.some.inj hf)
        exact j_iret C hr hlk dX3_soonestWay_67
      · rw [if_neg c1] at hf
        refine j_aload_n C dX3_soonestWay_7 rfl 0 rfl 8 rfl ?_
        refine j_iload_n C dX3_soonestWay_8 rfl 2 rfl 9 rfl ?_
        obtain ⟨r2, hr2, hf⟩ := bnd hf
        refine j_callVi (As := [.int b2]) (rest := []) C (c_X3_canDrop l g sz S mm  b2 _ hr2) (j_cwV C qc_X3_canDrop qm_X3_189 qi_X3_canDrop qs_X3_canDrop qn_X3 hd_X3_canDrop ⟨rfl, rfl⟩ ⟨by decide, by decide⟩) (rcv_pl.cell C.2) rfl (Nat.le_of_ble_eq_true rfl) dX3_soonestWay_9 12 rfl ?_
        refine j_if_ne C dX3_soonestWay_12 17 (by decide) 15 rfl (fun c3 => ?_) (fun c3 => ?_)
        · rw [if_neg c3] at hf
          refine j_iconst C dX3_soonestWay_17 (v := 0) c_iconst_0 18 rfl ?_
          refine j_istore_n (lv2 := [(3, .int 0), (0, .ref (ad g 0)), (1, .int b1), (2, .int b2)]) C dX3_soonestWay_18 rfl (by decide) rfl 19 rfl ?_
          refine j_sub [1, 2, 3, 0] rfl ?_
          exact hL19 _ ih FU b1 b2 0 S hf
        · rw [if_pos c3] at hf
          refine j_iconst C dX3_soonestWay_15 (v := (-1)) c_iconst_m1 16 rfl ?_
          obtain ⟨rfl, rfl⟩ := Prod.mk.inj (Option.some.inj hf)
          exact j_iret C hr hlk dX3_soonestWay_16
  unfold X3_soonestWay at hf
  refine j_iconst C dX3_soonestWay_0 (v := 0) c_iconst_0 1 rfl ?_
  refine j_istore_n (lv2 := [(2, .int 0), (0, .ref (ad g 0)), (1, .int a1)]) C dX3_soonestWay_1 rfl (by decide) rfl 2 rfl ?_
  refine j_sub [1, 2, 0] rfl ?_
  exact hL2 FU a1 0 S hf
set_option maxRecDepth 100000 in
set_option maxHeartbeats 4000000 in
theorem c_X3_soonest (l : Launch) (g : GG) (sz : Nat) (S mm : St) (a1 : Int32) (r : Int32) (S' : St) (hf : X3_soonest a1 S = some (r, S')) : Met l yX3_soonest (.code yX3_soonest cX3_soonest 3 (some .int) :: ALLW) (rmJ 7 163) (PcJ g sz S mm [.ref (ad g 0), .int a1]) (QiJ g sz r S' mm) 0 0 (Ag sz) := by
  refine j_met (own := RX3) (by decide) rfl (Nat.le_of_ble_eq_true rfl) rfl ?_
  intro p e s m args below meth c C hr hlk
  unfold X3_soonest at hf
  refine j_aload_n C dX3_soonest_0 rfl 0 rfl 1 rfl ?_
  refine j_iload_n C dX3_soonest_1 rfl 1 rfl 2 rfl ?_
  refine j_callVi (As := [.int a1]) (rest := []) C (c_X3_isCoin l g sz S mm  a1 _ rfl) (j_cwV C qc_X3_isCoin qm_X3_63 qi_X3_isCoin qs_X3_isCoin qn_X3 hd_X3_isCoin ⟨rfl, rfl⟩ ⟨by decide, by decide⟩) (rcv_pl.cell C.2) rfl (Nat.le_of_ble_eq_true rfl) dX3_soonest_2 5 rfl ?_
  refine j_if_ne C dX3_soonest_5 14 (by decide) 8 rfl (fun c1 => ?_) (fun c1 => ?_)
  · rw [if_neg c1] at hf
    refine j_aload_n C dX3_soonest_14 rfl 0 rfl 15 rfl ?_
    refine j3_get C 0 (by decide) qf_X3_12 (v := .ref (ad g 1)) rfl dX3_soonest_15 18 rfl ?_
    refine j3s_get (k := 1) rfl C 7 (by decide) qf_X3_141 (v := .int (S 1 7)) rfl dX3_soonest_18 21 rfl ?_
    refine j_sipush C dX3_soonest_21 (v := 9900) c_sipush_9900 24 rfl ?_
    refine j_icmp_le C dX3_soonest_24 33 (by decide) 27 rfl (fun c2 => ?_) (fun c2 => ?_)
    · rw [if_pos c2] at hf
      refine j_aload_n C dX3_soonest_33 rfl 0 rfl 34 rfl ?_
      refine j_iload_n C dX3_soonest_34 rfl 1 rfl 35 rfl ?_
      obtain ⟨⟨r4, S5⟩, hq3, hf⟩ := bnd hf
      dsimp only at hf
      refine j_callVi (As := [.int a1]) (rest := []) C (c_X3_soonestWay l g sz S mm  a1 _ _ hq3) (j_cwV C qc_X3_soonestWay qm_X3_207 qi_X3_soonestWay qs_X3_soonestWay qn_X3 hd_X3_soonestWay ⟨rfl, rfl⟩ ⟨by decide, by decide⟩) (rcv_pl.cell C.2) rfl (Nat.le_of_ble_eq_true rfl) dX3_soonest_35 38 rfl ?_
      refine j_istore_n (lv2 := [(2, .int r4), (0, .ref (ad g 0)), (1, .int a1)]) C dX3_soonest_38 rfl (by decide) rfl 39 rfl ?_
      refine j_iload_n C dX3_soonest_39 rfl 0 rfl 40 rfl ?_
      refine j_if_ge C dX3_soonest_40 51 (by decide) 43 rfl (fun c6 => ?_) (fun c6 => ?_)
      · rw [if_pos c6] at hf
        refine j_iload_n C dX3_soonest_51 rfl 0 rfl 52 rfl ?_
        refine j_gets C 6 (by decide) qf_X3_195 dX3_soonest_52 55 rfl ?_
        refine j_iconst C dX3_soonest_55 (v := 3) c_iconst_3 56 rfl ?_
        obtain ⟨v7, hv7, hf⟩ := bnd hf
        refine j_sald C 6 (by decide) hv7 dX3_soonest_56 57 rfl ?_
        obtain ⟨v8, hv8, hf⟩ := bnd hf
        refine j_idiv C dX3_soonest_57 hv8 58 rfl ?_
        obtain ⟨rfl, rfl⟩ := Prod.mk.inj (Option.some.inj hf)
        exact j_iret C hr hlk dX3_soonest_58
      · rw [if_neg c6] at hf
        refine j_aload_n C dX3_soonest_43 rfl 1 rfl 44 rfl ?_
        refine j_iconst C dX3_soonest_44 (v := 3) c_iconst_3 45 rfl ?_
        obtain ⟨⟨r10, S11⟩, hq9, hf⟩ := bnd hf
        dsimp only at hf
        refine j_callVi (As := [.int 3]) (rest := []) C (c_X3_found l g sz S5 mm  3 _ _ hq9) (j_cwV C qc_X3_found qm_X3_52 qi_X3_found qs_X3_found qn_X3 hd_X3_found ⟨rfl, rfl⟩ ⟨by decide, by decide⟩) (rcv_pl.cell C.2) rfl (Nat.le_of_ble_eq_true rfl) dX3_soonest_45 48 rfl ?_
        refine j_goto C dX3_soonest_48 58 (by decide) ?_
        obtain ⟨rfl, rfl⟩ := Prod.mk.inj (Option.some.inj hf)
        exact j_iret C hr hlk dX3_soonest_58
    · rw [if_neg c2] at hf
      refine j_aload_n C dX3_soonest_27 rfl 0 rfl 28 rfl ?_
      refine j_iconst C dX3_soonest_28 (v := 4) c_iconst_4 29 rfl ?_
      obtain ⟨⟨r13, S14⟩, hq12, hf⟩ := bnd hf
      dsimp only at hf
      refine j_callVi (As := [.int 4]) (rest := []) C (c_X3_found l g sz S mm  4 _ _ hq12) (j_cwV C qc_X3_found qm_X3_52 qi_X3_found qs_X3_found qn_X3 hd_X3_found ⟨rfl, rfl⟩ ⟨by decide, by decide⟩) (rcv_pl.cell C.2) rfl (Nat.le_of_ble_eq_true rfl) dX3_soonest_29 32 rfl ?_
      obtain ⟨rfl, rfl⟩ := Prod.mk.inj (Option.some.inj hf)
      exact j_iret C hr hlk dX3_soonest_32
  · rw [if_pos c1] at hf
    refine j_aload_n C dX3_soonest_8 rfl 0 rfl 9 rfl ?_
    refine j_iconst C dX3_soonest_9 (v := 0) c_iconst_0 10 rfl ?_
    obtain ⟨⟨r16, S17⟩, hq15, hf⟩ := bnd hf
    dsimp only at hf
    refine j_callVi (As := [.int 0]) (rest := []) C (c_X3_found l g sz S mm  0 _ _ hq15) (j_cwV C qc_X3_found qm_X3_52 qi_X3_found qs_X3_found qn_X3 hd_X3_found ⟨rfl, rfl⟩ ⟨by decide, by decide⟩) (rcv_pl.cell C.2) rfl (Nat.le_of_ble_eq_true rfl) dX3_soonest_10 13 rfl ?_
    obtain ⟨rfl, rfl⟩ := Prod.mk.inj (Option.some.inj hf)
    exact j_iret C hr hlk dX3_soonest_13
set_option maxRecDepth 100000 in
set_option maxHeartbeats 4000000 in
theorem c_X3_firstFor (l : Launch) (g : GG) (sz : Nat) (S mm : St) (a1 : Int32) (r : Int32) (S' : St) (hf : X3_firstFor a1 S = some (r, S')) : Met l yX3_firstFor (.code yX3_firstFor cX3_firstFor 5 (some .int) :: ALLW) (rmJ 7 163) (PcJ g sz S mm [.ref (ad g 0), .int a1]) (QiJ g sz r S' mm) 0 0 (Ag sz) := by
  refine j_met (own := RX3) (by decide) rfl (Nat.le_of_ble_eq_true rfl) rfl ?_
  intro p e s m args below meth c C hr hlk
  unfold X3_firstFor at hf
  refine j_aload_n C dX3_firstFor_0 rfl 0 rfl 1 rfl ?_
  refine j_iload_n C dX3_firstFor_1 rfl 1 rfl 2 rfl ?_
  refine j_callVi (As := [.int a1]) (rest := []) C (c_X3_isCoin l g sz S mm  a1 _ rfl) (j_cwV C qc_X3_isCoin qm_X3_63 qi_X3_isCoin qs_X3_isCoin qn_X3 hd_X3_isCoin ⟨rfl, rfl⟩ ⟨by decide, by decide⟩) (rcv_pl.cell C.2) rfl (Nat.le_of_ble_eq_true rfl) dX3_firstFor_2 5 rfl ?_
  refine j_if_ne C dX3_firstFor_5 14 (by decide) 8 rfl (fun c1 => ?_) (fun c1 => ?_)
  · rw [if_neg c1] at hf
    refine j_aload_n C dX3_firstFor_14 rfl 0 rfl 15 rfl ?_
    refine j3_get C 0 (by decide) qf_X3_12 (v := .ref (ad g 1)) rfl dX3_firstFor_15 18 rfl ?_
    refine j3s_get (k := 1) rfl C 7 (by decide) qf_X3_141 (v := .int (S 1 7)) rfl dX3_firstFor_18 21 rfl ?_
    refine j_sipush C dX3_firstFor_21 (v := 9900) c_sipush_9900 24 rfl ?_
    refine j_icmp_le C dX3_firstFor_24 33 (by decide) 27 rfl (fun c2 => ?_) (fun c2 => ?_)
    · rw [if_pos c2] at hf
      refine j_aload_n C dX3_firstFor_33 rfl 0 rfl 34 rfl ?_
      refine j_iload_n C dX3_firstFor_34 rfl 1 rfl 35 rfl ?_
      obtain ⟨⟨r4, S5⟩, hq3, hf⟩ := bnd hf
      dsimp only at hf
      refine j_callVi (As := [.int a1]) (rest := []) C (c_X3_soonestWay l g sz S mm  a1 _ _ hq3) (j_cwV C qc_X3_soonestWay qm_X3_207 qi_X3_soonestWay qs_X3_soonestWay qn_X3 hd_X3_soonestWay ⟨rfl, rfl⟩ ⟨by decide, by decide⟩) (rcv_pl.cell C.2) rfl (Nat.le_of_ble_eq_true rfl) dX3_firstFor_35 38 rfl ?_
      refine j_istore_n (lv2 := [(2, .int r4), (0, .ref (ad g 0)), (1, .int a1)]) C dX3_firstFor_38 rfl (by decide) rfl 39 rfl ?_
      refine j_iload_n C dX3_firstFor_39 rfl 0 rfl 40 rfl ?_
      refine j_gets C 6 (by decide) qf_X3_195 dX3_firstFor_40 43 rfl ?_
      refine j_iconst C dX3_firstFor_43 (v := 3) c_iconst_3 44 rfl ?_
      obtain ⟨v6, hv6, hf⟩ := bnd hf
      refine j_sald C 6 (by decide) hv6 dX3_firstFor_44 45 rfl ?_
      refine j_icmp_ge C dX3_firstFor_45 54 (by decide) 48 rfl (fun c7 => ?_) (fun c7 => ?_)
      · rw [if_pos c7] at hf
        refine j_iload_n C dX3_firstFor_54 rfl 0 rfl 55 rfl ?_
        refine j_gets C 6 (by decide) qf_X3_195 dX3_firstFor_55 58 rfl ?_
        refine j_iconst C dX3_firstFor_58 (v := 3) c_iconst_3 59 rfl ?_
        obtain ⟨v8, hv8, hf⟩ := bnd hf
        refine j_sald C 6 (by decide) hv8 dX3_firstFor_59 60 rfl ?_
        obtain ⟨v9, hv9, hf⟩ := bnd hf
        refine j_idiv C dX3_firstFor_60 hv9 61 rfl ?_
        refine j_istore_n (lv2 := [(3, .int v9), (2, .int r4), (0, .ref (ad g 0)), (1, .int a1)]) C dX3_firstFor_61 rfl (by decide) rfl 62 rfl ?_
        refine j_iload_n C dX3_firstFor_62 rfl 1 rfl 63 rfl ?_
        refine j_gets C 6 (by decide) qf_X3_195 dX3_firstFor_63 66 rfl ?_
        refine j_iconst C dX3_firstFor_66 (v := 3) c_iconst_3 67 rfl ?_
        obtain ⟨v10, hv10, hf⟩ := bnd hf
        refine j_sald C 6 (by decide) hv10 dX3_firstFor_67 68 rfl ?_
        obtain ⟨v11, hv11, hf⟩ := bnd hf
        refine j_irem C dX3_firstFor_68 hv11 69 rfl ?_
        refine j_istore (lv2 := [(4, .int v11), (3, .int v9), (2, .int r4), (0, .ref (ad g 0)), (1, .int a1)]) C dX3_firstFor_69 (by decide) rfl 71 rfl ?_
        refine j_iload C dX3_firstFor_71 0 rfl 73 rfl ?_
        refine j_iload_n C dX3_firstFor_73 rfl 1 rfl 74 rfl ?_
        refine j_iconst C dX3_firstFor_74 (v := 1) c_iconst_1 75 rfl ?_
        obtain ⟨r12, hr12, hf⟩ := bnd hf
        refine j_callSi (As := [.int v11, .int v9, .int 1]) (rest := []) C (c_X3_columnOf l g sz S5 mm v11 v9 1 _ hr12) (j_cwS C qc_X3_columnOf qm_X3_198 qs_X3_columnOf qn_X3 hd_X3_columnOf ⟨rfl, rfl⟩ ⟨by decide, by decide⟩)  rfl (Nat.le_of_ble_eq_true rfl) dX3_firstFor_75 78 rfl ?_
        obtain ⟨rfl, rfl⟩ := Prod.mk.inj (Option.some.inj hf)
        exact j_iret C hr hlk dX3_firstFor_78
      · rw [if_neg c7] at hf
        refine j_aload_n C dX3_firstFor_48 rfl 1 rfl 49 rfl ?_
        refine j_iconst C dX3_firstFor_49 (v := 3) c_iconst_3 50 rfl ?_
        obtain ⟨⟨r14, S15⟩, hq13, hf⟩ := bnd hf
        dsimp only at hf
        refine j_callVi (As := [.int 3]) (rest := []) C (c_X3_found l g sz S5 mm  3 _ _ hq13) (j_cwV C qc_X3_found qm_X3_52 qi_X3_found qs_X3_found qn_X3 hd_X3_found ⟨rfl, rfl⟩ ⟨by decide, by decide⟩) (rcv_pl.cell C.2) rfl (Nat.le_of_ble_eq_true rfl) dX3_firstFor_50 53 rfl ?_
        obtain ⟨rfl, rfl⟩ := Prod.mk.inj (Option.some.inj hf)
        exact j_iret C hr hlk dX3_firstFor_53
    · rw [if_neg c2] at hf
      refine j_aload_n C dX3_firstFor_27 rfl 0 rfl 28 rfl ?_
      refine j_iconst C dX3_firstFor_28 (v := 4) c_iconst_4 29 rfl ?_
      obtain ⟨⟨r17, S18⟩, hq16, hf⟩ := bnd hf
      dsimp only at hf
      refine j_callVi (As := [.int 4]) (rest := []) C (c_X3_found l g sz S mm  4 _ _ hq16) (j_cwV C qc_X3_found qm_X3_52 qi_X3_found qs_X3_found qn_X3 hd_X3_found ⟨rfl, rfl⟩ ⟨by decide, by decide⟩) (rcv_pl.cell C.2) rfl (Nat.le_of_ble_eq_true rfl) dX3_firstFor_29 32 rfl ?_
      obtain ⟨rfl, rfl⟩ := Prod.mk.inj (Option.some.inj hf)
      exact j_iret C hr hlk dX3_firstFor_32
  · rw [if_pos c1] at hf
    refine j_aload_n C dX3_firstFor_8 rfl 0 rfl 9 rfl ?_
    refine j_iconst C dX3_firstFor_9 (v := 0) c_iconst_0 10 rfl ?_
    obtain ⟨⟨r20, S21⟩, hq19, hf⟩ := bnd hf
    dsimp only at hf
    refine j_callVi (As := [.int 0]) (rest := []) C (c_X3_found l g sz S mm  0 _ _ hq19) (j_cwV C qc_X3_found qm_X3_52 qi_X3_found qs_X3_found qn_X3 hd_X3_found ⟨rfl, rfl⟩ ⟨by decide, by decide⟩) (rcv_pl.cell C.2) rfl (Nat.le_of_ble_eq_true rfl) dX3_firstFor_10 13 rfl ?_
    obtain ⟨rfl, rfl⟩ := Prod.mk.inj (Option.some.inj hf)
    exact j_iret C hr hlk dX3_firstFor_13
set_option maxRecDepth 100000 in
set_option maxHeartbeats 4000000 in
theorem c_X3_ways (l : Launch) (g : GG) (sz : Nat) (S mm : St) (a1 : Int32) (a2 : Int32) (r : Int64) (S' : St) (hf : X3_ways a1 a2 S = some (r, S')) : Met l yX3_ways (.code yX3_ways cX3_ways 5 (some .long) :: ALLW) (rmJ 6 140) (PcJ g sz S mm [.ref (ad g 0), .int a1, .int a2]) (QlJ g sz r S' mm) 0 0 (Ag sz) := by
  refine j_met (own := RX3) (by decide) rfl (Nat.le_of_ble_eq_true rfl) rfl ?_
  intro p e s m args below meth c C hr hlk
  have hL48 : ∀ (n : Nat), ∀ (b1 : Int32) (b2 : Int32) (b3 : Int32) (b4 : Int32) (S : St), X3_ways_L48 n b1 b2 b3 b4 S = some (r, S') → Wj p l e (rmJ 6 140) s m args below meth c (MQ below (QlJ g sz r S' mm) args s 0 0 (Ag sz)) 5 g sz S mm 48 [(0, .ref (ad g 0)), (1, .int b1), (2, .int b2), (3, .int b3), (4, .int b4)] [] := by
    intro  n
    induction n with
    | zero =>
      intro b1 b2 b3 b4 S hf
      rw [X3_ways_L48] at hf
      cases hf
    | succ n ih =>
      intro b1 b2 b3 b4 S hf
      rw [X3_ways_L48] at hf
      refine j_iload C dX3_ways_48 4 rfl 50 rfl ?_
      refine j_gets C 6 (by decide) qf_X3_195 dX3_ways_50 53 rfl ?_
      refine j_iload_n C dX3_ways_53 rfl 1 rfl 54 rfl ?_
      obtain ⟨v8, hv8, hf⟩ := bnd hf
      refine j_sald C 6 (by decide) hv8 dX3_ways_54 55 rfl ?_
      refine j_icmp_ge C dX3_ways_55 81 (by decide) 58 rfl (fun c9 => ?_) (fun c9 => ?_)
      · rw [if_pos c9] at hf
        refine j_iload_n C dX3_ways_81 rfl 3 rfl 82 rfl ?_
        refine j_i2l C dX3_ways_82 83 rfl ?_
        obtain ⟨rfl, rfl⟩ := Prod.mk.inj (Option.some.inj hf)
        exact j_lret C hr hlk dX3_ways_83
      · rw [if_neg c9] at hf
        refine j_aload_n C dX3_ways_58 rfl 0 rfl 59 rfl ?_
        refine j_iload C dX3_ways_59 4 rfl 61 rfl ?_
        refine j_iload_n C dX3_ways_61 rfl 1 rfl 62 rfl ?_
        obtain ⟨⟨r11, S12⟩, hq10, hf⟩ := bnd hf
        dsimp only at hf
        refine j_callVr (As := [.int b4, .int b1]) (rest := []) C (c_X3_walk l g sz S mm  b4 b1 _ _ hq10) (j_cwV C qc_X3_walk qm_X3_210 qi_X3_walk qs_X3_walk qn_X3 hd_X3_walk ⟨rfl, rfl⟩ ⟨by decide, by decide⟩) (rcv_pl.cell C.2) rfl (Nat.le_of_ble_eq_true rfl) dX3_ways_62 65 rfl ?_
        obtain ⟨kv13, hkv13, hf⟩ := bnd hf
        obtain ⟨r14, hr14, hf⟩ := bnd hf
        refine j_x (put_blk S12 r11 7).symm ?_
        refine j_callVi (As := []) (rest := []) C (c_X1_gain l g sz S12 mm r11 (gsh_ok hkv13)  (blk S12 r11) _ hr14) (j_cwV C qc_X1_gain qm_X3_127 qi_X1_gain qs_X1_gain qn_X1 hd_X1_gain ⟨rfl, rfl⟩ ⟨by decide, by decide⟩) ((rcv_sh (gsh_ok hkv13)).cell C.2) rfl (Nat.le_of_ble_eq_true rfl) dX3_ways_65 68 rfl ?_
        refine j_x (put_blk S12 r11 7) ?_
        refine j_iload_n C dX3_ways_68 rfl 2 rfl 69 rfl ?_
        refine j_icmp_lt C dX3_ways_69 75 (by decide) 72 rfl (fun c15 => ?_) (fun c15 => ?_)
        · rw [if_pos c15] at hf
          refine j_iinc (lv2 := [(4, .int (b4 + 1)), (0, .ref (ad g 0)), (1, .int b1), (2, .int b2), (3, .int b3)]) C dX3_ways_75 (k := 4) rfl (congrArg (HAdd.hAdd b4) c_oi_1) (by decide) rfl 78 rfl ?_
          refine j_goto C dX3_ways_78 48 (by decide) ?_
          refine j_sub [1, 2, 3, 4, 0] rfl ?_
          exact ih b1 b2 b3 (b4 + 1) S12 hf
        · rw [if_neg c15] at hf
          refine j_iinc (lv2 := [(3, .int (b3 + 1)), (0, .ref (ad g 0)), (1, .int b1), (2, .int b2), (4, .int b4)]) C dX3_ways_72 (k := 3) rfl (congrArg (HAdd.hAdd b3) c_oi_1) (by decide) rfl 75 rfl ?_
          refine j_iinc (lv2 := [(4, .int (b4 + 1)), (3, .int (b3 + 1)), (0, .ref (ad g 0)), (1, .int b1), (2, .int b2)]) C dX3_ways_75 (k := 4) rfl (congrArg (HAdd.hAdd b4) c_oi_1) (by decide) rfl 78 rfl ?_
          refine j_goto C dX3_ways_78 48 (by decide) ?_
          refine j_sub [2, 3, 4, 1, 0] rfl ?_
          exact ih b1 b2 (b3 + 1) (b4 + 1) S12 hf
  unfold X3_ways at hf
  refine j_iload_n C dX3_ways_0 rfl 1 rfl 1 rfl ?_
  refine j_iconst C dX3_ways_1 (v := 0) c_iconst_0 2 rfl ?_
  refine j_iconst C dX3_ways_2 (v := 3) c_iconst_3 3 rfl ?_
  refine j_callSi (As := [.int a1, .int 0, .int 3]) (rest := []) C (c_X3_within l g sz S mm a1 0 3 _ rfl) (j_cwS C qc_X3_within qm_X3_66 qs_X3_within qn_X3 hd_X3_within ⟨rfl, rfl⟩ ⟨by decide, by decide⟩)  rfl (Nat.le_of_ble_eq_true rfl) dX3_ways_3 6 rfl ?_
  refine j_if_eq C dX3_ways_6 21 (by decide) 9 rfl (fun c1 => ?_) (fun c1 => ?_)
  · rw [if_pos c1] at hf
    refine j_aload_n C dX3_ways_21 rfl 0 rfl 22 rfl ?_
    refine j_iconst C dX3_ways_22 (v := 0) c_iconst_0 23 rfl ?_
    obtain ⟨⟨r3, S4⟩, hq2, hf⟩ := bnd hf
    dsimp only at hf
    refine j_callVi (As := [.int 0]) (rest := []) C (c_X3_found l g sz S mm  0 _ _ hq2) (j_cwV C qc_X3_found qm_X3_52 qi_X3_found qs_X3_found qn_X3 hd_X3_found ⟨rfl, rfl⟩ ⟨by decide, by decide⟩) (rcv_pl.cell C.2) rfl (Nat.le_of_ble_eq_true rfl) dX3_ways_23 26 rfl ?_
    refine j_i2l C dX3_ways_26 27 rfl ?_
    obtain ⟨rfl, rfl⟩ := Prod.mk.inj (Option.some.inj hf)
    exact j_lret C hr hlk dX3_ways_27
  · rw [if_neg c1] at hf
    refine j_iload_n C dX3_ways_9 rfl 2 rfl 10 rfl ?_
    refine j_bipush C dX3_ways_10 (v := (-99)) c_bipush_m99 12 rfl ?_
    refine j_sipush C dX3_ways_12 (v := 999) c_sipush_999 15 rfl ?_
    refine j_callSi (As := [.int a2, .int (-99), .int 999]) (rest := []) C (c_X3_within l g sz S mm a2 (-99) 999 _ rfl) (j_cwS C qc_X3_within qm_X3_66 qs_X3_within qn_X3 hd_X3_within ⟨rfl, rfl⟩ ⟨by decide, by decide⟩)  rfl (Nat.le_of_ble_eq_true rfl) dX3_ways_15 18 rfl ?_
    refine j_if_ne C dX3_ways_18 28 (by decide) 21 rfl (fun c5 => ?_) (fun c5 => ?_)
    · rw [if_neg c5] at hf
      refine j_aload_n C dX3_ways_28 rfl 0 rfl 29 rfl ?_
      refine j_iload_n C dX3_ways_29 rfl 1 rfl 30 rfl ?_
      obtain ⟨r6, hr6, hf⟩ := bnd hf
      refine j_callVi (As := [.int a1]) (rest := []) C (c_X3_canDrop l g sz S mm  a1 _ hr6) (j_cwV C qc_X3_canDrop qm_X3_189 qi_X3_canDrop qs_X3_canDrop qn_X3 hd_X3_canDrop ⟨rfl, rfl⟩ ⟨by decide, by decide⟩) (rcv_pl.cell C.2) rfl (Nat.le_of_ble_eq_true rfl) dX3_ways_30 33 rfl ?_
      refine j_if_ne C dX3_ways_33 43 (by decide) 36 rfl (fun c7 => ?_) (fun c7 => ?_)
      · rw [if_neg c7] at hf
        refine j_iconst C dX3_ways_43 (v := 0) c_iconst_0 44 rfl ?_
        refine j_istore_n (lv2 := [(3, .int 0), (0, .ref (ad g 0)), (1, .int a1), (2, .int a2)]) C dX3_ways_44 rfl (by decide) rfl 45 rfl ?_
        refine j_iconst C dX3_ways_45 (v := 0) c_iconst_0 46 rfl ?_
        refine j_istore (lv2 := [(4, .int 0), (3, .int 0), (0, .ref (ad g 0)), (1, .int a1), (2, .int a2)]) C dX3_ways_46 (by decide) rfl 48 rfl ?_
        refine j_sub [2, 3, 4, 1, 0] rfl ?_
        exact hL48 FU a1 a2 0 0 S hf
      · rw [if_pos c7] at hf
        refine j_aload_n C dX3_ways_36 rfl 0 rfl 37 rfl ?_
        refine j_iconst C dX3_ways_37 (v := 4) c_iconst_4 38 rfl ?_
        obtain ⟨⟨r17, S18⟩, hq16, hf⟩ := bnd hf
        dsimp only at hf
        refine j_callVi (As := [.int 4]) (rest := []) C (c_X3_found l g sz S mm  4 _ _ hq16) (j_cwV C qc_X3_found qm_X3_52 qi_X3_found qs_X3_found qn_X3 hd_X3_found ⟨rfl, rfl⟩ ⟨by decide, by decide⟩) (rcv_pl.cell C.2) rfl (Nat.le_of_ble_eq_true rfl) dX3_ways_38 41 rfl ?_
        refine j_i2l C dX3_ways_41 42 rfl ?_
        obtain ⟨rfl, rfl⟩ := Prod.mk.inj (Option.some.inj hf)
        exact j_lret C hr hlk dX3_ways_42
    · rw [if_pos c5] at hf
      refine j_aload_n C dX3_ways_21 rfl 0 rfl 22 rfl ?_
      refine j_iconst C dX3_ways_22 (v := 0) c_iconst_0 23 rfl ?_
      obtain ⟨⟨r20, S21⟩, hq19, hf⟩ := bnd hf
      dsimp only at hf
      refine j_callVi (As := [.int 0]) (rest := []) C (c_X3_found l g sz S mm  0 _ _ hq19) (j_cwV C qc_X3_found qm_X3_52 qi_X3_found qs_X3_found qn_X3 hd_X3_found ⟨rfl, rfl⟩ ⟨by decide, by decide⟩) (rcv_pl.cell C.2) rfl (Nat.le_of_ble_eq_true rfl) dX3_ways_23 26 rfl ?_
      refine j_i2l C dX3_ways_26 27 rfl ?_
      obtain ⟨rfl, rfl⟩ := Prod.mk.inj (Option.some.inj hf)
      exact j_lret C hr hlk dX3_ways_27
set_option maxRecDepth 100000 in
set_option maxHeartbeats 4000000 in
theorem c_X3_total (l : Launch) (g : GG) (sz : Nat) (S mm : St) (a1 : Int32) (r : Int64) (S' : St) (hf : X3_total a1 S = some (r, S')) : Met l yX3_total (.code yX3_total cX3_total 6 (some .long) :: ALLW) (rmJ 6 140) (PcJ g sz S mm [.ref (ad g 0), .int a1]) (QlJ g sz r S' mm) 0 0 (Ag sz) := by
  refine j_met (own := RX3) (by decide) rfl (Nat.le_of_ble_eq_true rfl) rfl ?_
  intro p e s m args below meth c C hr hlk
  have hL44 : ∀ (n : Nat), ∀ (b1 : Int32) (b2 : Int32) (b3 : Int64) (b5 : Int32) (S : St), X3_total_L44 n b1 b2 b3 b5 S = some (r, S') → Wj p l e (rmJ 6 140) s m args below meth c (MQ below (QlJ g sz r S' mm) args s 0 0 (Ag sz)) 6 g sz S mm 44 [(0, .ref (ad g 0)), (1, .int b1), (2, .int b2), (3, .long b3), (5, .int b5)] [] := by
    intro  n
    induction n with
    | zero =>
      intro b1 b2 b3 b5 S hf
      rw [X3_total_L44] at hf
      cases hf
    | succ n ih =>
      intro b1 b2 b3 b5 S hf
      rw [X3_total_L44] at hf
      refine j_iload C dX3_total_44 4 rfl 46 rfl ?_
      refine j_gets C 6 (by decide) qf_X3_195 dX3_total_46 49 rfl ?_
      refine j_iload_n C dX3_total_49 rfl 1 rfl 50 rfl ?_
      obtain ⟨v5, hv5, hf⟩ := bnd hf
      refine j_sald C 6 (by decide) hv5 dX3_total_50 51 rfl ?_
      refine j_icmp_ge C dX3_total_51 76 (by decide) 54 rfl (fun c6 => ?_) (fun c6 => ?_)
      · rw [if_pos c6] at hf
        refine j_lload_n C dX3_total_76 rfl 3 rfl 77 rfl ?_
        obtain ⟨rfl, rfl⟩ := Prod.mk.inj (Option.some.inj hf)
        exact j_lret C hr hlk dX3_total_77
      · rw [if_neg c6] at hf
        refine j_lload_n C dX3_total_54 rfl 3 rfl 55 rfl ?_
        refine j_aload_n C dX3_total_55 rfl 0 rfl 56 rfl ?_
        refine j_iload C dX3_total_56 4 rfl 58 rfl ?_
        refine j_iload_n C dX3_total_58 rfl 1 rfl 59 rfl ?_
        obtain ⟨⟨r8, S9⟩, hq7, hf⟩ := bnd hf
        dsimp only at hf
        refine j_callVr (As := [.int b5, .int b1]) (rest := [.long b3]) C (c_X3_walk l g sz S mm  b5 b1 _ _ hq7) (j_cwV C qc_X3_walk qm_X3_210 qi_X3_walk qs_X3_walk qn_X3 hd_X3_walk ⟨rfl, rfl⟩ ⟨by decide, by decide⟩) (rcv_pl.cell C.2) rfl (Nat.le_of_ble_eq_true rfl) dX3_total_59 62 rfl ?_
        obtain ⟨kv10, hkv10, hf⟩ := bnd hf
        obtain ⟨r11, hr11, hf⟩ := bnd hf
        refine j_x (put_blk S9 r8 7).symm ?_
        refine j_callVi (As := []) (rest := [.long b3]) C (c_X1_gain l g sz S9 mm r8 (gsh_ok hkv10)  (blk S9 r8) _ hr11) (j_cwV C qc_X1_gain qm_X3_127 qi_X1_gain qs_X1_gain qn_X1 hd_X1_gain ⟨rfl, rfl⟩ ⟨by decide, by decide⟩) ((rcv_sh (gsh_ok hkv10)).cell C.2) rfl (Nat.le_of_ble_eq_true rfl) dX3_total_62 65 rfl ?_
        refine j_x (put_blk S9 r8 7) ?_
        refine j_iload_n C dX3_total_65 rfl 2 rfl 66 rfl ?_
        refine j_isub C dX3_total_66 67 rfl ?_
        refine j_i2l C dX3_total_67 68 rfl ?_
        refine j_ladd C dX3_total_68 69 rfl ?_
        refine j_lstore_n (lv2 := [(3, .long (b3 + (r11 - b2).toInt64)), (0, .ref (ad g 0)), (1, .int b1), (2, .int b2), (5, .int b5)]) C dX3_total_69 rfl (by decide) rfl 70 rfl ?_
        refine j_iinc (lv2 := [(5, .int (b5 + 1)), (3, .long (b3 + (r11 - b2).toInt64)), (0, .ref (ad g 0)), (1, .int b1), (2, .int b2)]) C dX3_total_70 (k := 4) rfl (congrArg (HAdd.hAdd b5) c_oi_1) (by decide) rfl 73 rfl ?_
        refine j_goto C dX3_total_73 44 (by decide) ?_
        refine j_sub [2, 3, 4, 1, 0] rfl ?_
        exact ih b1 b2 (b3 + (r11 - b2).toInt64) (b5 + 1) S9 hf
  unfold X3_total at hf
  refine j_iload_n C dX3_total_0 rfl 1 rfl 1 rfl ?_
  refine j_iconst C dX3_total_1 (v := 0) c_iconst_0 2 rfl ?_
  refine j_iconst C dX3_total_2 (v := 3) c_iconst_3 3 rfl ?_
  refine j_callSi (As := [.int a1, .int 0, .int 3]) (rest := []) C (c_X3_within l g sz S mm a1 0 3 _ rfl) (j_cwS C qc_X3_within qm_X3_66 qs_X3_within qn_X3 hd_X3_within ⟨rfl, rfl⟩ ⟨by decide, by decide⟩)  rfl (Nat.le_of_ble_eq_true rfl) dX3_total_3 6 rfl ?_
  refine j_if_ne C dX3_total_6 16 (by decide) 9 rfl (fun c1 => ?_) (fun c1 => ?_)
  · rw [if_neg c1] at hf
    refine j_aload_n C dX3_total_16 rfl 0 rfl 17 rfl ?_
    refine j_iload_n C dX3_total_17 rfl 1 rfl 18 rfl ?_
    obtain ⟨r2, hr2, hf⟩ := bnd hf
    refine j_callVi (As := [.int a1]) (rest := []) C (c_X3_canDrop l g sz S mm  a1 _ hr2) (j_cwV C qc_X3_canDrop qm_X3_189 qi_X3_canDrop qs_X3_canDrop qn_X3 hd_X3_canDrop ⟨rfl, rfl⟩ ⟨by decide, by decide⟩) (rcv_pl.cell C.2) rfl (Nat.le_of_ble_eq_true rfl) dX3_total_18 21 rfl ?_
    refine j_if_ne C dX3_total_21 31 (by decide) 24 rfl (fun c3 => ?_) (fun c3 => ?_)
    · rw [if_neg c3] at hf
      refine j_aload_n C dX3_total_31 rfl 0 rfl 32 rfl ?_
      refine j3_get C 0 (by decide) qf_X3_12 (v := .ref (ad g 1)) rfl dX3_total_32 35 rfl ?_
      obtain ⟨r4, hr4, hf⟩ := bnd hf
      refine j_x (put_blk S 1 7).symm ?_
      refine j_callVi (As := []) (rest := []) C (c_X1_gain l g sz S mm 1 rfl  (blk S 1) _ hr4) (j_cwV C qc_X1_gain qm_X3_127 qi_X1_gain qs_X1_gain qn_X1 hd_X1_gain ⟨rfl, rfl⟩ ⟨by decide, by decide⟩) ((rcv_sh rfl).cell C.2) rfl (Nat.le_of_ble_eq_true rfl) dX3_total_35 38 rfl ?_
      refine j_x (put_blk S 1 7) ?_
      refine j_istore_n (lv2 := [(2, .int r4), (0, .ref (ad g 0)), (1, .int a1)]) C dX3_total_38 rfl (by decide) rfl 39 rfl ?_
      refine j_lconst C dX3_total_39 (v := 0) rfl 40 rfl ?_
      refine j_lstore_n (lv2 := [(3, .long 0), (2, .int r4), (0, .ref (ad g 0)), (1, .int a1)]) C dX3_total_40 rfl (by decide) rfl 41 rfl ?_
      refine j_iconst C dX3_total_41 (v := 0) c_iconst_0 42 rfl ?_
      refine j_istore (lv2 := [(5, .int 0), (3, .long 0), (2, .int r4), (0, .ref (ad g 0)), (1, .int a1)]) C dX3_total_42 (by decide) rfl 44 rfl ?_
      refine j_sub [3, 4, 2, 1, 0] rfl ?_
      exact hL44 FU a1 r4 0 0 S hf
    · rw [if_pos c3] at hf
      refine j_aload_n C dX3_total_24 rfl 0 rfl 25 rfl ?_
      refine j_iconst C dX3_total_25 (v := 4) c_iconst_4 26 rfl ?_
      obtain ⟨⟨r13, S14⟩, hq12, hf⟩ := bnd hf
      dsimp only at hf
      refine j_callVi (As := [.int 4]) (rest := []) C (c_X3_found l g sz S mm  4 _ _ hq12) (j_cwV C qc_X3_found qm_X3_52 qi_X3_found qs_X3_found qn_X3 hd_X3_found ⟨rfl, rfl⟩ ⟨by decide, by decide⟩) (rcv_pl.cell C.2) rfl (Nat.le_of_ble_eq_true rfl) dX3_total_26 29 rfl ?_
      refine j_i2l C dX3_total_29 30 rfl ?_
      obtain ⟨rfl, rfl⟩ := Prod.mk.inj (Option.some.inj hf)
      exact j_lret C hr hlk dX3_total_30
  · rw [if_pos c1] at hf
    refine j_aload_n C dX3_total_9 rfl 0 rfl 10 rfl ?_
    refine j_iconst C dX3_total_10 (v := 0) c_iconst_0 11 rfl ?_
    obtain ⟨⟨r16, S17⟩, hq15, hf⟩ := bnd hf
    dsimp only at hf
    refine j_callVi (As := [.int 0]) (rest := []) C (c_X3_found l g sz S mm  0 _ _ hq15) (j_cwV C qc_X3_found qm_X3_52 qi_X3_found qs_X3_found qn_X3 hd_X3_found ⟨rfl, rfl⟩ ⟨by decide, by decide⟩) (rcv_pl.cell C.2) rfl (Nat.le_of_ble_eq_true rfl) dX3_total_11 14 rfl ?_
    refine j_i2l C dX3_total_14 15 rfl ?_
    obtain ⟨rfl, rfl⟩ := Prod.mk.inj (Option.some.inj hf)
    exact j_lret C hr hlk dX3_total_15
set_option maxRecDepth 100000 in
set_option maxHeartbeats 4000000 in
theorem c_X3_luck (l : Launch) (g : GG) (sz : Nat) (S mm : St) (a1 : Int32) (a2 : Int32) (r : Int64) (S' : St) (hf : X3_luck a1 a2 S = some (r, S')) : Met l yX3_luck (.code yX3_luck cX3_luck 5 (some .long) :: ALLW) (rmJ 6 140) (PcJ g sz S mm [.ref (ad g 0), .int a1, .int a2]) (QlJ g sz r S' mm) 0 0 (Ag sz) := by
  refine j_met (own := RX3) (by decide) rfl (Nat.le_of_ble_eq_true rfl) rfl ?_
  intro p e s m args below meth c C hr hlk
  have hL44 : ∀ (n : Nat), ∀ (b1 : Int32) (b2 : Int32) (b3 : Int32) (b4 : Int32) (S : St), X3_luck_L44 n b1 b2 b3 b4 S = some (r, S') → Wj p l e (rmJ 6 140) s m args below meth c (MQ below (QlJ g sz r S' mm) args s 0 0 (Ag sz)) 5 g sz S mm 44 [(0, .ref (ad g 0)), (1, .int b1), (2, .int b2), (3, .int b3), (4, .int b4)] [] := by
    intro  n
    induction n with
    | zero =>
      intro b1 b2 b3 b4 S hf
      rw [X3_luck_L44] at hf
      cases hf
    | succ n ih =>
      intro b1 b2 b3 b4 S hf
      rw [X3_luck_L44] at hf
      refine j_iload C dX3_luck_44 4 rfl 46 rfl ?_
      refine j_gets C 6 (by decide) qf_X3_195 dX3_luck_46 49 rfl ?_
      refine j_iload_n C dX3_luck_49 rfl 2 rfl 50 rfl ?_
      obtain ⟨v8, hv8, hf⟩ := bnd hf
      refine j_sald C 6 (by decide) hv8 dX3_luck_50 51 rfl ?_
      refine j_icmp_ge C dX3_luck_51 80 (by decide) 54 rfl (fun c9 => ?_) (fun c9 => ?_)
      · rw [if_pos c9] at hf
        refine j_iload_n C dX3_luck_80 rfl 3 rfl 81 rfl ?_
        refine j_i2l C dX3_luck_81 82 rfl ?_
        obtain ⟨rfl, rfl⟩ := Prod.mk.inj (Option.some.inj hf)
        exact j_lret C hr hlk dX3_luck_82
      · rw [if_neg c9] at hf
        refine j_aload_n C dX3_luck_54 rfl 0 rfl 55 rfl ?_
        refine j_iload C dX3_luck_55 4 rfl 57 rfl ?_
        refine j_iload_n C dX3_luck_57 rfl 2 rfl 58 rfl ?_
        obtain ⟨⟨r11, S12⟩, hq10, hf⟩ := bnd hf
        dsimp only at hf
        refine j_callVr (As := [.int b4, .int b2]) (rest := []) C (c_X3_walk l g sz S mm  b4 b2 _ _ hq10) (j_cwV C qc_X3_walk qm_X3_210 qi_X3_walk qs_X3_walk qn_X3 hd_X3_walk ⟨rfl, rfl⟩ ⟨by decide, by decide⟩) (rcv_pl.cell C.2) rfl (Nat.le_of_ble_eq_true rfl) dX3_luck_58 61 rfl ?_
        obtain ⟨kv13, hkv13, hf⟩ := bnd hf
        refine j3s_get (gsh_ok hkv13) C 1 (by decide) qf_X3_92 (v := .ref (ad g (r11 + 2))) rfl dX3_luck_61 64 rfl ?_
        refine j_iload_n C dX3_luck_64 rfl 1 rfl 65 rfl ?_
        obtain ⟨v14, hv14, hf⟩ := bnd hf
        refine j3s_ald (k := r11) (gsh_ok hkv13) 2 (by decide) (by decide) C hv14 dX3_luck_65 66 rfl ?_
        refine j_bipush C dX3_luck_66 (v := 101) c_bipush_101 68 rfl ?_
        refine j_icmp_ne C dX3_luck_68 74 (by decide) 71 rfl (fun c15 => ?_) (fun c15 => ?_)
        · rw [if_neg c15] at hf
          refine j_iinc (lv2 := [(4, .int (b4 + 1)), (0, .ref (ad g 0)), (1, .int b1), (2, .int b2), (3, .int b3)]) C dX3_luck_74 (k := 4) rfl (congrArg (HAdd.hAdd b4) c_oi_1) (by decide) rfl 77 rfl ?_
          refine j_goto C dX3_luck_77 44 (by decide) ?_
          refine j_sub [1, 2, 3, 4, 0] rfl ?_
          exact ih b1 b2 b3 (b4 + 1) S12 hf
        · rw [if_pos c15] at hf
          refine j_iinc (lv2 := [(3, .int (b3 + 1)), (0, .ref (ad g 0)), (1, .int b1), (2, .int b2), (4, .int b4)]) C dX3_luck_71 (k := 3) rfl (congrArg (HAdd.hAdd b3) c_oi_1) (by decide) rfl 74 rfl ?_
          refine j_iinc (lv2 := [(4, .int (b4 + 1)), (3, .int (b3 + 1)), (0, .ref (ad g 0)), (1, .int b1), (2, .int b2)]) C dX3_luck_74 (k := 4) rfl (congrArg (HAdd.hAdd b4) c_oi_1) (by decide) rfl 77 rfl ?_
          refine j_goto C dX3_luck_77 44 (by decide) ?_
          refine j_sub [2, 3, 4, 1, 0] rfl ?_
          exact ih b1 b2 (b3 + 1) (b4 + 1) S12 hf
  unfold X3_luck at hf
  refine j_aload_n C dX3_luck_0 rfl 0 rfl 1 rfl ?_
  refine j_iload_n C dX3_luck_1 rfl 1 rfl 2 rfl ?_
  refine j_callVi (As := [.int a1]) (rest := []) C (c_X3_isCoin l g sz S mm  a1 _ rfl) (j_cwV C qc_X3_isCoin qm_X3_63 qi_X3_isCoin qs_X3_isCoin qn_X3 hd_X3_isCoin ⟨rfl, rfl⟩ ⟨by decide, by decide⟩) (rcv_pl.cell C.2) rfl (Nat.le_of_ble_eq_true rfl) dX3_luck_2 5 rfl ?_
  refine j_if_eq C dX3_luck_5 17 (by decide) 8 rfl (fun c1 => ?_) (fun c1 => ?_)
  · rw [if_pos c1] at hf
    refine j_aload_n C dX3_luck_17 rfl 0 rfl 18 rfl ?_
    refine j_iconst C dX3_luck_18 (v := 0) c_iconst_0 19 rfl ?_
    obtain ⟨⟨r3, S4⟩, hq2, hf⟩ := bnd hf
    dsimp only at hf
    refine j_callVi (As := [.int 0]) (rest := []) C (c_X3_found l g sz S mm  0 _ _ hq2) (j_cwV C qc_X3_found qm_X3_52 qi_X3_found qs_X3_found qn_X3 hd_X3_found ⟨rfl, rfl⟩ ⟨by decide, by decide⟩) (rcv_pl.cell C.2) rfl (Nat.le_of_ble_eq_true rfl) dX3_luck_19 22 rfl ?_
    refine j_i2l C dX3_luck_22 23 rfl ?_
    obtain ⟨rfl, rfl⟩ := Prod.mk.inj (Option.some.inj hf)
    exact j_lret C hr hlk dX3_luck_23
  · rw [if_neg c1] at hf
    refine j_iload_n C dX3_luck_8 rfl 2 rfl 9 rfl ?_
    refine j_iconst C dX3_luck_9 (v := 0) c_iconst_0 10 rfl ?_
    refine j_iconst C dX3_luck_10 (v := 3) c_iconst_3 11 rfl ?_
    refine j_callSi (As := [.int a2, .int 0, .int 3]) (rest := []) C (c_X3_within l g sz S mm a2 0 3 _ rfl) (j_cwS C qc_X3_within qm_X3_66 qs_X3_within qn_X3 hd_X3_within ⟨rfl, rfl⟩ ⟨by decide, by decide⟩)  rfl (Nat.le_of_ble_eq_true rfl) dX3_luck_11 14 rfl ?_
    refine j_if_ne C dX3_luck_14 24 (by decide) 17 rfl (fun c5 => ?_) (fun c5 => ?_)
    · rw [if_neg c5] at hf
      refine j_aload_n C dX3_luck_24 rfl 0 rfl 25 rfl ?_
      refine j_iload_n C dX3_luck_25 rfl 2 rfl 26 rfl ?_
      obtain ⟨r6, hr6, hf⟩ := bnd hf
      refine j_callVi (As := [.int a2]) (rest := []) C (c_X3_canDrop l g sz S mm  a2 _ hr6) (j_cwV C qc_X3_canDrop qm_X3_189 qi_X3_canDrop qs_X3_canDrop qn_X3 hd_X3_canDrop ⟨rfl, rfl⟩ ⟨by decide, by decide⟩) (rcv_pl.cell C.2) rfl (Nat.le_of_ble_eq_true rfl) dX3_luck_26 29 rfl ?_
      refine j_if_ne C dX3_luck_29 39 (by decide) 32 rfl (fun c7 => ?_) (fun c7 => ?_)
      · rw [if_neg c7] at hf
        refine j_iconst C dX3_luck_39 (v := 0) c_iconst_0 40 rfl ?_
        refine j_istore_n (lv2 := [(3, .int 0), (0, .ref (ad g 0)), (1, .int a1), (2, .int a2)]) C dX3_luck_40 rfl (by decide) rfl 41 rfl ?_
        refine j_iconst C dX3_luck_41 (v := 0) c_iconst_0 42 rfl ?_
        refine j_istore (lv2 := [(4, .int 0), (3, .int 0), (0, .ref (ad g 0)), (1, .int a1), (2, .int a2)]) C dX3_luck_42 (by decide) rfl 44 rfl ?_
        refine j_sub [2, 3, 4, 1, 0] rfl ?_
        exact hL44 FU a1 a2 0 0 S hf
      · rw [if_pos c7] at hf
        refine j_aload_n C dX3_luck_32 rfl 0 rfl 33 rfl ?_
        refine j_iconst C dX3_luck_33 (v := 4) c_iconst_4 34 rfl ?_
        obtain ⟨⟨r17, S18⟩, hq16, hf⟩ := bnd hf
        dsimp only at hf
        refine j_callVi (As := [.int 4]) (rest := []) C (c_X3_found l g sz S mm  4 _ _ hq16) (j_cwV C qc_X3_found qm_X3_52 qi_X3_found qs_X3_found qn_X3 hd_X3_found ⟨rfl, rfl⟩ ⟨by decide, by decide⟩) (rcv_pl.cell C.2) rfl (Nat.le_of_ble_eq_true rfl) dX3_luck_34 37 rfl ?_
        refine j_i2l C dX3_luck_37 38 rfl ?_
        obtain ⟨rfl, rfl⟩ := Prod.mk.inj (Option.some.inj hf)
        exact j_lret C hr hlk dX3_luck_38
    · rw [if_pos c5] at hf
      refine j_aload_n C dX3_luck_17 rfl 0 rfl 18 rfl ?_
      refine j_iconst C dX3_luck_18 (v := 0) c_iconst_0 19 rfl ?_
      obtain ⟨⟨r20, S21⟩, hq19, hf⟩ := bnd hf
      dsimp only at hf
      refine j_callVi (As := [.int 0]) (rest := []) C (c_X3_found l g sz S mm  0 _ _ hq19) (j_cwV C qc_X3_found qm_X3_52 qi_X3_found qs_X3_found qn_X3 hd_X3_found ⟨rfl, rfl⟩ ⟨by decide, by decide⟩) (rcv_pl.cell C.2) rfl (Nat.le_of_ble_eq_true rfl) dX3_luck_19 22 rfl ?_
      refine j_i2l C dX3_luck_22 23 rfl ?_
      obtain ⟨rfl, rfl⟩ := Prod.mk.inj (Option.some.inj hf)
      exact j_lret C hr hlk dX3_luck_23
set_option maxRecDepth 100000 in
set_option maxHeartbeats 4000000 in
theorem c_X3_play (l : Launch) (g : GG) (sz : Nat) (S mm : St) (a1 : Int32) (r : Int32) (S' : St) (hf : X3_play a1 S = some (r, S')) : Met l yX3_play (.code yX3_play cX3_play 4 (some .int) :: ALLW) (rmJ 5 116) (PcJ g sz S mm [.ref (ad g 0), .int a1]) (QiJ g sz r S' mm) 0 0 (Ag sz) := by
  refine j_met (own := RX3) (by decide) rfl (Nat.le_of_ble_eq_true rfl) rfl ?_
  intro p e s m args below meth c C hr hlk
  have hL40 : ∀ (n : Nat), ∀ (b1 : Int32) (b2 : Int32) (b3 : Int32) (S : St), X3_play_L40 n b1 b2 b3 S = some (r, S') → Wj p l e (rmJ 5 116) s m args below meth c (MQ below (QiJ g sz r S' mm) args s 0 0 (Ag sz)) 4 g sz S mm 40 [(0, .ref (ad g 0)), (1, .int b1), (2, .int b2), (3, .int b3)] [] := by
    intro  n
    induction n with
    | zero =>
      intro b1 b2 b3 S hf
      rw [X3_play_L40] at hf
      cases hf
    | succ n ih =>
      intro b1 b2 b3 S hf
      rw [X3_play_L40] at hf
      refine j_iload_n C dX3_play_40 rfl 3 rfl 41 rfl ?_
      refine j_iload_n C dX3_play_41 rfl 1 rfl 42 rfl ?_
      refine j_icmp_ge C dX3_play_42 75 (by decide) 45 rfl (fun c5 => ?_) (fun c5 => ?_)
      · rw [if_pos c5] at hf
        refine j_aload_n C dX3_play_75 rfl 0 rfl 76 rfl ?_
        refine j3_get C 0 (by decide) qf_X3_12 (v := .ref (ad g 1)) rfl dX3_play_76 79 rfl ?_
        obtain ⟨r6, hr6, hf⟩ := bnd hf
        refine j_x (put_blk S 1 7).symm ?_
        refine j_callVi (As := []) (rest := []) C (c_X1_gain l g sz S mm 1 rfl  (blk S 1) _ hr6) (j_cwV C qc_X1_gain qm_X3_127 qi_X1_gain qs_X1_gain qn_X1 hd_X1_gain ⟨rfl, rfl⟩ ⟨by decide, by decide⟩) ((rcv_sh rfl).cell C.2) rfl (Nat.le_of_ble_eq_true rfl) dX3_play_79 82 rfl ?_
        refine j_x (put_blk S 1 7) ?_
        refine j_iload_n C dX3_play_82 rfl 2 rfl 83 rfl ?_
        refine j_isub C dX3_play_83 84 rfl ?_
        obtain ⟨rfl, rfl⟩ := Prod.mk.inj (Option.some.inj hf)
        exact j_iret C hr hlk dX3_play_84
      · rw [if_neg c5] at hf
        refine j_aload_n C dX3_play_45 rfl 0 rfl 46 rfl ?_
        refine j3_get C 0 (by decide) qf_X3_12 (v := .ref (ad g 1)) rfl dX3_play_46 49 rfl ?_
        refine j_aload_n C dX3_play_49 rfl 0 rfl 50 rfl ?_
        refine j3_get C 0 (by decide) qf_X3_12 (v := .ref (ad g 1)) rfl dX3_play_50 53 rfl ?_
        obtain ⟨r7, hr7, hf⟩ := bnd hf
        refine j_x (put_blk S 1 7).symm ?_
        refine j_callVi (As := []) (rest := [.ref (ad g 1)]) C (c_X1_leastInHand l g sz S mm 1 rfl  (blk S 1) _ hr7) (j_cwV C qc_X1_leastInHand qm_X3_214 qi_X1_leastInHand qs_X1_leastInHand qn_X1 hd_X1_leastInHand ⟨rfl, rfl⟩ ⟨by decide, by decide⟩) ((rcv_sh rfl).cell C.2) rfl (Nat.le_of_ble_eq_true rfl) dX3_play_53 56 rfl ?_
        refine j_x (put_blk S 1 7) ?_
        refine j_aload_n C dX3_play_56 rfl 0 rfl 57 rfl ?_
        refine j3_get C 0 (by decide) qf_X3_12 (v := .ref (ad g 1)) rfl dX3_play_57 60 rfl ?_
        obtain ⟨⟨r9, T10⟩, hq8, hf⟩ := bnd hf
        dsimp only at hf
        obtain ⟨S11, hS11, hf⟩ := bnd hf
        refine j_x (put_blk S 1 7).symm ?_
        refine j_callVi (As := []) (rest := [.int r7, .ref (ad g 1)]) C (c_X1_draw l g sz S mm 1 rfl  (blk S 1) _ _ hq8) (j_cwV C qc_X1_draw qm_X3_217 qi_X1_draw qs_X1_draw qn_X1 hd_X1_draw ⟨rfl, rfl⟩ ⟨by decide, by decide⟩) ((rcv_sh rfl).cell C.2) rfl (Nat.le_of_ble_eq_true rfl) dX3_play_60 63 rfl ?_
        rw [Option.some.inj hS11]
        refine j_bipush C dX3_play_63 (v := 7) c_bipush_7 65 rfl ?_
        refine j_iremc C dX3_play_65 (by decide) 66 rfl ?_
        obtain ⟨T12, hT12, hf⟩ := bnd hf
        obtain ⟨S13, hS13, hf⟩ := bnd hf
        refine j_x (put_blk S11 1 7).symm ?_
        refine j_callVv (As := [.int r7, .int (irm r9 7)]) (rest := []) C (c_X1_release l g sz S11 mm 1 rfl r7 (irm r9 7) (blk S11 1) _ hT12) (j_cwV C qc_X1_release qm_X3_131 qi_X1_release qs_X1_release qn_X1 hd_X1_release ⟨rfl, rfl⟩ ⟨by decide, by decide⟩) ((rcv_sh rfl).cell C.2) rfl (Nat.le_of_ble_eq_true rfl) dX3_play_66 69 rfl ?_
        rw [Option.some.inj hS13]
        refine j_iinc (lv2 := [(3, .int (b3 + 1)), (0, .ref (ad g 0)), (1, .int b1), (2, .int b2)]) C dX3_play_69 (k := 3) rfl (congrArg (HAdd.hAdd b3) c_oi_1) (by decide) rfl 72 rfl ?_
        refine j_goto C dX3_play_72 40 (by decide) ?_
        refine j_sub [1, 2, 3, 0] rfl ?_
        exact ih b1 b2 (b3 + 1) S13 hf
  unfold X3_play at hf
  refine j_iload_n C dX3_play_0 rfl 1 rfl 1 rfl ?_
  refine j_iconst C dX3_play_1 (v := 1) c_iconst_1 2 rfl ?_
  refine j_bipush C dX3_play_2 (v := 12) c_bipush_12 4 rfl ?_
  refine j_callSi (As := [.int a1, .int 1, .int 12]) (rest := []) C (c_X3_within l g sz S mm a1 1 12 _ rfl) (j_cwS C qc_X3_within qm_X3_66 qs_X3_within qn_X3 hd_X3_within ⟨rfl, rfl⟩ ⟨by decide, by decide⟩)  rfl (Nat.le_of_ble_eq_true rfl) dX3_play_4 7 rfl ?_
  refine j_if_ne C dX3_play_7 16 (by decide) 10 rfl (fun c1 => ?_) (fun c1 => ?_)
  · rw [if_neg c1] at hf
    refine j_aload_n C dX3_play_16 rfl 0 rfl 17 rfl ?_
    refine j_iload_n C dX3_play_17 rfl 1 rfl 18 rfl ?_
    obtain ⟨r2, hr2, hf⟩ := bnd hf
    refine j_callVi (As := [.int a1]) (rest := []) C (c_X3_canDrop l g sz S mm  a1 _ hr2) (j_cwV C qc_X3_canDrop qm_X3_189 qi_X3_canDrop qs_X3_canDrop qn_X3 hd_X3_canDrop ⟨rfl, rfl⟩ ⟨by decide, by decide⟩) (rcv_pl.cell C.2) rfl (Nat.le_of_ble_eq_true rfl) dX3_play_18 21 rfl ?_
    refine j_if_ne C dX3_play_21 30 (by decide) 24 rfl (fun c3 => ?_) (fun c3 => ?_)
    · rw [if_neg c3] at hf
      refine j_aload_n C dX3_play_30 rfl 0 rfl 31 rfl ?_
      refine j3_get C 0 (by decide) qf_X3_12 (v := .ref (ad g 1)) rfl dX3_play_31 34 rfl ?_
      obtain ⟨r4, hr4, hf⟩ := bnd hf
      refine j_x (put_blk S 1 7).symm ?_
      refine j_callVi (As := []) (rest := []) C (c_X1_gain l g sz S mm 1 rfl  (blk S 1) _ hr4) (j_cwV C qc_X1_gain qm_X3_127 qi_X1_gain qs_X1_gain qn_X1 hd_X1_gain ⟨rfl, rfl⟩ ⟨by decide, by decide⟩) ((rcv_sh rfl).cell C.2) rfl (Nat.le_of_ble_eq_true rfl) dX3_play_34 37 rfl ?_
      refine j_x (put_blk S 1 7) ?_
      refine j_istore_n (lv2 := [(2, .int r4), (0, .ref (ad g 0)), (1, .int a1)]) C dX3_play_37 rfl (by decide) rfl 38 rfl ?_
      refine j_iconst C dX3_play_38 (v := 0) c_iconst_0 39 rfl ?_
      refine j_istore_n (lv2 := [(3, .int 0), (2, .int r4), (0, .ref (ad g 0)), (1, .int a1)]) C dX3_play_39 rfl (by decide) rfl 40 rfl ?_
      refine j_sub [2, 3, 1, 0] rfl ?_
      exact hL40 FU a1 r4 0 S hf
    · rw [if_pos c3] at hf
      refine j_aload_n C dX3_play_24 rfl 0 rfl 25 rfl ?_
      refine j_iconst C dX3_play_25 (v := 4) c_iconst_4 26 rfl ?_
      obtain ⟨⟨r15, S16⟩, hq14, hf⟩ := bnd hf
      dsimp only at hf
      refine j_callVi (As := [.int 4]) (rest := []) C (c_X3_found l g sz S mm  4 _ _ hq14) (j_cwV C qc_X3_found qm_X3_52 qi_X3_found qs_X3_found qn_X3 hd_X3_found ⟨rfl, rfl⟩ ⟨by decide, by decide⟩) (rcv_pl.cell C.2) rfl (Nat.le_of_ble_eq_true rfl) dX3_play_26 29 rfl ?_
      obtain ⟨rfl, rfl⟩ := Prod.mk.inj (Option.some.inj hf)
      exact j_iret C hr hlk dX3_play_29
  · rw [if_pos c1] at hf
    refine j_aload_n C dX3_play_10 rfl 0 rfl 11 rfl ?_
    refine j_iconst C dX3_play_11 (v := 0) c_iconst_0 12 rfl ?_
    obtain ⟨⟨r18, S19⟩, hq17, hf⟩ := bnd hf
    dsimp only at hf
    refine j_callVi (As := [.int 0]) (rest := []) C (c_X3_found l g sz S mm  0 _ _ hq17) (j_cwV C qc_X3_found qm_X3_52 qi_X3_found qs_X3_found qn_X3 hd_X3_found ⟨rfl, rfl⟩ ⟨by decide, by decide⟩) (rcv_pl.cell C.2) rfl (Nat.le_of_ble_eq_true rfl) dX3_play_12 15 rfl ?_
    obtain ⟨rfl, rfl⟩ := Prod.mk.inj (Option.some.inj hf)
    exact j_iret C hr hlk dX3_play_15
set_option maxRecDepth 100000 in
set_option maxHeartbeats 4000000 in
theorem c_X3_jolt (l : Launch) (g : GG) (sz : Nat) (S mm : St) (r : Int32) (S' : St) (hf : X3_jolt S = some (r, S')) : Met l yX3_jolt (.code yX3_jolt cX3_jolt 1 (some .int) :: ALLW) (rmJ 3 69) (PcJ g sz S mm [.ref (ad g 0)]) (QiJ g sz r S' mm) 0 0 (Ag sz) := by
  refine j_met (own := RX3) (by decide) rfl (Nat.le_of_ble_eq_true rfl) rfl ?_
  intro p e s m args below meth c C hr hlk
  unfold X3_jolt at hf
  refine j_aload_n C dX3_jolt_0 rfl 0 rfl 1 rfl ?_
  refine j3_get C 0 (by decide) qf_X3_12 (v := .ref (ad g 1)) rfl dX3_jolt_1 4 rfl ?_
  obtain ⟨⟨r2, T3⟩, hq1, hf⟩ := bnd hf
  dsimp only at hf
  obtain ⟨S4, hS4, hf⟩ := bnd hf
  refine j_x (put_blk S 1 7).symm ?_
  refine j_callVi (As := []) (rest := []) C (c_X1_shake l g sz S mm 1 rfl  (blk S 1) _ _ hq1) (j_cwV C qc_X1_shake qm_X3_220 qi_X1_shake qs_X1_shake qn_X1 hd_X1_shake ⟨rfl, rfl⟩ ⟨by decide, by decide⟩) ((rcv_sh rfl).cell C.2) rfl (Nat.le_of_ble_eq_true rfl) dX3_jolt_4 7 rfl ?_
  rw [Option.some.inj hS4]
  obtain ⟨rfl, rfl⟩ := Prod.mk.inj (Option.some.inj hf)
  exact j_iret C hr hlk dX3_jolt_7
set_option maxRecDepth 100000 in
set_option maxHeartbeats 4000000 in
theorem c_X3_jolted (l : Launch) (g : GG) (sz : Nat) (S mm : St) (r : Int32) (S' : St) (hf : X3_jolted S = some (r, S')) : Met l yX3_jolted (.code yX3_jolted cX3_jolted 1 (some .int) :: ALLW) (rmJ 3 69) (PcJ g sz S mm [.ref (ad g 0)]) (QiJ g sz r S' mm) 0 0 (Ag sz) := by
  refine j_met (own := RX3) (by decide) rfl (Nat.le_of_ble_eq_true rfl) rfl ?_
  intro p e s m args below meth c C hr hlk
  unfold X3_jolted at hf
  refine j_aload_n C dX3_jolted_0 rfl 0 rfl 1 rfl ?_
  refine j3_get C 3 (by decide) qf_X3_23 (v := .ref (ad g 15)) rfl dX3_jolted_1 4 rfl ?_
  refine j_aload_n C dX3_jolted_4 rfl 0 rfl 5 rfl ?_
  refine j3_get C 0 (by decide) qf_X3_12 (v := .ref (ad g 1)) rfl dX3_jolted_5 8 rfl ?_
  obtain ⟨S1, hS1, hf⟩ := bnd hf
  refine j_callVv (As := [.ref (ad g 1)]) (rest := []) C (c_X1_become l g sz S mm 15 rfl 1 rfl (by decide)) (j_cwV C qc_X1_become qm_X3_165 qi_X1_become qs_X1_become qn_X1 hd_X1_become ⟨rfl, rfl⟩ ⟨by decide, by decide⟩) ((rcv_sh rfl).cell C.2) rfl (Nat.le_of_ble_eq_true rfl) dX3_jolted_8 11 rfl ?_
  rw [Option.some.inj hS1]
  refine j_aload_n C dX3_jolted_11 rfl 0 rfl 12 rfl ?_
  refine j3_get C 3 (by decide) qf_X3_23 (v := .ref (ad g 15)) rfl dX3_jolted_12 15 rfl ?_
  obtain ⟨⟨r3, T4⟩, hq2, hf⟩ := bnd hf
  dsimp only at hf
  obtain ⟨S5, hS5, hf⟩ := bnd hf
  refine j_x (put_blk S1 15 7).symm ?_
  refine j_callVi (As := []) (rest := []) C (c_X1_shake l g sz S1 mm 15 rfl  (blk S1 15) _ _ hq2) (j_cwV C qc_X1_shake qm_X3_220 qi_X1_shake qs_X1_shake qn_X1 hd_X1_shake ⟨rfl, rfl⟩ ⟨by decide, by decide⟩) ((rcv_sh rfl).cell C.2) rfl (Nat.le_of_ble_eq_true rfl) dX3_jolted_15 18 rfl ?_
  rw [Option.some.inj hS5]
  refine j_pop C dX3_jolted_18 rfl 19 rfl ?_
  refine j_aload_n C dX3_jolted_19 rfl 0 rfl 20 rfl ?_
  refine j3_get C 3 (by decide) qf_X3_23 (v := .ref (ad g 15)) rfl dX3_jolted_20 23 rfl ?_
  refine j_bipush C dX3_jolted_23 (v := 101) c_bipush_101 25 rfl ?_
  obtain ⟨r6, hr6, hf⟩ := bnd hf
  refine j_x (put_blk S5 15 7).symm ?_
  refine j_callVi (As := [.int 101]) (rest := []) C (c_X1_worthAt l g sz S5 mm 15 rfl 101 (blk S5 15) _ hr6) (j_cwV C qc_X1_worthAt qm_X3_150 qi_X1_worthAt qs_X1_worthAt qn_X1 hd_X1_worthAt ⟨rfl, rfl⟩ ⟨by decide, by decide⟩) ((rcv_sh rfl).cell C.2) rfl (Nat.le_of_ble_eq_true rfl) dX3_jolted_25 28 rfl ?_
  refine j_x (put_blk S5 15 7) ?_
  refine j_aload_n C dX3_jolted_28 rfl 0 rfl 29 rfl ?_
  refine j3_get C 0 (by decide) qf_X3_12 (v := .ref (ad g 1)) rfl dX3_jolted_29 32 rfl ?_
  refine j_bipush C dX3_jolted_32 (v := 101) c_bipush_101 34 rfl ?_
  obtain ⟨r7, hr7, hf⟩ := bnd hf
  refine j_x (put_blk S5 1 7).symm ?_
  refine j_callVi (As := [.int 101]) (rest := [.int r6]) C (c_X1_worthAt l g sz S5 mm 1 rfl 101 (blk S5 1) _ hr7) (j_cwV C qc_X1_worthAt qm_X3_150 qi_X1_worthAt qs_X1_worthAt qn_X1 hd_X1_worthAt ⟨rfl, rfl⟩ ⟨by decide, by decide⟩) ((rcv_sh rfl).cell C.2) rfl (Nat.le_of_ble_eq_true rfl) dX3_jolted_34 37 rfl ?_
  refine j_x (put_blk S5 1 7) ?_
  refine j_isub C dX3_jolted_37 38 rfl ?_
  obtain ⟨rfl, rfl⟩ := Prod.mk.inj (Option.some.inj hf)
  exact j_iret C hr hlk dX3_jolted_38
set_option maxRecDepth 100000 in
set_option maxHeartbeats 4000000 in
theorem c_X3_stroke (l : Launch) (g : GG) (sz : Nat) (S mm : St) (a1 : Int32) (r : Int32) (S' : St) (hf : X3_stroke a1 S = some (r, S')) : Met l yX3_stroke (.code yX3_stroke cX3_stroke 6 (some .int) :: ALLW) (rmJ 5 116) (PcJ g sz S mm [.ref (ad g 0), .int a1]) (QiJ g sz r S' mm) 0 0 (Ag sz) := by
  refine j_met (own := RX3) (by decide) rfl (Nat.le_of_ble_eq_true rfl) rfl ?_
  intro p e s m args below meth c C hr hlk
  have hL41 : ∀ (n : Nat), ∀ (b1 : Int32) (b2 : Int32) (b3 : Int32) (b4 : Int32) (S : St), X3_stroke_L41 n b1 b2 b3 b4 S = some (r, S') → Wj p l e (rmJ 5 116) s m args below meth c (MQ below (QiJ g sz r S' mm) args s 0 0 (Ag sz)) 6 g sz S mm 41 [(0, .ref (ad g 0)), (1, .int b1), (2, .int b2), (3, .int b3), (4, .int b4)] [] := by
    intro  n
    induction n with
    | zero =>
      intro b1 b2 b3 b4 S hf
      rw [X3_stroke_L41] at hf
      cases hf
    | succ n ih =>
      intro b1 b2 b3 b4 S hf
      rw [X3_stroke_L41] at hf
      refine j_iload C dX3_stroke_41 4 rfl 43 rfl ?_
      refine j_gets C 5 (by decide) qf_X3_226 dX3_stroke_43 46 rfl ?_
      refine j_iconst C dX3_stroke_46 (v := 1) c_iconst_1 47 rfl ?_
      obtain ⟨v4, hv4, hf⟩ := bnd hf
      refine j_sald C 5 (by decide) hv4 dX3_stroke_47 48 rfl ?_
      refine j_icmp_gt C dX3_stroke_48 114 (by decide) 51 rfl (fun c5 => ?_) (fun c5 => ?_)
      · rw [if_pos c5] at hf
        refine j_iload_n C dX3_stroke_114 rfl 2 rfl 115 rfl ?_
        obtain ⟨rfl, rfl⟩ := Prod.mk.inj (Option.some.inj hf)
        exact j_iret C hr hlk dX3_stroke_115
      · rw [if_neg c5] at hf
        refine j_aload_n C dX3_stroke_51 rfl 0 rfl 52 rfl ?_
        refine j3_get C 3 (by decide) qf_X3_23 (v := .ref (ad g 15)) rfl dX3_stroke_52 55 rfl ?_
        refine j_aload_n C dX3_stroke_55 rfl 0 rfl 56 rfl ?_
        refine j3_get C 0 (by decide) qf_X3_12 (v := .ref (ad g 1)) rfl dX3_stroke_56 59 rfl ?_
        obtain ⟨S6, hS6, hf⟩ := bnd hf
        refine j_callVv (As := [.ref (ad g 1)]) (rest := []) C (c_X1_become l g sz S mm 15 rfl 1 rfl (by decide)) (j_cwV C qc_X1_become qm_X3_165 qi_X1_become qs_X1_become qn_X1 hd_X1_become ⟨rfl, rfl⟩ ⟨by decide, by decide⟩) ((rcv_sh rfl).cell C.2) rfl (Nat.le_of_ble_eq_true rfl) dX3_stroke_59 62 rfl ?_
        rw [Option.some.inj hS6]
        refine j_aload_n C dX3_stroke_62 rfl 0 rfl 63 rfl ?_
        refine j3_get C 3 (by decide) qf_X3_23 (v := .ref (ad g 15)) rfl dX3_stroke_63 66 rfl ?_
        refine j3s_get (k := 15) rfl C 4 (by decide) qf_X3_118 (v := .ref (ad g 20)) rfl dX3_stroke_66 69 rfl ?_
        refine j_iconst C dX3_stroke_69 (v := 1) c_iconst_1 70 rfl ?_
        refine j_iload C dX3_stroke_70 4 rfl 72 rfl ?_
        obtain ⟨S7, hS7, hf⟩ := bnd hf
        refine j3s_ast (k := 15) rfl 5 (by decide) (by decide) C hS7 dX3_stroke_72 73 rfl ?_
        refine j_aload_n C dX3_stroke_73 rfl 0 rfl 74 rfl ?_
        refine j3_get C 3 (by decide) qf_X3_23 (v := .ref (ad g 15)) rfl dX3_stroke_74 77 rfl ?_
        refine j_iload_n C dX3_stroke_77 rfl 1 rfl 78 rfl ?_
        obtain ⟨T8, hT8, hf⟩ := bnd hf
        obtain ⟨S9, hS9, hf⟩ := bnd hf
        refine j_x (put_blk S7 15 7).symm ?_
        refine j_callVv (As := [.int b1]) (rest := []) C (c_X1_advance l g sz S7 mm 15 rfl b1 (blk S7 15) _ hT8) (j_cwV C qc_X1_advance qm_X3_137 qi_X1_advance qs_X1_advance qn_X1 hd_X1_advance ⟨rfl, rfl⟩ ⟨by decide, by decide⟩) ((rcv_sh rfl).cell C.2) rfl (Nat.le_of_ble_eq_true rfl) dX3_stroke_78 81 rfl ?_
        rw [Option.some.inj hS9]
        refine j_aload_n C dX3_stroke_81 rfl 0 rfl 82 rfl ?_
        refine j3_get C 3 (by decide) qf_X3_23 (v := .ref (ad g 15)) rfl dX3_stroke_82 85 rfl ?_
        refine j_bipush C dX3_stroke_85 (v := 101) c_bipush_101 87 rfl ?_
        obtain ⟨r10, hr10, hf⟩ := bnd hf
        refine j_x (put_blk S9 15 7).symm ?_
        refine j_callVi (As := [.int 101]) (rest := []) C (c_X1_worthAt l g sz S9 mm 15 rfl 101 (blk S9 15) _ hr10) (j_cwV C qc_X1_worthAt qm_X3_150 qi_X1_worthAt qs_X1_worthAt qn_X1 hd_X1_worthAt ⟨rfl, rfl⟩ ⟨by decide, by decide⟩) ((rcv_sh rfl).cell C.2) rfl (Nat.le_of_ble_eq_true rfl) dX3_stroke_87 90 rfl ?_
        refine j_x (put_blk S9 15 7) ?_
        refine j_istore (lv2 := [(5, .int r10), (0, .ref (ad g 0)), (1, .int b1), (2, .int b2), (3, .int b3), (4, .int b4)]) C dX3_stroke_90 (by decide) rfl 92 rfl ?_
        refine j_iload_n C dX3_stroke_92 rfl 3 rfl 93 rfl ?_
        refine j_if_eq C dX3_stroke_93 102 (by decide) 96 rfl (fun c11 => ?_) (fun c11 => ?_)
        · rw [if_pos c11] at hf
          refine j_iload C dX3_stroke_102 0 rfl 104 rfl ?_
          refine j_istore_n (lv2 := [(3, .int r10), (5, .int r10), (0, .ref (ad g 0)), (1, .int b1), (2, .int b2), (4, .int b4)]) C dX3_stroke_104 rfl (by decide) rfl 105 rfl ?_
          refine j_iload C dX3_stroke_105 5 rfl 107 rfl ?_
          refine j_istore_n (lv2 := [(2, .int b4), (3, .int r10), (5, .int r10), (0, .ref (ad g 0)), (1, .int b1), (4, .int b4)]) C dX3_stroke_107 rfl (by decide) rfl 108 rfl ?_
          refine j_iinc (lv2 := [(4, .int (b4 + 1)), (2, .int b4), (3, .int r10), (5, .int r10), (0, .ref (ad g 0)), (1, .int b1)]) C dX3_stroke_108 (k := 5) rfl (congrArg (HAdd.hAdd b4) c_oi_1) (by decide) rfl 111 rfl ?_
          refine j_goto C dX3_stroke_111 41 (by decide) ?_
          refine j_sub [4, 5, 1, 2, 0] rfl ?_
          exact ih b1 b4 r10 (b4 + 1) S9 hf
        · rw [if_neg c11] at hf
          refine j_iload C dX3_stroke_96 0 rfl 98 rfl ?_
          refine j_iload_n C dX3_stroke_98 rfl 4 rfl 99 rfl ?_
          refine j_icmp_ge C dX3_stroke_99 108 (by decide) 102 rfl (fun c12 => ?_) (fun c12 => ?_)
          · rw [if_pos c12] at hf
            refine j_iinc (lv2 := [(4, .int (b4 + 1)), (5, .int r10), (0, .ref (ad g 0)), (1, .int b1), (2, .int b2), (3, .int b3)]) C dX3_stroke_108 (k := 5) rfl (congrArg (HAdd.hAdd b4) c_oi_1) (by decide) rfl 111 rfl ?_
            refine j_goto C dX3_stroke_111 41 (by decide) ?_
            refine j_sub [2, 3, 4, 5, 0] rfl ?_
            exact ih b1 b2 b3 (b4 + 1) S9 hf
          · rw [if_neg c12] at hf
            refine j_iload C dX3_stroke_102 0 rfl 104 rfl ?_
            refine j_istore_n (lv2 := [(3, .int r10), (5, .int r10), (0, .ref (ad g 0)), (1, .int b1), (2, .int b2), (4, .int b4)]) C dX3_stroke_104 rfl (by decide) rfl 105 rfl ?_
            refine j_iload C dX3_stroke_105 5 rfl 107 rfl ?_
            refine j_istore_n (lv2 := [(2, .int b4), (3, .int r10), (5, .int r10), (0, .ref (ad g 0)), (1, .int b1), (4, .int b4)]) C dX3_stroke_107 rfl (by decide) rfl 108 rfl ?_
            refine j_iinc (lv2 := [(4, .int (b4 + 1)), (2, .int b4), (3, .int r10), (5, .int r10), (0, .ref (ad g 0)), (1, .int b1)]) C dX3_stroke_108 (k := 5) rfl (congrArg (HAdd.hAdd b4) c_oi_1) (by decide) rfl 111 rfl ?_
            refine j_goto C dX3_stroke_111 41 (by decide) ?_
            refine j_sub [4, 5, 1, 2, 0] rfl ?_
            exact ih b1 b4 r10 (b4 + 1) S9 hf
  unfold X3_stroke at hf
  refine j_iload_n C dX3_stroke_0 rfl 1 rfl 1 rfl ?_
  refine j_iconst C dX3_stroke_1 (v := 1) c_iconst_1 2 rfl ?_
  refine j_bipush C dX3_stroke_2 (v := 60) c_bipush_60 4 rfl ?_
  refine j_callSi (As := [.int a1, .int 1, .int 60]) (rest := []) C (c_X3_within l g sz S mm a1 1 60 _ rfl) (j_cwS C qc_X3_within qm_X3_66 qs_X3_within qn_X3 hd_X3_within ⟨rfl, rfl⟩ ⟨by decide, by decide⟩)  rfl (Nat.le_of_ble_eq_true rfl) dX3_stroke_4 7 rfl ?_
  refine j_if_ne C dX3_stroke_7 16 (by decide) 10 rfl (fun c1 => ?_) (fun c1 => ?_)
  · rw [if_neg c1] at hf
    refine j_aload_n C dX3_stroke_16 rfl 0 rfl 17 rfl ?_
    refine j_iload_n C dX3_stroke_17 rfl 1 rfl 18 rfl ?_
    refine j_callVi (As := [.int a1]) (rest := []) C (c_X3_passesEnd l g sz S mm  a1 _ rfl) (j_cwV C qc_X3_passesEnd qm_X3_124 qi_X3_passesEnd qs_X3_passesEnd qn_X3 hd_X3_passesEnd ⟨rfl, rfl⟩ ⟨by decide, by decide⟩) (rcv_pl.cell C.2) rfl (Nat.le_of_ble_eq_true rfl) dX3_stroke_18 21 rfl ?_
    refine j_if_eq C dX3_stroke_21 30 (by decide) 24 rfl (fun c2 => ?_) (fun c2 => ?_)
    · rw [if_pos c2] at hf
      refine j_iconst C dX3_stroke_30 (v := 0) c_iconst_0 31 rfl ?_
      refine j_istore_n (lv2 := [(2, .int 0), (0, .ref (ad g 0)), (1, .int a1)]) C dX3_stroke_31 rfl (by decide) rfl 32 rfl ?_
      refine j_iconst C dX3_stroke_32 (v := 0) c_iconst_0 33 rfl ?_
      refine j_istore_n (lv2 := [(3, .int 0), (2, .int 0), (0, .ref (ad g 0)), (1, .int a1)]) C dX3_stroke_33 rfl (by decide) rfl 34 rfl ?_
      refine j_gets C 4 (by decide) qf_X3_223 dX3_stroke_34 37 rfl ?_
      refine j_iconst C dX3_stroke_37 (v := 1) c_iconst_1 38 rfl ?_
      obtain ⟨v3, hv3, hf⟩ := bnd hf
      refine j_sald C 4 (by decide) hv3 dX3_stroke_38 39 rfl ?_
      refine j_istore (lv2 := [(4, .int v3), (3, .int 0), (2, .int 0), (0, .ref (ad g 0)), (1, .int a1)]) C dX3_stroke_39 (by decide) rfl 41 rfl ?_
      refine j_sub [3, 4, 2, 1, 0] rfl ?_
      exact hL41 FU a1 0 0 v3 S hf
    · rw [if_neg c2] at hf
      refine j_aload_n C dX3_stroke_24 rfl 0 rfl 25 rfl ?_
      refine j_iconst C dX3_stroke_25 (v := 4) c_iconst_4 26 rfl ?_
      obtain ⟨⟨r14, S15⟩, hq13, hf⟩ := bnd hf
      dsimp only at hf
      refine j_callVi (As := [.int 4]) (rest := []) C (c_X3_found l g sz S mm  4 _ _ hq13) (j_cwV C qc_X3_found qm_X3_52 qi_X3_found qs_X3_found qn_X3 hd_X3_found ⟨rfl, rfl⟩ ⟨by decide, by decide⟩) (rcv_pl.cell C.2) rfl (Nat.le_of_ble_eq_true rfl) dX3_stroke_26 29 rfl ?_
      obtain ⟨rfl, rfl⟩ := Prod.mk.inj (Option.some.inj hf)
      exact j_iret C hr hlk dX3_stroke_29
  · rw [if_pos c1] at hf
    refine j_aload_n C dX3_stroke_10 rfl 0 rfl 11 rfl ?_
    refine j_iconst C dX3_stroke_11 (v := 0) c_iconst_0 12 rfl ?_
    obtain ⟨⟨r17, S18⟩, hq16, hf⟩ := bnd hf
    dsimp only at hf
    refine j_callVi (As := [.int 0]) (rest := []) C (c_X3_found l g sz S mm  0 _ _ hq16) (j_cwV C qc_X3_found qm_X3_52 qi_X3_found qs_X3_found qn_X3 hd_X3_found ⟨rfl, rfl⟩ ⟨by decide, by decide⟩) (rcv_pl.cell C.2) rfl (Nat.le_of_ble_eq_true rfl) dX3_stroke_12 15 rfl ?_
    obtain ⟨rfl, rfl⟩ := Prod.mk.inj (Option.some.inj hf)
    exact j_iret C hr hlk dX3_stroke_15
set_option maxRecDepth 100000 in
set_option maxHeartbeats 4000000 in
theorem c_X3_force (l : Launch) (g : GG) (sz : Nat) (S mm : St) (a1 : Int32) (a2 : Int32) (r : Int32) (S' : St) (hf : X3_force a1 a2 S = some (r, S')) : Met l yX3_force (.code yX3_force cX3_force 4 (some .int) :: ALLW) (rmJ 5 116) (PcJ g sz S mm [.ref (ad g 0), .int a1, .int a2]) (QiJ g sz r S' mm) 0 0 (Ag sz) := by
  refine j_met (own := RX3) (by decide) rfl (Nat.le_of_ble_eq_true rfl) rfl ?_
  intro p e s m args below meth c C hr hlk
  have hL55 : ∀ (n : Nat), ∀ (b1 : Int32) (b2 : Int32) (b3 : Int32) (S : St), X3_force_L55 n b1 b2 b3 S = some (r, S') → Wj p l e (rmJ 5 116) s m args below meth c (MQ below (QiJ g sz r S' mm) args s 0 0 (Ag sz)) 4 g sz S mm 55 [(0, .ref (ad g 0)), (1, .int b1), (2, .int b2), (3, .int b3)] [] := by
    intro  n
    induction n with
    | zero =>
      intro b1 b2 b3 S hf
      rw [X3_force_L55] at hf
      cases hf
    | succ n ih =>
      intro b1 b2 b3 S hf
      rw [X3_force_L55] at hf
      refine j_iload_n C dX3_force_55 rfl 3 rfl 56 rfl ?_
      refine j_gets C 5 (by decide) qf_X3_226 dX3_force_56 59 rfl ?_
      refine j_iconst C dX3_force_59 (v := 0) c_iconst_0 60 rfl ?_
      obtain ⟨v13, hv13, hf⟩ := bnd hf
      refine j_sald C 5 (by decide) hv13 dX3_force_60 61 rfl ?_
      refine j_icmp_gt C dX3_force_61 112 (by decide) 64 rfl (fun c14 => ?_) (fun c14 => ?_)
      · rw [if_pos c14] at hf
        refine j_aload_n C dX3_force_112 rfl 0 rfl 113 rfl ?_
        refine j_iconst C dX3_force_113 (v := 3) c_iconst_3 114 rfl ?_
        obtain ⟨⟨r16, S17⟩, hq15, hf⟩ := bnd hf
        dsimp only at hf
        refine j_callVi (As := [.int 3]) (rest := []) C (c_X3_found l g sz S mm  3 _ _ hq15) (j_cwV C qc_X3_found qm_X3_52 qi_X3_found qs_X3_found qn_X3 hd_X3_found ⟨rfl, rfl⟩ ⟨by decide, by decide⟩) (rcv_pl.cell C.2) rfl (Nat.le_of_ble_eq_true rfl) dX3_force_114 117 rfl ?_
        obtain ⟨rfl, rfl⟩ := Prod.mk.inj (Option.some.inj hf)
        exact j_iret C hr hlk dX3_force_117
      · rw [if_neg c14] at hf
        refine j_aload_n C dX3_force_64 rfl 0 rfl 65 rfl ?_
        refine j3_get C 3 (by decide) qf_X3_23 (v := .ref (ad g 15)) rfl dX3_force_65 68 rfl ?_
        refine j_aload_n C dX3_force_68 rfl 0 rfl 69 rfl ?_
        refine j3_get C 0 (by decide) qf_X3_12 (v := .ref (ad g 1)) rfl dX3_force_69 72 rfl ?_
        obtain ⟨S18, hS18, hf⟩ := bnd hf
        refine j_callVv (As := [.ref (ad g 1)]) (rest := []) C (c_X1_become l g sz S mm 15 rfl 1 rfl (by decide)) (j_cwV C qc_X1_become qm_X3_165 qi_X1_become qs_X1_become qn_X1 hd_X1_become ⟨rfl, rfl⟩ ⟨by decide, by decide⟩) ((rcv_sh rfl).cell C.2) rfl (Nat.le_of_ble_eq_true rfl) dX3_force_72 75 rfl ?_
        rw [Option.some.inj hS18]
        refine j_aload_n C dX3_force_75 rfl 0 rfl 76 rfl ?_
        refine j3_get C 3 (by decide) qf_X3_23 (v := .ref (ad g 15)) rfl dX3_force_76 79 rfl ?_
        refine j3s_get (k := 15) rfl C 4 (by decide) qf_X3_118 (v := .ref (ad g 20)) rfl dX3_force_79 82 rfl ?_
        refine j_iconst C dX3_force_82 (v := 0) c_iconst_0 83 rfl ?_
        refine j_iload_n C dX3_force_83 rfl 3 rfl 84 rfl ?_
        obtain ⟨S19, hS19, hf⟩ := bnd hf
        refine j3s_ast (k := 15) rfl 5 (by decide) (by decide) C hS19 dX3_force_84 85 rfl ?_
        refine j_aload_n C dX3_force_85 rfl 0 rfl 86 rfl ?_
        refine j3_get C 3 (by decide) qf_X3_23 (v := .ref (ad g 15)) rfl dX3_force_86 89 rfl ?_
        refine j_iload_n C dX3_force_89 rfl 2 rfl 90 rfl ?_
        obtain ⟨T20, hT20, hf⟩ := bnd hf
        obtain ⟨S21, hS21, hf⟩ := bnd hf
        refine j_x (put_blk S19 15 7).symm ?_
        refine j_callVv (As := [.int b2]) (rest := []) C (c_X1_advance l g sz S19 mm 15 rfl b2 (blk S19 15) _ hT20) (j_cwV C qc_X1_advance qm_X3_137 qi_X1_advance qs_X1_advance qn_X1 hd_X1_advance ⟨rfl, rfl⟩ ⟨by decide, by decide⟩) ((rcv_sh rfl).cell C.2) rfl (Nat.le_of_ble_eq_true rfl) dX3_force_90 93 rfl ?_
        rw [Option.some.inj hS21]
        refine j_aload_n C dX3_force_93 rfl 0 rfl 94 rfl ?_
        refine j3_get C 3 (by decide) qf_X3_23 (v := .ref (ad g 15)) rfl dX3_force_94 97 rfl ?_
        refine j_iload_n C dX3_force_97 rfl 1 rfl 98 rfl ?_
        obtain ⟨r22, hr22, hf⟩ := bnd hf
        refine j_x (put_blk S21 15 7).symm ?_
        refine j_callVi (As := [.int b1]) (rest := []) C (c_X1_isOnShelf l g sz S21 mm 15 rfl b1 (blk S21 15) _ hr22) (j_cwV C qc_X1_isOnShelf qm_X3_175 qi_X1_isOnShelf qs_X1_isOnShelf qn_X1 hd_X1_isOnShelf ⟨rfl, rfl⟩ ⟨by decide, by decide⟩) ((rcv_sh rfl).cell C.2) rfl (Nat.le_of_ble_eq_true rfl) dX3_force_98 101 rfl ?_
        refine j_x (put_blk S21 15 7) ?_
        refine j_if_ne C dX3_force_101 106 (by decide) 104 rfl (fun c23 => ?_) (fun c23 => ?_)
        · rw [if_neg c23] at hf
          refine j_iinc (lv2 := [(3, .int (b3 + 1)), (0, .ref (ad g 0)), (1, .int b1), (2, .int b2)]) C dX3_force_106 (k := 3) rfl (congrArg (HAdd.hAdd b3) c_oi_1) (by decide) rfl 109 rfl ?_
          refine j_goto C dX3_force_109 55 (by decide) ?_
          refine j_sub [1, 2, 3, 0] rfl ?_
          exact ih b1 b2 (b3 + 1) S21 hf
        · rw [if_pos c23] at hf
          refine j_iload_n C dX3_force_104 rfl 3 rfl 105 rfl ?_
          obtain ⟨rfl, rfl⟩ := Prod.mk.inj (Option.some.inj hf)
          exact j_iret C hr hlk dX3_force_105
  unfold X3_force at hf
  refine j_aload_n C dX3_force_0 rfl 0 rfl 1 rfl ?_
  refine j_iload_n C dX3_force_1 rfl 1 rfl 2 rfl ?_
  refine j_callVi (As := [.int a1]) (rest := []) C (c_X3_isCoin l g sz S mm  a1 _ rfl) (j_cwV C qc_X3_isCoin qm_X3_63 qi_X3_isCoin qs_X3_isCoin qn_X3 hd_X3_isCoin ⟨rfl, rfl⟩ ⟨by decide, by decide⟩) (rcv_pl.cell C.2) rfl (Nat.le_of_ble_eq_true rfl) dX3_force_2 5 rfl ?_
  refine j_if_eq C dX3_force_5 18 (by decide) 8 rfl (fun c1 => ?_) (fun c1 => ?_)
  · rw [if_pos c1] at hf
    refine j_aload_n C dX3_force_18 rfl 0 rfl 19 rfl ?_
    refine j_iconst C dX3_force_19 (v := 0) c_iconst_0 20 rfl ?_
    obtain ⟨⟨r3, S4⟩, hq2, hf⟩ := bnd hf
    dsimp only at hf
    refine j_callVi (As := [.int 0]) (rest := []) C (c_X3_found l g sz S mm  0 _ _ hq2) (j_cwV C qc_X3_found qm_X3_52 qi_X3_found qs_X3_found qn_X3 hd_X3_found ⟨rfl, rfl⟩ ⟨by decide, by decide⟩) (rcv_pl.cell C.2) rfl (Nat.le_of_ble_eq_true rfl) dX3_force_20 23 rfl ?_
    obtain ⟨rfl, rfl⟩ := Prod.mk.inj (Option.some.inj hf)
    exact j_iret C hr hlk dX3_force_23
  · rw [if_neg c1] at hf
    refine j_iload_n C dX3_force_8 rfl 2 rfl 9 rfl ?_
    refine j_iconst C dX3_force_9 (v := 1) c_iconst_1 10 rfl ?_
    refine j_bipush C dX3_force_10 (v := 60) c_bipush_60 12 rfl ?_
    refine j_callSi (As := [.int a2, .int 1, .int 60]) (rest := []) C (c_X3_within l g sz S mm a2 1 60 _ rfl) (j_cwS C qc_X3_within qm_X3_66 qs_X3_within qn_X3 hd_X3_within ⟨rfl, rfl⟩ ⟨by decide, by decide⟩)  rfl (Nat.le_of_ble_eq_true rfl) dX3_force_12 15 rfl ?_
    refine j_if_ne C dX3_force_15 24 (by decide) 18 rfl (fun c5 => ?_) (fun c5 => ?_)
    · rw [if_neg c5] at hf
      refine j_aload_n C dX3_force_24 rfl 0 rfl 25 rfl ?_
      refine j3_get C 0 (by decide) qf_X3_12 (v := .ref (ad g 1)) rfl dX3_force_25 28 rfl ?_
      refine j_iload_n C dX3_force_28 rfl 1 rfl 29 rfl ?_
      obtain ⟨r6, hr6, hf⟩ := bnd hf
      refine j_x (put_blk S 1 7).symm ?_
      refine j_callVi (As := [.int a1]) (rest := []) C (c_X1_isOnShelf l g sz S mm 1 rfl a1 (blk S 1) _ hr6) (j_cwV C qc_X1_isOnShelf qm_X3_175 qi_X1_isOnShelf qs_X1_isOnShelf qn_X1 hd_X1_isOnShelf ⟨rfl, rfl⟩ ⟨by decide, by decide⟩) ((rcv_sh rfl).cell C.2) rfl (Nat.le_of_ble_eq_true rfl) dX3_force_29 32 rfl ?_
      refine j_x (put_blk S 1 7) ?_
      refine j_if_eq C dX3_force_32 43 (by decide) 35 rfl (fun c7 => ?_) (fun c7 => ?_)
      · rw [if_pos c7] at hf
        refine j_aload_n C dX3_force_43 rfl 0 rfl 44 rfl ?_
        refine j_iconst C dX3_force_44 (v := 4) c_iconst_4 45 rfl ?_
        obtain ⟨⟨r9, S10⟩, hq8, hf⟩ := bnd hf
        dsimp only at hf
        refine j_callVi (As := [.int 4]) (rest := []) C (c_X3_found l g sz S mm  4 _ _ hq8) (j_cwV C qc_X3_found qm_X3_52 qi_X3_found qs_X3_found qn_X3 hd_X3_found ⟨rfl, rfl⟩ ⟨by decide, by decide⟩) (rcv_pl.cell C.2) rfl (Nat.le_of_ble_eq_true rfl) dX3_force_45 48 rfl ?_
        obtain ⟨rfl, rfl⟩ := Prod.mk.inj (Option.some.inj hf)
        exact j_iret C hr hlk dX3_force_48
      · rw [if_neg c7] at hf
        refine j_aload_n C dX3_force_35 rfl 0 rfl 36 rfl ?_
        refine j_iload_n C dX3_force_36 rfl 2 rfl 37 rfl ?_
        refine j_callVi (As := [.int a2]) (rest := []) C (c_X3_passesEnd l g sz S mm  a2 _ rfl) (j_cwV C qc_X3_passesEnd qm_X3_124 qi_X3_passesEnd qs_X3_passesEnd qn_X3 hd_X3_passesEnd ⟨rfl, rfl⟩ ⟨by decide, by decide⟩) (rcv_pl.cell C.2) rfl (Nat.le_of_ble_eq_true rfl) dX3_force_37 40 rfl ?_
        refine j_if_eq C dX3_force_40 49 (by decide) 43 rfl (fun c11 => ?_) (fun c11 => ?_)
        · rw [if_pos c11] at hf
          refine j_gets C 4 (by decide) qf_X3_223 dX3_force_49 52 rfl ?_
          refine j_iconst C dX3_force_52 (v := 0) c_iconst_0 53 rfl ?_
          obtain ⟨v12, hv12, hf⟩ := bnd hf
          refine j_sald C 4 (by decide) hv12 dX3_force_53 54 rfl ?_
          refine j_istore_n (lv2 := [(3, .int v12), (0, .ref (ad g 0)), (1, .int a1), (2, .int a2)]) C dX3_force_54 rfl (by decide) rfl 55 rfl ?_
          refine j_sub [1, 2, 3, 0] rfl ?_
          exact hL55 FU a1 a2 v12 S hf
        · rw [if_neg c11] at hf
          refine j_aload_n C dX3_force_43 rfl 0 rfl 44 rfl ?_
          refine j_iconst C dX3_force_44 (v := 4) c_iconst_4 45 rfl ?_
          obtain ⟨⟨r25, S26⟩, hq24, hf⟩ := bnd hf
          dsimp only at hf
          refine j_callVi (As := [.int 4]) (rest := []) C (c_X3_found l g sz S mm  4 _ _ hq24) (j_cwV C qc_X3_found qm_X3_52 qi_X3_found qs_X3_found qn_X3 hd_X3_found ⟨rfl, rfl⟩ ⟨by decide, by decide⟩) (rcv_pl.cell C.2) rfl (Nat.le_of_ble_eq_true rfl) dX3_force_45 48 rfl ?_
          obtain ⟨rfl, rfl⟩ := Prod.mk.inj (Option.some.inj hf)
          exact j_iret C hr hlk dX3_force_48
    · rw [if_pos c5] at hf
      refine j_aload_n C dX3_force_18 rfl 0 rfl 19 rfl ?_
      refine j_iconst C dX3_force_19 (v := 0) c_iconst_0 20 rfl ?_
      obtain ⟨⟨r28, S29⟩, hq27, hf⟩ := bnd hf
      dsimp only at hf
      refine j_callVi (As := [.int 0]) (rest := []) C (c_X3_found l g sz S mm  0 _ _ hq27) (j_cwV C qc_X3_found qm_X3_52 qi_X3_found qs_X3_found qn_X3 hd_X3_found ⟨rfl, rfl⟩ ⟨by decide, by decide⟩) (rcv_pl.cell C.2) rfl (Nat.le_of_ble_eq_true rfl) dX3_force_20 23 rfl ?_
      obtain ⟨rfl, rfl⟩ := Prod.mk.inj (Option.some.inj hf)
      exact j_iret C hr hlk dX3_force_23
set_option maxRecDepth 100000 in
set_option maxHeartbeats 4000000 in
theorem c_X3_kindFor (l : Launch) (g : GG) (sz : Nat) (S mm : St) (a1 : Int32) (a2 : Int32) (r : Int32) (S' : St) (hf : X3_kindFor a1 a2 S = some (r, S')) : Met l yX3_kindFor (.code yX3_kindFor cX3_kindFor 8 (some .int) :: ALLW) (rmJ 5 116) (PcJ g sz S mm [.ref (ad g 0), .int a1, .int a2]) (QiJ g sz r S' mm) 0 0 (Ag sz) := by
  refine j_met (own := RX3) (by decide) rfl (Nat.le_of_ble_eq_true rfl) rfl ?_
  intro p e s m args below meth c C hr hlk
  have hL118 : ∀ (k57 : Int32 → Int32 → Int32 → Int32 → Int32 → St → Option (Int32 × St)) (_ : ∀ (b1 : Int32) (b2 : Int32) (b3 : Int32) (b4 : Int32) (b5 : Int32) (S : St), k57 b1 b2 b3 b4 b5 S = some (r, S') → Wj p l e (rmJ 5 116) s m args below meth c (MQ below (QiJ g sz r S' mm) args s 0 0 (Ag sz)) 8 g sz S mm 57 [(0, .ref (ad g 0)), (1, .int b1), (2, .int b2), (3, .int b3), (4, .int b4), (5, .int b5)] []), ∀ (b1 : Int32) (b2 : Int32) (b3 : Int32) (b4 : Int32) (b5 : Int32) (t0 : Int32) (S : St), X3_kindFor_L118 k57 b1 b2 b3 b4 b5 t0 S = some (r, S') → Wj p l e (rmJ 5 116) s m args below meth c (MQ below (QiJ g sz r S' mm) args s 0 0 (Ag sz)) 8 g sz S mm 118 [(0, .ref (ad g 0)), (1, .int b1), (2, .int b2), (3, .int b3), (4, .int b4), (5, .int b5)] [.int t0] := by
    intro k57 hk57 b1 b2 b3 b4 b5 t0 S hf
    unfold X3_kindFor_L118 at hf
    refine j_istore (lv2 := [(6, .int t0), (0, .ref (ad g 0)), (1, .int b1), (2, .int b2), (3, .int b3), (4, .int b4), (5, .int b5)]) C dX3_kindFor_118 (by decide) rfl 120 rfl ?_
    refine j_aload_n C dX3_kindFor_120 rfl 1 rfl 121 rfl ?_
    refine j3_get C 3 (by decide) qf_X3_23 (v := .ref (ad g 15)) rfl dX3_kindFor_121 124 rfl ?_
    refine j_bipush C dX3_kindFor_124 (v := 101) c_bipush_101 126 rfl ?_
    obtain ⟨r19, hr19, hf⟩ := bnd hf
    refine j_x (put_blk S 15 7).symm ?_
    refine j_callVi (As := [.int 101]) (rest := []) C (c_X1_worthAt l g sz S mm 15 rfl 101 (blk S 15) _ hr19) (j_cwV C qc_X1_worthAt qm_X3_150 qi_X1_worthAt qs_X1_worthAt qn_X1 hd_X1_worthAt ⟨rfl, rfl⟩ ⟨by decide, by decide⟩) ((rcv_sh rfl).cell C.2) rfl (Nat.le_of_ble_eq_true rfl) dX3_kindFor_126 129 rfl ?_
    refine j_x (put_blk S 15 7) ?_
    refine j_iload C dX3_kindFor_129 0 rfl 131 rfl ?_
    refine j_isub C dX3_kindFor_131 132 rfl ?_
    refine j_istore (lv2 := [(7, .int (r19 - t0)), (6, .int t0), (0, .ref (ad g 0)), (1, .int b1), (2, .int b2), (3, .int b3), (4, .int b4), (5, .int b5)]) C dX3_kindFor_132 (by decide) rfl 134 rfl ?_
    refine j_iload_n C dX3_kindFor_134 rfl 5 rfl 135 rfl ?_
    refine j_if_lt C dX3_kindFor_135 145 (by decide) 138 rfl (fun c20 => ?_) (fun c20 => ?_)
    · rw [if_pos c20] at hf
      refine j_iload C dX3_kindFor_145 0 rfl 147 rfl ?_
      refine j_istore (lv2 := [(4, .int (r19 - t0)), (7, .int (r19 - t0)), (6, .int t0), (0, .ref (ad g 0)), (1, .int b1), (2, .int b2), (3, .int b3), (5, .int b5)]) C dX3_kindFor_147 (by decide) rfl 149 rfl ?_
      refine j_iload C dX3_kindFor_149 7 rfl 151 rfl ?_
      refine j_istore_n (lv2 := [(3, .int b5), (4, .int (r19 - t0)), (7, .int (r19 - t0)), (6, .int t0), (0, .ref (ad g 0)), (1, .int b1), (2, .int b2), (5, .int b5)]) C dX3_kindFor_151 rfl (by decide) rfl 152 rfl ?_
      refine j_iinc (lv2 := [(5, .int (b5 + 1)), (3, .int b5), (4, .int (r19 - t0)), (7, .int (r19 - t0)), (6, .int t0), (0, .ref (ad g 0)), (1, .int b1), (2, .int b2)]) C dX3_kindFor_152 (k := 7) rfl (congrArg (HAdd.hAdd b5) c_oi_1) (by decide) rfl 155 rfl ?_
      refine j_goto C dX3_kindFor_155 57 (by decide) ?_
      refine j_sub [5, 6, 7, 1, 2, 0] rfl ?_
      exact hk57 b1 b2 b5 (r19 - t0) (b5 + 1) S hf
    · rw [if_neg c20] at hf
      refine j_iload C dX3_kindFor_138 0 rfl 140 rfl ?_
      refine j_iload C dX3_kindFor_140 6 rfl 142 rfl ?_
      refine j_icmp_le C dX3_kindFor_142 152 (by decide) 145 rfl (fun c21 => ?_) (fun c21 => ?_)
      · rw [if_pos c21] at hf
        refine j_iinc (lv2 := [(5, .int (b5 + 1)), (7, .int (r19 - t0)), (6, .int t0), (0, .ref (ad g 0)), (1, .int b1), (2, .int b2), (3, .int b3), (4, .int b4)]) C dX3_kindFor_152 (k := 7) rfl (congrArg (HAdd.hAdd b5) c_oi_1) (by decide) rfl 155 rfl ?_
        refine j_goto C dX3_kindFor_155 57 (by decide) ?_
        refine j_sub [3, 4, 5, 6, 7, 0] rfl ?_
        exact hk57 b1 b2 b3 b4 (b5 + 1) S hf
      · rw [if_neg c21] at hf
        refine j_iload C dX3_kindFor_145 0 rfl 147 rfl ?_
        refine j_istore (lv2 := [(4, .int (r19 - t0)), (7, .int (r19 - t0)), (6, .int t0), (0, .ref (ad g 0)), (1, .int b1), (2, .int b2), (3, .int b3), (5, .int b5)]) C dX3_kindFor_147 (by decide) rfl 149 rfl ?_
        refine j_iload C dX3_kindFor_149 7 rfl 151 rfl ?_
        refine j_istore_n (lv2 := [(3, .int b5), (4, .int (r19 - t0)), (7, .int (r19 - t0)), (6, .int t0), (0, .ref (ad g 0)), (1, .int b1), (2, .int b2), (5, .int b5)]) C dX3_kindFor_151 rfl (by decide) rfl 152 rfl ?_
        refine j_iinc (lv2 := [(5, .int (b5 + 1)), (3, .int b5), (4, .int (r19 - t0)), (7, .int (r19 - t0)), (6, .int t0), (0, .ref (ad g 0)), (1, .int b1), (2, .int b2)]) C dX3_kindFor_152 (k := 7) rfl (congrArg (HAdd.hAdd b5) c_oi_1) (by decide) rfl 155 rfl ?_
        refine j_goto C dX3_kindFor_155 57 (by decide) ?_
        refine j_sub [5, 6, 7, 1, 2, 0] rfl ?_
        exact hk57 b1 b2 b5 (r19 - t0) (b5 + 1) S hf
  have hL57 : ∀ (n : Nat), ∀ (b1 : Int32) (b2 : Int32) (b3 : Int32) (b4 : Int32) (b5 : Int32) (S : St), X3_kindFor_L57 n b1 b2 b3 b4 b5 S = some (r, S') → Wj p l e (rmJ 5 116) s m args below meth c (MQ below (QiJ g sz r S' mm) args s 0 0 (Ag sz)) 8 g sz S mm 57 [(0, .ref (ad g 0)), (1, .int b1), (2, .int b2), (3, .int b3), (4, .int b4), (5, .int b5)] [] := by
    intro  n
    induction n with
    | zero =>
      intro b1 b2 b3 b4 b5 S hf
      rw [X3_kindFor_L57] at hf
      cases hf
    | succ n ih =>
      intro b1 b2 b3 b4 b5 S hf
      rw [X3_kindFor_L57] at hf
      refine j_iload C dX3_kindFor_57 5 rfl 59 rfl ?_
      refine j_bipush C dX3_kindFor_59 (v := 7) c_bipush_7 61 rfl ?_
      refine j_icmp_ge C dX3_kindFor_61 158 (by decide) 64 rfl (fun c12 => ?_) (fun c12 => ?_)
      · rw [if_pos c12] at hf
        refine j_iload_n C dX3_kindFor_158 rfl 3 rfl 159 rfl ?_
        obtain ⟨rfl, rfl⟩ := Prod.mk.inj (Option.some.inj hf)
        exact j_iret C hr hlk dX3_kindFor_159
      · rw [if_neg c12] at hf
        refine j_aload_n C dX3_kindFor_64 rfl 0 rfl 65 rfl ?_
        refine j3_get C 3 (by decide) qf_X3_23 (v := .ref (ad g 15)) rfl dX3_kindFor_65 68 rfl ?_
        refine j_aload_n C dX3_kindFor_68 rfl 0 rfl 69 rfl ?_
        refine j3_get C 0 (by decide) qf_X3_12 (v := .ref (ad g 1)) rfl dX3_kindFor_69 72 rfl ?_
        obtain ⟨S13, hS13, hf⟩ := bnd hf
        refine j_callVv (As := [.ref (ad g 1)]) (rest := []) C (c_X1_become l g sz S mm 15 rfl 1 rfl (by decide)) (j_cwV C qc_X1_become qm_X3_165 qi_X1_become qs_X1_become qn_X1 hd_X1_become ⟨rfl, rfl⟩ ⟨by decide, by decide⟩) ((rcv_sh rfl).cell C.2) rfl (Nat.le_of_ble_eq_true rfl) dX3_kindFor_72 75 rfl ?_
        rw [Option.some.inj hS13]
        refine j_aload_n C dX3_kindFor_75 rfl 0 rfl 76 rfl ?_
        refine j3_get C 3 (by decide) qf_X3_23 (v := .ref (ad g 15)) rfl dX3_kindFor_76 79 rfl ?_
        refine j3s_get (k := 15) rfl C 0 (by decide) qf_X3_70 (v := .ref (ad g 16)) rfl dX3_kindFor_79 82 rfl ?_
        refine j_iload_n C dX3_kindFor_82 rfl 1 rfl 83 rfl ?_
        refine j_iload C dX3_kindFor_83 5 rfl 85 rfl ?_
        obtain ⟨S14, hS14, hf⟩ := bnd hf
        refine j3s_ast (k := 15) rfl 1 (by decide) (by decide) C hS14 dX3_kindFor_85 86 rfl ?_
        refine j_aload_n C dX3_kindFor_86 rfl 0 rfl 87 rfl ?_
        refine j3_get C 3 (by decide) qf_X3_23 (v := .ref (ad g 15)) rfl dX3_kindFor_87 90 rfl ?_
        refine j_iload_n C dX3_kindFor_90 rfl 2 rfl 91 rfl ?_
        obtain ⟨T15, hT15, hf⟩ := bnd hf
        obtain ⟨S16, hS16, hf⟩ := bnd hf
        refine j_x (put_blk S14 15 7).symm ?_
        refine j_callVv (As := [.int b2]) (rest := []) C (c_X1_advance l g sz S14 mm 15 rfl b2 (blk S14 15) _ hT15) (j_cwV C qc_X1_advance qm_X3_137 qi_X1_advance qs_X1_advance qn_X1 hd_X1_advance ⟨rfl, rfl⟩ ⟨by decide, by decide⟩) ((rcv_sh rfl).cell C.2) rfl (Nat.le_of_ble_eq_true rfl) dX3_kindFor_91 94 rfl ?_
        rw [Option.some.inj hS16]
        refine j_aload_n C dX3_kindFor_94 rfl 0 rfl 95 rfl ?_
        refine j3_get C 3 (by decide) qf_X3_23 (v := .ref (ad g 15)) rfl dX3_kindFor_95 98 rfl ?_
        refine j3s_get (k := 15) rfl C 1 (by decide) qf_X3_92 (v := .ref (ad g 17)) rfl dX3_kindFor_98 101 rfl ?_
        refine j_iload_n C dX3_kindFor_101 rfl 1 rfl 102 rfl ?_
        obtain ⟨v17, hv17, hf⟩ := bnd hf
        refine j3s_ald (k := 15) rfl 2 (by decide) (by decide) C hv17 dX3_kindFor_102 103 rfl ?_
        refine j_bipush C dX3_kindFor_103 (v := 101) c_bipush_101 105 rfl ?_
        refine j_icmp_ne C dX3_kindFor_105 117 (by decide) 108 rfl (fun c18 => ?_) (fun c18 => ?_)
        · rw [if_neg c18] at hf
          refine j_iconst C dX3_kindFor_117 (v := 0) c_iconst_0 118 rfl ?_
          exact hL118 _ ih b1 b2 b3 b4 b5 0 S16 hf
        · rw [if_pos c18] at hf
          refine j_gets C 1 (by decide) qf_X3_79 dX3_kindFor_108 111 rfl ?_
          refine j_iload C dX3_kindFor_111 5 rfl 113 rfl ?_
          obtain ⟨v22, hv22, hf⟩ := bnd hf
          refine j_sald C 1 (by decide) hv22 dX3_kindFor_113 114 rfl ?_
          refine j_goto C dX3_kindFor_114 118 (by decide) ?_
          exact hL118 _ ih b1 b2 b3 b4 b5 v22 S16 hf
  unfold X3_kindFor at hf
  refine j_aload_n C dX3_kindFor_0 rfl 0 rfl 1 rfl ?_
  refine j_iload_n C dX3_kindFor_1 rfl 1 rfl 2 rfl ?_
  refine j_callVi (As := [.int a1]) (rest := []) C (c_X3_isCoin l g sz S mm  a1 _ rfl) (j_cwV C qc_X3_isCoin qm_X3_63 qi_X3_isCoin qs_X3_isCoin qn_X3 hd_X3_isCoin ⟨rfl, rfl⟩ ⟨by decide, by decide⟩) (rcv_pl.cell C.2) rfl (Nat.le_of_ble_eq_true rfl) dX3_kindFor_2 5 rfl ?_
  refine j_if_eq C dX3_kindFor_5 18 (by decide) 8 rfl (fun c1 => ?_) (fun c1 => ?_)
  · rw [if_pos c1] at hf
    refine j_aload_n C dX3_kindFor_18 rfl 0 rfl 19 rfl ?_
    refine j_iconst C dX3_kindFor_19 (v := 0) c_iconst_0 20 rfl ?_
    obtain ⟨⟨r3, S4⟩, hq2, hf⟩ := bnd hf
    dsimp only at hf
    refine j_callVi (As := [.int 0]) (rest := []) C (c_X3_found l g sz S mm  0 _ _ hq2) (j_cwV C qc_X3_found qm_X3_52 qi_X3_found qs_X3_found qn_X3 hd_X3_found ⟨rfl, rfl⟩ ⟨by decide, by decide⟩) (rcv_pl.cell C.2) rfl (Nat.le_of_ble_eq_true rfl) dX3_kindFor_20 23 rfl ?_
    obtain ⟨rfl, rfl⟩ := Prod.mk.inj (Option.some.inj hf)
    exact j_iret C hr hlk dX3_kindFor_23
  · rw [if_neg c1] at hf
    refine j_iload_n C dX3_kindFor_8 rfl 2 rfl 9 rfl ?_
    refine j_iconst C dX3_kindFor_9 (v := 1) c_iconst_1 10 rfl ?_
    refine j_bipush C dX3_kindFor_10 (v := 60) c_bipush_60 12 rfl ?_
    refine j_callSi (As := [.int a2, .int 1, .int 60]) (rest := []) C (c_X3_within l g sz S mm a2 1 60 _ rfl) (j_cwS C qc_X3_within qm_X3_66 qs_X3_within qn_X3 hd_X3_within ⟨rfl, rfl⟩ ⟨by decide, by decide⟩)  rfl (Nat.le_of_ble_eq_true rfl) dX3_kindFor_12 15 rfl ?_
    refine j_if_ne C dX3_kindFor_15 24 (by decide) 18 rfl (fun c5 => ?_) (fun c5 => ?_)
    · rw [if_neg c5] at hf
      refine j_aload_n C dX3_kindFor_24 rfl 0 rfl 25 rfl ?_
      refine j3_get C 0 (by decide) qf_X3_12 (v := .ref (ad g 1)) rfl dX3_kindFor_25 28 rfl ?_
      refine j_iload_n C dX3_kindFor_28 rfl 1 rfl 29 rfl ?_
      obtain ⟨r6, hr6, hf⟩ := bnd hf
      refine j_x (put_blk S 1 7).symm ?_
      refine j_callVi (As := [.int a1]) (rest := []) C (c_X1_isOnShelf l g sz S mm 1 rfl a1 (blk S 1) _ hr6) (j_cwV C qc_X1_isOnShelf qm_X3_175 qi_X1_isOnShelf qs_X1_isOnShelf qn_X1 hd_X1_isOnShelf ⟨rfl, rfl⟩ ⟨by decide, by decide⟩) ((rcv_sh rfl).cell C.2) rfl (Nat.le_of_ble_eq_true rfl) dX3_kindFor_29 32 rfl ?_
      refine j_x (put_blk S 1 7) ?_
      refine j_if_eq C dX3_kindFor_32 43 (by decide) 35 rfl (fun c7 => ?_) (fun c7 => ?_)
      · rw [if_pos c7] at hf
        refine j_aload_n C dX3_kindFor_43 rfl 0 rfl 44 rfl ?_
        refine j_iconst C dX3_kindFor_44 (v := 4) c_iconst_4 45 rfl ?_
        obtain ⟨⟨r9, S10⟩, hq8, hf⟩ := bnd hf
        dsimp only at hf
        refine j_callVi (As := [.int 4]) (rest := []) C (c_X3_found l g sz S mm  4 _ _ hq8) (j_cwV C qc_X3_found qm_X3_52 qi_X3_found qs_X3_found qn_X3 hd_X3_found ⟨rfl, rfl⟩ ⟨by decide, by decide⟩) (rcv_pl.cell C.2) rfl (Nat.le_of_ble_eq_true rfl) dX3_kindFor_45 48 rfl ?_
        obtain ⟨rfl, rfl⟩ := Prod.mk.inj (Option.some.inj hf)
        exact j_iret C hr hlk dX3_kindFor_48
      · rw [if_neg c7] at hf
        refine j_aload_n C dX3_kindFor_35 rfl 0 rfl 36 rfl ?_
        refine j_iload_n C dX3_kindFor_36 rfl 2 rfl 37 rfl ?_
        refine j_callVi (As := [.int a2]) (rest := []) C (c_X3_passesEnd l g sz S mm  a2 _ rfl) (j_cwV C qc_X3_passesEnd qm_X3_124 qi_X3_passesEnd qs_X3_passesEnd qn_X3 hd_X3_passesEnd ⟨rfl, rfl⟩ ⟨by decide, by decide⟩) (rcv_pl.cell C.2) rfl (Nat.le_of_ble_eq_true rfl) dX3_kindFor_37 40 rfl ?_
        refine j_if_eq C dX3_kindFor_40 49 (by decide) 43 rfl (fun c11 => ?_) (fun c11 => ?_)
        · rw [if_pos c11] at hf
          refine j_iconst C dX3_kindFor_49 (v := (-1)) c_iconst_m1 50 rfl ?_
          refine j_istore_n (lv2 := [(3, .int (-1)), (0, .ref (ad g 0)), (1, .int a1), (2, .int a2)]) C dX3_kindFor_50 rfl (by decide) rfl 51 rfl ?_
          refine j_iconst C dX3_kindFor_51 (v := 0) c_iconst_0 52 rfl ?_
          refine j_istore (lv2 := [(4, .int 0), (3, .int (-1)), (0, .ref (ad g 0)), (1, .int a1), (2, .int a2)]) C dX3_kindFor_52 (by decide) rfl 54 rfl ?_
          refine j_iconst C dX3_kindFor_54 (v := 0) c_iconst_0 55 rfl ?_
          refine j_istore (lv2 := [(5, .int 0), (4, .int 0), (3, .int (-1)), (0, .ref (ad g 0)), (1, .int a1), (2, .int a2)]) C dX3_kindFor_55 (by decide) rfl 57 rfl ?_
          refine j_sub [3, 4, 5, 2, 1, 0] rfl ?_
          exact hL57 FU a1 a2 (-1) 0 0 S hf
        · rw [if_neg c11] at hf
          refine j_aload_n C dX3_kindFor_43 rfl 0 rfl 44 rfl ?_
          refine j_iconst C dX3_kindFor_44 (v := 4) c_iconst_4 45 rfl ?_
          obtain ⟨⟨r24, S25⟩, hq23, hf⟩ := bnd hf
          dsimp only at hf
          refine j_callVi (As := [.int 4]) (rest := []) C (c_X3_found l g sz S mm  4 _ _ hq23) (j_cwV C qc_X3_found qm_X3_52 qi_X3_found qs_X3_found qn_X3 hd_X3_found ⟨rfl, rfl⟩ ⟨by decide, by decide⟩) (rcv_pl.cell C.2) rfl (Nat.le_of_ble_eq_true rfl) dX3_kindFor_45 48 rfl ?_
          obtain ⟨rfl, rfl⟩ := Prod.mk.inj (Option.some.inj hf)
          exact j_iret C hr hlk dX3_kindFor_48
    · rw [if_pos c5] at hf
      refine j_aload_n C dX3_kindFor_18 rfl 0 rfl 19 rfl ?_
      refine j_iconst C dX3_kindFor_19 (v := 0) c_iconst_0 20 rfl ?_
      obtain ⟨⟨r27, S28⟩, hq26, hf⟩ := bnd hf
      dsimp only at hf
      refine j_callVi (As := [.int 0]) (rest := []) C (c_X3_found l g sz S mm  0 _ _ hq26) (j_cwV C qc_X3_found qm_X3_52 qi_X3_found qs_X3_found qn_X3 hd_X3_found ⟨rfl, rfl⟩ ⟨by decide, by decide⟩) (rcv_pl.cell C.2) rfl (Nat.le_of_ble_eq_true rfl) dX3_kindFor_20 23 rfl ?_
      obtain ⟨rfl, rfl⟩ := Prod.mk.inj (Option.some.inj hf)
      exact j_iret C hr hlk dX3_kindFor_23
set_option maxRecDepth 100000 in
set_option maxHeartbeats 4000000 in
theorem c_X3_seed (l : Launch) (g : GG) (sz : Nat) (S mm : St) (a1 : Int32) (r : Int32) (S' : St) (hf : X3_seed a1 S = some (r, S')) : Met l yX3_seed (.code yX3_seed cX3_seed 3 (some .int) :: ALLW) (rmJ 0 0) (PcJ g sz S mm [.ref (ad g 0), .int a1]) (QiJ g sz r S' mm) 0 0 (Ag sz) := by
  refine j_met (own := RX3) (by decide) rfl (Nat.le_of_ble_eq_true rfl) rfl ?_
  intro p e s m args below meth c C hr hlk
  unfold X3_seed at hf
  refine j_aload_n C dX3_seed_0 rfl 0 rfl 1 rfl ?_
  refine j3_get C 0 (by decide) qf_X3_12 (v := .ref (ad g 1)) rfl dX3_seed_1 4 rfl ?_
  refine j3s_get (k := 1) rfl C 9 (by decide) qf_X3_229 (v := .int (S 1 9)) rfl dX3_seed_4 7 rfl ?_
  refine j_istore_n (lv2 := [(2, .int (S 1 9)), (0, .ref (ad g 0)), (1, .int a1)]) C dX3_seed_7 rfl (by decide) rfl 8 rfl ?_
  refine j_aload_n C dX3_seed_8 rfl 1 rfl 9 rfl ?_
  refine j3_get C 0 (by decide) qf_X3_12 (v := .ref (ad g 1)) rfl dX3_seed_9 12 rfl ?_
  refine j_iload_n C dX3_seed_12 rfl 2 rfl 13 rfl ?_
  obtain ⟨S1, hS1, hf⟩ := bnd hf
  refine j3s_put (k := 1) rfl C 9 (by decide) (by decide) rfl rfl qf_X3_229 dX3_seed_13 16 rfl ?_
  rw [Option.some.inj hS1]
  refine j_iload_n C dX3_seed_16 rfl 0 rfl 17 rfl ?_
  obtain ⟨rfl, rfl⟩ := Prod.mk.inj (Option.some.inj hf)
  exact j_iret C hr hlk dX3_seed_17
set_option maxRecDepth 100000 in
set_option maxHeartbeats 4000000 in
theorem c_X3_feed (l : Launch) (g : GG) (sz : Nat) (S mm : St) (a1 : Int32) (a2 : Int32) (r : Int32) (S' : St) (hf : X3_feed a1 a2 S = some (r, S')) : Met l yX3_feed (.code yX3_feed cX3_feed 4 (some .int) :: ALLW) (rmJ 1 22) (PcJ g sz S mm [.ref (ad g 0), .int a1, .int a2]) (QiJ g sz r S' mm) 0 0 (Ag sz) := by
  refine j_met (own := RX3) (by decide) rfl (Nat.le_of_ble_eq_true rfl) rfl ?_
  intro p e s m args below meth c C hr hlk
  have hL39 : ∀ (n : Nat), ∀ (b1 : Int32) (b3 : Int32) (S : St), X3_feed_L39 n b1 b3 S = some (r, S') → Wj p l e (rmJ 1 22) s m args below meth c (MQ below (QiJ g sz r S' mm) args s 0 0 (Ag sz)) 4 g sz S mm 39 [(0, .ref (ad g 0)), (1, .int b1), (3, .int b3)] [] := by
    intro  n
    induction n with
    | zero =>
      intro b1 b3 S hf
      rw [X3_feed_L39] at hf
      cases hf
    | succ n ih =>
      intro b1 b3 S hf
      rw [X3_feed_L39] at hf
      refine j_iload_n C dX3_feed_39 rfl 2 rfl 40 rfl ?_
      refine j_if_lt C dX3_feed_40 66 (by decide) 43 rfl (fun c3 => ?_) (fun c3 => ?_)
      · rw [if_pos c3] at hf
        refine j_aload_n C dX3_feed_66 rfl 0 rfl 67 rfl ?_
        refine j3_get C 5 (by decide) qf_X3_33 (v := .ref (ad g 23)) rfl dX3_feed_67 70 rfl ?_
        refine j3t_get C 1 (by decide) qf_X3_232 (v := .int (S 23 1)) rfl dX3_feed_70 73 rfl ?_
        obtain ⟨rfl, rfl⟩ := Prod.mk.inj (Option.some.inj hf)
        exact j_iret C hr hlk dX3_feed_73
      · rw [if_neg c3] at hf
        refine j_aload_n C dX3_feed_43 rfl 0 rfl 44 rfl ?_
        refine j3_get C 5 (by decide) qf_X3_33 (v := .ref (ad g 23)) rfl dX3_feed_44 47 rfl ?_
        refine j_iload_n C dX3_feed_47 rfl 1 rfl 48 rfl ?_
        refine j_bipush C dX3_feed_48 (v := 8) c_bipush_8 50 rfl ?_
        refine j_iload_n C dX3_feed_50 rfl 2 rfl 51 rfl ?_
        refine j_imul C dX3_feed_51 52 rfl ?_
        refine j_iushr C dX3_feed_52 53 rfl ?_
        refine j_sipush C dX3_feed_53 (v := 255) c_sipush_255 56 rfl ?_
        refine j_iand C dX3_feed_56 57 rfl ?_
        obtain ⟨T4, hT4, hf⟩ := bnd hf
        obtain ⟨S5, hS5, hf⟩ := bnd hf
        refine j_x (put_blk S 23 2).symm ?_
        refine j_callVv (As := [.int ((ush32 b1 (8 * b3)) &&& 255)]) (rest := []) C (c_X2_append l g sz S mm ((ush32 b1 (8 * b3)) &&& 255) (blk S 23) _ hT4) (j_cwV C qc_X2_append qm_X3_235 qi_X2_append qs_X2_append qn_X2 hd_X2_append ⟨rfl, rfl⟩ ⟨by decide, by decide⟩) (rcv_tp.cell C.2) rfl (Nat.le_of_ble_eq_true rfl) dX3_feed_57 60 rfl ?_
        rw [Option.some.inj hS5]
        refine j_iinc (lv2 := [(3, .int (b3 + (-1))), (0, .ref (ad g 0)), (1, .int b1)]) C dX3_feed_60 (k := 2) rfl (congrArg (HAdd.hAdd b3) c_oi_m1) (by decide) rfl 63 rfl ?_
        refine j_goto C dX3_feed_63 39 (by decide) ?_
        refine j_sub [1, 2, 0] rfl ?_
        exact ih b1 (b3 + (-1)) S5 hf
  unfold X3_feed at hf
  refine j_iload_n C dX3_feed_0 rfl 2 rfl 1 rfl ?_
  refine j_iconst C dX3_feed_1 (v := 1) c_iconst_1 2 rfl ?_
  refine j_iconst C dX3_feed_2 (v := 4) c_iconst_4 3 rfl ?_
  refine j_callSi (As := [.int a2, .int 1, .int 4]) (rest := []) C (c_X3_within l g sz S mm a2 1 4 _ rfl) (j_cwS C qc_X3_within qm_X3_66 qs_X3_within qn_X3 hd_X3_within ⟨rfl, rfl⟩ ⟨by decide, by decide⟩)  rfl (Nat.le_of_ble_eq_true rfl) dX3_feed_3 6 rfl ?_
  refine j_if_ne C dX3_feed_6 15 (by decide) 9 rfl (fun c1 => ?_) (fun c1 => ?_)
  · rw [if_neg c1] at hf
    refine j_aload_n C dX3_feed_15 rfl 0 rfl 16 rfl ?_
    refine j3_get C 5 (by decide) qf_X3_33 (v := .ref (ad g 23)) rfl dX3_feed_16 19 rfl ?_
    refine j3t_get C 1 (by decide) qf_X3_232 (v := .int (S 23 1)) rfl dX3_feed_19 22 rfl ?_
    refine j_iload_n C dX3_feed_22 rfl 2 rfl 23 rfl ?_
    refine j_iadd C dX3_feed_23 24 rfl ?_
    refine j_bipush C dX3_feed_24 (v := 120) c_bipush_120 26 rfl ?_
    refine j_icmp_le C dX3_feed_26 35 (by decide) 29 rfl (fun c2 => ?_) (fun c2 => ?_)
    · rw [if_pos c2] at hf
      refine j_iload_n C dX3_feed_35 rfl 2 rfl 36 rfl ?_
      refine j_iconst C dX3_feed_36 (v := 1) c_iconst_1 37 rfl ?_
      refine j_isub C dX3_feed_37 38 rfl ?_
      refine j_istore_n (lv2 := [(3, .int (a2 - 1)), (0, .ref (ad g 0)), (1, .int a1), (2, .int a2)]) C dX3_feed_38 rfl (by decide) rfl 39 rfl ?_
      refine j_sub [1, 2, 0] rfl ?_
      exact hL39 FU a1 (a2 - 1) S hf
    · rw [if_neg c2] at hf
      refine j_aload_n C dX3_feed_29 rfl 0 rfl 30 rfl ?_
      refine j_iconst C dX3_feed_30 (v := 1) c_iconst_1 31 rfl ?_
      obtain ⟨⟨r7, S8⟩, hq6, hf⟩ := bnd hf
      dsimp only at hf
      refine j_callVi (As := [.int 1]) (rest := []) C (c_X3_found l g sz S mm  1 _ _ hq6) (j_cwV C qc_X3_found qm_X3_52 qi_X3_found qs_X3_found qn_X3 hd_X3_found ⟨rfl, rfl⟩ ⟨by decide, by decide⟩) (rcv_pl.cell C.2) rfl (Nat.le_of_ble_eq_true rfl) dX3_feed_31 34 rfl ?_
      obtain ⟨rfl, rfl⟩ := Prod.mk.inj (Option.some.inj hf)
      exact j_iret C hr hlk dX3_feed_34
  · rw [if_pos c1] at hf
    refine j_aload_n C dX3_feed_9 rfl 0 rfl 10 rfl ?_
    refine j_iconst C dX3_feed_10 (v := 0) c_iconst_0 11 rfl ?_
    obtain ⟨⟨r10, S11⟩, hq9, hf⟩ := bnd hf
    dsimp only at hf
    refine j_callVi (As := [.int 0]) (rest := []) C (c_X3_found l g sz S mm  0 _ _ hq9) (j_cwV C qc_X3_found qm_X3_52 qi_X3_found qs_X3_found qn_X3 hd_X3_found ⟨rfl, rfl⟩ ⟨by decide, by decide⟩) (rcv_pl.cell C.2) rfl (Nat.le_of_ble_eq_true rfl) dX3_feed_11 14 rfl ?_
    obtain ⟨rfl, rfl⟩ := Prod.mk.inj (Option.some.inj hf)
    exact j_iret C hr hlk dX3_feed_14
set_option maxRecDepth 100000 in
set_option maxHeartbeats 4000000 in
theorem c_X3_wipe (l : Launch) (g : GG) (sz : Nat) (S mm : St) (r : Int32) (S' : St) (hf : X3_wipe S = some (r, S')) : Met l yX3_wipe (.code yX3_wipe cX3_wipe 2 (some .int) :: ALLW) (rmJ 0 0) (PcJ g sz S mm [.ref (ad g 0)]) (QiJ g sz r S' mm) 0 0 (Ag sz) := by
  refine j_met (own := RX3) (by decide) rfl (Nat.le_of_ble_eq_true rfl) rfl ?_
  intro p e s m args below meth c C hr hlk
  unfold X3_wipe at hf
  refine j_aload_n C dX3_wipe_0 rfl 0 rfl 1 rfl ?_
  refine j3_get C 5 (by decide) qf_X3_33 (v := .ref (ad g 23)) rfl dX3_wipe_1 4 rfl ?_
  refine j3t_get C 1 (by decide) qf_X3_232 (v := .int (S 23 1)) rfl dX3_wipe_4 7 rfl ?_
  refine j_istore_n (lv2 := [(1, .int (S 23 1)), (0, .ref (ad g 0))]) C dX3_wipe_7 rfl (by decide) rfl 8 rfl ?_
  refine j_aload_n C dX3_wipe_8 rfl 1 rfl 9 rfl ?_
  refine j3_get C 5 (by decide) qf_X3_33 (v := .ref (ad g 23)) rfl dX3_wipe_9 12 rfl ?_
  refine j_iconst C dX3_wipe_12 (v := 0) c_iconst_0 13 rfl ?_
  obtain ⟨S1, hS1, hf⟩ := bnd hf
  refine j3t_put C 1 (by decide) (by decide) rfl rfl qf_X3_232 dX3_wipe_13 16 rfl ?_
  rw [Option.some.inj hS1]
  refine j_iload_n C dX3_wipe_16 rfl 0 rfl 17 rfl ?_
  obtain ⟨rfl, rfl⟩ := Prod.mk.inj (Option.some.inj hf)
  exact j_iret C hr hlk dX3_wipe_17
set_option maxRecDepth 100000 in
set_option maxHeartbeats 4000000 in
theorem c_X3_kindWord (l : Launch) (g : GG) (sz : Nat) (x mm : St) (a0 : Int32) (r : Nat) (hf : X3_kindWord a0 = r) : Met l yX3_kindWord (.code yX3_kindWord cX3_kindWord 1 (some (.object "java/lang/String")) :: ALLW) (rmJ 0 0) (PcJ g sz x mm [.int a0]) (QrJ g sz (adK g r) x mm) 0 0 (Ag sz) := by
  refine j_met (own := RX3) (by decide) rfl (Nat.le_of_ble_eq_true rfl) rfl ?_
  intro p e s m args below meth c C hr hlk
  unfold X3_kindWord at hf
  refine j_iload_n C dX3_kindWord_0 rfl 0 rfl 1 rfl ?_
  by_cases c1 : a0 = 0
  · rw [if_pos c1] at hf
    refine j_tableIn C dX3_kindWord_1 (by rw [c1]; decide) (by rw [c1]; decide) (by rw [c1]; rfl) 40 (by decide) ?_
    refine j_ldcwS C (C.2.2.2.2.1 0 (by decide)).1 dX3_kindWord_40 43 rfl ?_
    subst hf
    exact j_aret C hr hlk dX3_kindWord_43
  · rw [if_neg c1] at hf
    by_cases c2 : a0 = 1
    · rw [if_pos c2] at hf
      refine j_tableIn C dX3_kindWord_1 (by rw [c2]; decide) (by rw [c2]; decide) (by rw [c2]; rfl) 44 (by decide) ?_
      refine j_ldcwS C (C.2.2.2.2.1 1 (by decide)).1 dX3_kindWord_44 47 rfl ?_
      subst hf
      exact j_aret C hr hlk dX3_kindWord_47
    · rw [if_neg c2] at hf
      by_cases c3 : a0 = 2
      · rw [if_pos c3] at hf
        refine j_tableIn C dX3_kindWord_1 (by rw [c3]; decide) (by rw [c3]; decide) (by rw [c3]; rfl) 48 (by decide) ?_
        refine j_ldcwS C (C.2.2.2.2.1 2 (by decide)).1 dX3_kindWord_48 51 rfl ?_
        subst hf
        exact j_aret C hr hlk dX3_kindWord_51
      · rw [if_neg c3] at hf
        by_cases c4 : a0 = 3
        · rw [if_pos c4] at hf
          refine j_tableIn C dX3_kindWord_1 (by rw [c4]; decide) (by rw [c4]; decide) (by rw [c4]; rfl) 52 (by decide) ?_
          refine j_ldcwS C (C.2.2.2.2.1 3 (by decide)).1 dX3_kindWord_52 55 rfl ?_
          subst hf
          exact j_aret C hr hlk dX3_kindWord_55
        · rw [if_neg c4] at hf
          by_cases c5 : a0 = 4
          · rw [if_pos c5] at hf
            refine j_tableIn C dX3_kindWord_1 (by rw [c5]; decide) (by rw [c5]; decide) (by rw [c5]; rfl) 56 (by decide) ?_
            refine j_ldcwS C (C.2.2.2.2.1 4 (by decide)).1 dX3_kindWord_56 59 rfl ?_
            subst hf
            exact j_aret C hr hlk dX3_kindWord_59
          · rw [if_neg c5] at hf
            by_cases c6 : a0 = 5
            · rw [if_pos c6] at hf
              refine j_tableIn C dX3_kindWord_1 (by rw [c6]; decide) (by rw [c6]; decide) (by rw [c6]; rfl) 60 (by decide) ?_
              refine j_ldcwS C (C.2.2.2.2.1 5 (by decide)).1 dX3_kindWord_60 63 rfl ?_
              subst hf
              exact j_aret C hr hlk dX3_kindWord_63
            · rw [if_neg c6] at hf
              refine j_tableOut C dX3_kindWord_1 (sw_out5 c1 c2 c3 c4 c5 c6) 64 (by decide) ?_
              refine j_ldcwS C (C.2.2.2.2.1 6 (by decide)).1 dX3_kindWord_64 67 rfl ?_
              subst hf
              exact j_aret C hr hlk dX3_kindWord_67
set_option maxRecDepth 100000 in
set_option maxHeartbeats 4000000 in
theorem c_X3_readCoin (l : Launch) (g : GG) (sz : Nat) (S mm : St) (k1 : Nat) (hk1 : isSh k1 = true) (a2 : Int32) (r : Int32) (S' : St) (hf : X3_readCoin k1 a2 S = some (r, S')) : Met l yX3_readCoin (.code yX3_readCoin cX3_readCoin 5 (some .boolean) :: ALLW) (rmJ 5 107) (PcJ g sz S mm [.ref (ad g 0), .ref (ad g k1), .int a2]) (QiJ g sz r S' mm) 0 0 (Ag sz) := by
  refine j_met (own := RX3) (by decide) rfl (Nat.le_of_ble_eq_true rfl) rfl ?_
  intro p e s m args below meth c C hr hlk
  unfold X3_readCoin at hf
  refine j_aload_n C dX3_readCoin_0 rfl 1 rfl 1 rfl ?_
  refine j3s_get hk1 C 6 (by decide) qf_X3_56 (v := .int (S k1 6)) rfl dX3_readCoin_1 4 rfl ?_
  refine j_bipush C dX3_readCoin_4 (v := 24) c_bipush_24 6 rfl ?_
  refine j_icmp_lt C dX3_readCoin_6 11 (by decide) 9 rfl (fun c1 => ?_) (fun c1 => ?_)
  · rw [if_pos c1] at hf
    refine j_aload_n C dX3_readCoin_11 rfl 1 rfl 12 rfl ?_
    refine j_iload_n C dX3_readCoin_12 rfl 2 rfl 13 rfl ?_
    obtain ⟨⟨r3, T4⟩, hq2, hf⟩ := bnd hf
    dsimp only at hf
    obtain ⟨S5, hS5, hf⟩ := bnd hf
    refine j_x (put_blk S k1 7).symm ?_
    refine j_callVi (As := [.int a2]) (rest := []) C (c_X1_mint l g sz S mm k1 hk1 a2 (blk S k1) _ _ hq2) (j_cwV C qc_X1_mint qm_X3_60 qi_X1_mint qs_X1_mint qn_X1 hd_X1_mint ⟨rfl, rfl⟩ ⟨by decide, by decide⟩) ((rcv_sh hk1).cell C.2) rfl (Nat.le_of_ble_eq_true rfl) dX3_readCoin_13 16 rfl ?_
    rw [Option.some.inj hS5]
    refine j_istore_n (lv2 := [(3, .int r3), (0, .ref (ad g 0)), (1, .ref (ad g k1)), (2, .int a2)]) C dX3_readCoin_16 rfl (by decide) rfl 17 rfl ?_
    refine j_aload_n C dX3_readCoin_17 rfl 1 rfl 18 rfl ?_
    refine j3_get C 5 (by decide) qf_X3_33 (v := .ref (ad g 23)) rfl dX3_readCoin_18 21 rfl ?_
    obtain ⟨T6, hT6, hf⟩ := bnd hf
    obtain ⟨S7, hS7, hf⟩ := bnd hf
    refine j_x (put_blk S5 23 2).symm ?_
    refine j_callVv (As := []) (rest := []) C (c_X2_next l g sz S5 mm  (blk S5 23) _ hT6) (j_cwV C qc_X2_next qm_X3_297 qi_X2_next qs_X2_next qn_X2 hd_X2_next ⟨rfl, rfl⟩ ⟨by decide, by decide⟩) (rcv_tp.cell C.2) rfl (Nat.le_of_ble_eq_true rfl) dX3_readCoin_21 24 rfl ?_
    rw [Option.some.inj hS7]
    refine j_aload_n C dX3_readCoin_24 rfl 1 rfl 25 rfl ?_
    refine j3_get C 5 (by decide) qf_X3_33 (v := .ref (ad g 23)) rfl dX3_readCoin_25 28 rfl ?_
    refine j_ldcwS C (C.2.2.2.2.1 10 (by decide)).1 dX3_readCoin_28 31 rfl ?_
    obtain ⟨r8, hr8, hf⟩ := bnd hf
    refine j_x (put_blk S7 23 2).symm ?_
    refine j_callVi (As := [.ref (adK g 10)]) (rest := []) C (c_X2_isWord l g sz S7 mm 10 (by decide) (blk S7 23) _ hr8) (j_cwV C qc_X2_isWord qm_X3_314 qi_X2_isWord qs_X2_isWord qn_X2 hd_X2_isWord ⟨rfl, rfl⟩ ⟨by decide, by decide⟩) (rcv_tp.cell C.2) rfl (Nat.le_of_ble_eq_true rfl) dX3_readCoin_31 34 rfl ?_
    refine j_x (put_blk S7 23 2) ?_
    refine j_if_ne C dX3_readCoin_34 39 (by decide) 37 rfl (fun c9 => ?_) (fun c9 => ?_)
    · rw [if_neg c9] at hf
      refine j_aload_n C dX3_readCoin_39 rfl 1 rfl 40 rfl ?_
      refine j3_get C 5 (by decide) qf_X3_33 (v := .ref (ad g 23)) rfl dX3_readCoin_40 43 rfl ?_
      obtain ⟨T10, hT10, hf⟩ := bnd hf
      obtain ⟨S11, hS11, hf⟩ := bnd hf
      refine j_x (put_blk S7 23 2).symm ?_
      refine j_callVv (As := []) (rest := []) C (c_X2_next l g sz S7 mm  (blk S7 23) _ hT10) (j_cwV C qc_X2_next qm_X3_297 qi_X2_next qs_X2_next qn_X2 hd_X2_next ⟨rfl, rfl⟩ ⟨by decide, by decide⟩) (rcv_tp.cell C.2) rfl (Nat.le_of_ble_eq_true rfl) dX3_readCoin_43 46 rfl ?_
      rw [Option.some.inj hS11]
      refine j_aload_n C dX3_readCoin_46 rfl 1 rfl 47 rfl ?_
      refine j3_get C 5 (by decide) qf_X3_33 (v := .ref (ad g 23)) rfl dX3_readCoin_47 50 rfl ?_
      refine j3t_get C 2 (by decide) qf_X3_307 (v := .int (S11 23 2)) rfl dX3_readCoin_50 53 rfl ?_
      refine j_iconst C dX3_readCoin_53 (v := 2) c_iconst_2 54 rfl ?_
      refine j_icmp_ne C dX3_readCoin_54 70 (by decide) 57 rfl (fun c12 => ?_) (fun c12 => ?_)
      · rw [if_neg c12] at hf
        refine j_iconst C dX3_readCoin_70 (v := 0) c_iconst_0 71 rfl ?_
        obtain ⟨rfl, rfl⟩ := Prod.mk.inj (Option.some.inj hf)
        exact j_zret C hr hlk (Or.inl rfl) dX3_readCoin_71
      · rw [if_pos c12] at hf
        refine j_aload_n C dX3_readCoin_57 rfl 1 rfl 58 rfl ?_
        refine j3_get C 5 (by decide) qf_X3_33 (v := .ref (ad g 23)) rfl dX3_readCoin_58 61 rfl ?_
        refine j3t_get C 5 (by decide) qf_X3_330 (v := .int (S11 23 5)) rfl dX3_readCoin_61 64 rfl ?_
        refine j_callSi (As := [.int (S11 23 5)]) (rest := []) C (c_X3_isColumn l g sz S11 mm (S11 23 5) _ rfl) (j_cwS C qc_X3_isColumn qm_X3_121 qs_X3_isColumn qn_X3 hd_X3_isColumn ⟨rfl, rfl⟩ ⟨by decide, by decide⟩)  rfl (Nat.le_of_ble_eq_true rfl) dX3_readCoin_64 67 rfl ?_
        refine j_if_ne C dX3_readCoin_67 72 (by decide) 70 rfl (fun c13 => ?_) (fun c13 => ?_)
        · rw [if_neg c13] at hf
          refine j_aload_n C dX3_readCoin_72 rfl 1 rfl 73 rfl ?_
          refine j3_get C 5 (by decide) qf_X3_33 (v := .ref (ad g 23)) rfl dX3_readCoin_73 76 rfl ?_
          refine j3t_get C 5 (by decide) qf_X3_330 (v := .int (S11 23 5)) rfl dX3_readCoin_76 79 rfl ?_
          refine j_istore (lv2 := [(4, .int (S11 23 5)), (3, .int r3), (0, .ref (ad g 0)), (1, .ref (ad g k1)), (2, .int a2)]) C dX3_readCoin_79 (by decide) rfl 81 rfl ?_
          refine j_aload_n C dX3_readCoin_81 rfl 2 rfl 82 rfl ?_
          refine j3_get C 5 (by decide) qf_X3_33 (v := .ref (ad g 23)) rfl dX3_readCoin_82 85 rfl ?_
          obtain ⟨T14, hT14, hf⟩ := bnd hf
          obtain ⟨S15, hS15, hf⟩ := bnd hf
          refine j_x (put_blk S11 23 2).symm ?_
          refine j_callVv (As := []) (rest := []) C (c_X2_next l g sz S11 mm  (blk S11 23) _ hT14) (j_cwV C qc_X2_next qm_X3_297 qi_X2_next qs_X2_next qn_X2 hd_X2_next ⟨rfl, rfl⟩ ⟨by decide, by decide⟩) (rcv_tp.cell C.2) rfl (Nat.le_of_ble_eq_true rfl) dX3_readCoin_85 88 rfl ?_
          rw [Option.some.inj hS15]
          refine j_aload_n C dX3_readCoin_88 rfl 2 rfl 89 rfl ?_
          refine j3_get C 5 (by decide) qf_X3_33 (v := .ref (ad g 23)) rfl dX3_readCoin_89 92 rfl ?_
          refine j3t_get C 2 (by decide) qf_X3_307 (v := .int (S15 23 2)) rfl dX3_readCoin_92 95 rfl ?_
          refine j_iconst C dX3_readCoin_95 (v := 2) c_iconst_2 96 rfl ?_
          refine j_icmp_ne C dX3_readCoin_96 133 (by decide) 99 rfl (fun c16 => ?_) (fun c16 => ?_)
          · rw [if_neg c16] at hf
            refine j_iconst C dX3_readCoin_133 (v := 0) c_iconst_0 134 rfl ?_
            obtain ⟨rfl, rfl⟩ := Prod.mk.inj (Option.some.inj hf)
            exact j_zret C hr hlk (Or.inl rfl) dX3_readCoin_134
          · rw [if_pos c16] at hf
            refine j_iload C dX3_readCoin_99 0 rfl 101 rfl ?_
            refine j_aload_n C dX3_readCoin_101 rfl 2 rfl 102 rfl ?_
            refine j3_get C 5 (by decide) qf_X3_33 (v := .ref (ad g 23)) rfl dX3_readCoin_102 105 rfl ?_
            refine j3t_get C 5 (by decide) qf_X3_330 (v := .int (S15 23 5)) rfl dX3_readCoin_105 108 rfl ?_
            refine j_callSi (As := [.int (S11 23 5), .int (S15 23 5)]) (rest := []) C (c_X3_isCell l g sz S15 mm (S11 23 5) (S15 23 5) _ rfl) (j_cwS C qc_X3_isCell qm_X3_88 qs_X3_isCell qn_X3 hd_X3_isCell ⟨rfl, rfl⟩ ⟨by decide, by decide⟩)  rfl (Nat.le_of_ble_eq_true rfl) dX3_readCoin_108 111 rfl ?_
            refine j_if_eq C dX3_readCoin_111 133 (by decide) 114 rfl (fun c17 => ?_) (fun c17 => ?_)
            · rw [if_pos c17] at hf
              refine j_iconst C dX3_readCoin_133 (v := 0) c_iconst_0 134 rfl ?_
              obtain ⟨rfl, rfl⟩ := Prod.mk.inj (Option.some.inj hf)
              exact j_zret C hr hlk (Or.inl rfl) dX3_readCoin_134
            · rw [if_neg c17] at hf
              refine j_aload_n C dX3_readCoin_114 rfl 3 rfl 115 rfl ?_
              refine j_iload C dX3_readCoin_115 0 rfl 117 rfl ?_
              refine j_aload_n C dX3_readCoin_117 rfl 2 rfl 118 rfl ?_
              refine j3_get C 5 (by decide) qf_X3_33 (v := .ref (ad g 23)) rfl dX3_readCoin_118 121 rfl ?_
              refine j3t_get C 5 (by decide) qf_X3_330 (v := .int (S15 23 5)) rfl dX3_readCoin_121 124 rfl ?_
              refine j_callSi (As := [.int (S11 23 5), .int (S15 23 5)]) (rest := [.ref (ad g k1)]) C (c_X3_cellOf l g sz S15 mm (S11 23 5) (S15 23 5) _ rfl) (j_cwS C qc_X3_cellOf qm_X3_95 qs_X3_cellOf qn_X3 hd_X3_cellOf ⟨rfl, rfl⟩ ⟨by decide, by decide⟩)  rfl (Nat.le_of_ble_eq_true rfl) dX3_readCoin_124 127 rfl ?_
              obtain ⟨r18, hr18, hf⟩ := bnd hf
              refine j_x (put_blk S15 k1 7).symm ?_
              refine j_callVi (As := [.int (X3_cellOf (S11 23 5) (S15 23 5))]) (rest := []) C (c_X1_hasRoom l g sz S15 mm k1 hk1 (X3_cellOf (S11 23 5) (S15 23 5)) (blk S15 k1) _ hr18) (j_cwV C qc_X1_hasRoom qm_X3_99 qi_X1_hasRoom qs_X1_hasRoom qn_X1 hd_X1_hasRoom ⟨rfl, rfl⟩ ⟨by decide, by decide⟩) ((rcv_sh hk1).cell C.2) rfl (Nat.le_of_ble_eq_true rfl) dX3_readCoin_127 130 rfl ?_
              refine j_x (put_blk S15 k1 7) ?_
              refine j_if_ne C dX3_readCoin_130 135 (by decide) 133 rfl (fun c19 => ?_) (fun c19 => ?_)
              · rw [if_neg c19] at hf
                refine j_aload_n C dX3_readCoin_135 rfl 3 rfl 136 rfl ?_
                refine j_iload_n C dX3_readCoin_136 rfl 1 rfl 137 rfl ?_
                refine j_iload C dX3_readCoin_137 0 rfl 139 rfl ?_
                refine j_aload_n C dX3_readCoin_139 rfl 2 rfl 140 rfl ?_
                refine j3_get C 5 (by decide) qf_X3_33 (v := .ref (ad g 23)) rfl dX3_readCoin_140 143 rfl ?_
                refine j3t_get C 5 (by decide) qf_X3_330 (v := .int (S15 23 5)) rfl dX3_readCoin_143 146 rfl ?_
                refine j_callSi (As := [.int (S11 23 5), .int (S15 23 5)]) (rest := [.int r3, .ref (ad g k1)]) C (c_X3_cellOf l g sz S15 mm (S11 23 5) (S15 23 5) _ rfl) (j_cwS C qc_X3_cellOf qm_X3_95 qs_X3_cellOf qn_X3 hd_X3_cellOf ⟨rfl, rfl⟩ ⟨by decide, by decide⟩)  rfl (Nat.le_of_ble_eq_true rfl) dX3_readCoin_146 149 rfl ?_
                obtain ⟨T20, hT20, hf⟩ := bnd hf
                obtain ⟨S21, hS21, hf⟩ := bnd hf
                refine j_x (put_blk S15 k1 7).symm ?_
                refine j_callVv (As := [.int r3, .int (X3_cellOf (S11 23 5) (S15 23 5))]) (rest := []) C (c_X1_put l g sz S15 mm k1 hk1 r3 (X3_cellOf (S11 23 5) (S15 23 5)) (blk S15 k1) _ hT20) (j_cwV C qc_X1_put qm_X3_102 qi_X1_put qs_X1_put qn_X1 hd_X1_put ⟨rfl, rfl⟩ ⟨by decide, by decide⟩) ((rcv_sh hk1).cell C.2) rfl (Nat.le_of_ble_eq_true rfl) dX3_readCoin_149 152 rfl ?_
                rw [Option.some.inj hS21]
                refine j_aload_n C dX3_readCoin_152 rfl 2 rfl 153 rfl ?_
                refine j3_get C 5 (by decide) qf_X3_33 (v := .ref (ad g 23)) rfl dX3_readCoin_153 156 rfl ?_
                obtain ⟨T22, hT22, hf⟩ := bnd hf
                obtain ⟨S23, hS23, hf⟩ := bnd hf
                refine j_x (put_blk S21 23 2).symm ?_
                refine j_callVv (As := []) (rest := []) C (c_X2_next l g sz S21 mm  (blk S21 23) _ hT22) (j_cwV C qc_X2_next qm_X3_297 qi_X2_next qs_X2_next qn_X2 hd_X2_next ⟨rfl, rfl⟩ ⟨by decide, by decide⟩) (rcv_tp.cell C.2) rfl (Nat.le_of_ble_eq_true rfl) dX3_readCoin_156 159 rfl ?_
                rw [Option.some.inj hS23]
                refine j_iconst C dX3_readCoin_159 (v := 1) c_iconst_1 160 rfl ?_
                obtain ⟨rfl, rfl⟩ := Prod.mk.inj (Option.some.inj hf)
                exact j_zret C hr hlk (Or.inr rfl) dX3_readCoin_160
              · rw [if_pos c19] at hf
                refine j_iconst C dX3_readCoin_133 (v := 0) c_iconst_0 134 rfl ?_
                obtain ⟨rfl, rfl⟩ := Prod.mk.inj (Option.some.inj hf)
                exact j_zret C hr hlk (Or.inl rfl) dX3_readCoin_134
        · rw [if_pos c13] at hf
          refine j_iconst C dX3_readCoin_70 (v := 0) c_iconst_0 71 rfl ?_
          obtain ⟨rfl, rfl⟩ := Prod.mk.inj (Option.some.inj hf)
          exact j_zret C hr hlk (Or.inl rfl) dX3_readCoin_71
    · rw [if_pos c9] at hf
      refine j_iconst C dX3_readCoin_37 (v := 1) c_iconst_1 38 rfl ?_
      obtain ⟨rfl, rfl⟩ := Prod.mk.inj (Option.some.inj hf)
      exact j_zret C hr hlk (Or.inr rfl) dX3_readCoin_38
  · rw [if_neg c1] at hf
    refine j_iconst C dX3_readCoin_9 (v := 0) c_iconst_0 10 rfl ?_
    obtain ⟨rfl, rfl⟩ := Prod.mk.inj (Option.some.inj hf)
    exact j_zret C hr hlk (Or.inl rfl) dX3_readCoin_10
set_option maxRecDepth 100000 in
set_option maxHeartbeats 4000000 in
theorem c_X3_settingWord (l : Launch) (g : GG) (sz : Nat) (x mm : St) (a0 : Int32) (r : Nat) (hf : X3_settingWord a0 = r) : Met l yX3_settingWord (.code yX3_settingWord cX3_settingWord 1 (some (.object "java/lang/String")) :: ALLW) (rmJ 0 0) (PcJ g sz x mm [.int a0]) (QrJ g sz (adK g r) x mm) 0 0 (Ag sz) := by
  refine j_met (own := RX3) (by decide) rfl (Nat.le_of_ble_eq_true rfl) rfl ?_
  intro p e s m args below meth c C hr hlk
  unfold X3_settingWord at hf
  refine j_iload_n C dX3_settingWord_0 rfl 0 rfl 1 rfl ?_
  by_cases c1 : a0 = 0
  · rw [if_pos c1] at hf
    refine j_lookup C dX3_settingWord_1 (by decide) (by rw [c1] <;> rfl) 28 (by decide) ?_
    refine j_ldcwS C (C.2.2.2.2.1 7 (by decide)).1 dX3_settingWord_28 31 rfl ?_
    subst hf
    exact j_aret C hr hlk dX3_settingWord_31
  · rw [if_neg c1] at hf
    by_cases c2 : a0 = 1
    · rw [if_pos c2] at hf
      refine j_lookup C dX3_settingWord_1 (by decide) (by rw [c2] <;> rfl) 32 (by decide) ?_
      refine j_ldcwS C (C.2.2.2.2.1 8 (by decide)).1 dX3_settingWord_32 35 rfl ?_
      subst hf
      exact j_aret C hr hlk dX3_settingWord_35
    · rw [if_neg c2] at hf
      refine j_lookup C dX3_settingWord_1 (by decide) (sw_lk2 c1 c2) 36 (by decide) ?_
      refine j_ldcwS C (C.2.2.2.2.1 9 (by decide)).1 dX3_settingWord_36 39 rfl ?_
      subst hf
      exact j_aret C hr hlk dX3_settingWord_39
set_option maxRecDepth 100000 in
set_option maxHeartbeats 4000000 in
theorem c_X3_readSetting (l : Launch) (g : GG) (sz : Nat) (S mm : St) (k1 : Nat) (hk1 : isSh k1 = true) (a2 : Int32) (r : Int32) (S' : St) (hf : X3_readSetting k1 a2 S = some (r, S')) : Met l yX3_readSetting (.code yX3_readSetting cX3_readSetting 3 (some .boolean) :: ALLW) (rmJ 3 61) (PcJ g sz S mm [.ref (ad g 0), .ref (ad g k1), .int a2]) (QiJ g sz r S' mm) 0 0 (Ag sz) := by
  refine j_met (own := RX3) (by decide) rfl (Nat.le_of_ble_eq_true rfl) rfl ?_
  intro p e s m args below meth c C hr hlk
  unfold X3_readSetting at hf
  refine j_aload_n C dX3_readSetting_0 rfl 0 rfl 1 rfl ?_
  refine j3_get C 5 (by decide) qf_X3_33 (v := .ref (ad g 23)) rfl dX3_readSetting_1 4 rfl ?_
  obtain ⟨T1, hT1, hf⟩ := bnd hf
  obtain ⟨S2, hS2, hf⟩ := bnd hf
  refine j_x (put_blk S 23 2).symm ?_
  refine j_callVv (As := []) (rest := []) C (c_X2_next l g sz S mm  (blk S 23) _ hT1) (j_cwV C qc_X2_next qm_X3_297 qi_X2_next qs_X2_next qn_X2 hd_X2_next ⟨rfl, rfl⟩ ⟨by decide, by decide⟩) (rcv_tp.cell C.2) rfl (Nat.le_of_ble_eq_true rfl) dX3_readSetting_4 7 rfl ?_
  rw [Option.some.inj hS2]
  refine j_aload_n C dX3_readSetting_7 rfl 0 rfl 8 rfl ?_
  refine j3_get C 5 (by decide) qf_X3_33 (v := .ref (ad g 23)) rfl dX3_readSetting_8 11 rfl ?_
  refine j3t_get C 2 (by decide) qf_X3_307 (v := .int (S2 23 2)) rfl dX3_readSetting_11 14 rfl ?_
  refine j_iconst C dX3_readSetting_14 (v := 2) c_iconst_2 15 rfl ?_
  refine j_icmp_ne C dX3_readSetting_15 32 (by decide) 18 rfl (fun c3 => ?_) (fun c3 => ?_)
  · rw [if_neg c3] at hf
    refine j_iconst C dX3_readSetting_32 (v := 0) c_iconst_0 33 rfl ?_
    obtain ⟨rfl, rfl⟩ := Prod.mk.inj (Option.some.inj hf)
    exact j_zret C hr hlk (Or.inl rfl) dX3_readSetting_33
  · rw [if_pos c3] at hf
    refine j_iload_n C dX3_readSetting_18 rfl 2 rfl 19 rfl ?_
    refine j_aload_n C dX3_readSetting_19 rfl 0 rfl 20 rfl ?_
    refine j3_get C 5 (by decide) qf_X3_33 (v := .ref (ad g 23)) rfl dX3_readSetting_20 23 rfl ?_
    refine j3t_get C 5 (by decide) qf_X3_330 (v := .int (S2 23 5)) rfl dX3_readSetting_23 26 rfl ?_
    obtain ⟨r4, hr4, hf⟩ := bnd hf
    refine j_callSi (As := [.int a2, .int (S2 23 5)]) (rest := []) C (c_X3_isSetting l g sz S2 mm a2 (S2 23 5) _ hr4) (j_cwS C qc_X3_isSetting qm_X3_115 qs_X3_isSetting qn_X3 hd_X3_isSetting ⟨rfl, rfl⟩ ⟨by decide, by decide⟩)  rfl (Nat.le_of_ble_eq_true rfl) dX3_readSetting_26 29 rfl ?_
    refine j_if_ne C dX3_readSetting_29 34 (by decide) 32 rfl (fun c5 => ?_) (fun c5 => ?_)
    · rw [if_neg c5] at hf
      refine j_aload_n C dX3_readSetting_34 rfl 1 rfl 35 rfl ?_
      refine j3s_get hk1 C 4 (by decide) qf_X3_118 (v := .ref (ad g (k1 + 5))) rfl dX3_readSetting_35 38 rfl ?_
      refine j_iload_n C dX3_readSetting_38 rfl 2 rfl 39 rfl ?_
      refine j_aload_n C dX3_readSetting_39 rfl 0 rfl 40 rfl ?_
      refine j3_get C 5 (by decide) qf_X3_33 (v := .ref (ad g 23)) rfl dX3_readSetting_40 43 rfl ?_
      refine j3t_get C 5 (by decide) qf_X3_330 (v := .int (S2 23 5)) rfl dX3_readSetting_43 46 rfl ?_
      obtain ⟨S6, hS6, hf⟩ := bnd hf
      refine j3s_ast (k := k1) hk1 5 (by decide) (by decide) C hS6 dX3_readSetting_46 47 rfl ?_
      refine j_aload_n C dX3_readSetting_47 rfl 0 rfl 48 rfl ?_
      refine j3_get C 5 (by decide) qf_X3_33 (v := .ref (ad g 23)) rfl dX3_readSetting_48 51 rfl ?_
      obtain ⟨T7, hT7, hf⟩ := bnd hf
      obtain ⟨S8, hS8, hf⟩ := bnd hf
      refine j_x (put_blk S6 23 2).symm ?_
      refine j_callVv (As := []) (rest := []) C (c_X2_next l g sz S6 mm  (blk S6 23) _ hT7) (j_cwV C qc_X2_next qm_X3_297 qi_X2_next qs_X2_next qn_X2 hd_X2_next ⟨rfl, rfl⟩ ⟨by decide, by decide⟩) (rcv_tp.cell C.2) rfl (Nat.le_of_ble_eq_true rfl) dX3_readSetting_51 54 rfl ?_
      rw [Option.some.inj hS8]
      refine j_iconst C dX3_readSetting_54 (v := 1) c_iconst_1 55 rfl ?_
      obtain ⟨rfl, rfl⟩ := Prod.mk.inj (Option.some.inj hf)
      exact j_zret C hr hlk (Or.inr rfl) dX3_readSetting_55
    · rw [if_pos c5] at hf
      refine j_iconst C dX3_readSetting_32 (v := 0) c_iconst_0 33 rfl ?_
      obtain ⟨rfl, rfl⟩ := Prod.mk.inj (Option.some.inj hf)
      exact j_zret C hr hlk (Or.inl rfl) dX3_readSetting_33
set_option maxRecDepth 100000 in
set_option maxHeartbeats 4000000 in
theorem c_X3_readItem (l : Launch) (g : GG) (sz : Nat) (S mm : St) (k1 : Nat) (hk1 : isSh k1 = true) (r : Int32) (S' : St) (hf : X3_readItem k1 S = some (r, S')) : Met l yX3_readItem (.code yX3_readItem cX3_readItem 3 (some .boolean) :: ALLW) (rmJ 6 131) (PcJ g sz S mm [.ref (ad g 0), .ref (ad g k1)]) (QiJ g sz r S' mm) 0 0 (Ag sz) := by
  refine j_met (own := RX3) (by decide) rfl (Nat.le_of_ble_eq_true rfl) rfl ?_
  intro p e s m args below meth c C hr hlk
  have hL37 : ∀ (n : Nat), ∀ (b2 : Int32) (S : St), X3_readItem_L37 k1 n b2 S = some (r, S') → Wj p l e (rmJ 6 131) s m args below meth c (MQ below (QiJ g sz r S' mm) args s 0 0 (Ag sz)) 3 g sz S mm 37 [(0, .ref (ad g 0)), (1, .ref (ad g k1)), (2, .int b2)] [] := by
    intro  n
    induction n with
    | zero =>
      intro b2 S hf
      rw [X3_readItem_L37] at hf
      cases hf
    | succ n ih =>
      intro b2 S hf
      rw [X3_readItem_L37] at hf
      refine j_iload_n C dX3_readItem_37 rfl 2 rfl 38 rfl ?_
      refine j_iconst C dX3_readItem_38 (v := 3) c_iconst_3 39 rfl ?_
      refine j_icmp_ge C dX3_readItem_39 69 (by decide) 42 rfl (fun c2 => ?_) (fun c2 => ?_)
      · rw [if_pos c2] at hf
        refine j_iconst C dX3_readItem_69 (v := 0) c_iconst_0 70 rfl ?_
        obtain ⟨rfl, rfl⟩ := Prod.mk.inj (Option.some.inj hf)
        exact j_zret C hr hlk (Or.inl rfl) dX3_readItem_70
      · rw [if_neg c2] at hf
        refine j_aload_n C dX3_readItem_42 rfl 0 rfl 43 rfl ?_
        refine j3_get C 5 (by decide) qf_X3_33 (v := .ref (ad g 23)) rfl dX3_readItem_43 46 rfl ?_
        refine j_iload_n C dX3_readItem_46 rfl 2 rfl 47 rfl ?_
        refine j_callSr (As := [.int b2]) (rest := [.ref (ad g 23)]) C (c_X3_settingWord l g sz S mm b2 _ rfl) (j_cwS C qc_X3_settingWord qm_X3_322 qs_X3_settingWord qn_X3 hd_X3_settingWord ⟨rfl, rfl⟩ ⟨by decide, by decide⟩)  rfl (Nat.le_of_ble_eq_true rfl) dX3_readItem_47 50 rfl ?_
        obtain ⟨w3, hw3, hf⟩ := bnd hf
        obtain ⟨r4, hr4, hf⟩ := bnd hf
        refine j_x (put_blk S 23 2).symm ?_
        refine j_callVi (As := [.ref (adK g (X3_settingWord b2))]) (rest := []) C (c_X2_isWord l g sz S mm (X3_settingWord b2) (gst_ok hw3) (blk S 23) _ hr4) (j_cwV C qc_X2_isWord qm_X3_314 qi_X2_isWord qs_X2_isWord qn_X2 hd_X2_isWord ⟨rfl, rfl⟩ ⟨by decide, by decide⟩) (rcv_tp.cell C.2) rfl (Nat.le_of_ble_eq_true rfl) dX3_readItem_50 53 rfl ?_
        refine j_x (put_blk S 23 2) ?_
        refine j_if_eq C dX3_readItem_53 63 (by decide) 56 rfl (fun c5 => ?_) (fun c5 => ?_)
        · rw [if_pos c5] at hf
          refine j_iinc (lv2 := [(2, .int (b2 + 1)), (0, .ref (ad g 0)), (1, .ref (ad g k1))]) C dX3_readItem_63 (k := 2) rfl (congrArg (HAdd.hAdd b2) c_oi_1) (by decide) rfl 66 rfl ?_
          refine j_goto C dX3_readItem_66 37 (by decide) ?_
          refine j_sub [1, 2, 0] rfl ?_
          exact ih (b2 + 1) S hf
        · rw [if_neg c5] at hf
          refine j_aload_n C dX3_readItem_56 rfl 0 rfl 57 rfl ?_
          refine j_aload_n C dX3_readItem_57 rfl 1 rfl 58 rfl ?_
          refine j_iload_n C dX3_readItem_58 rfl 2 rfl 59 rfl ?_
          obtain ⟨⟨r7, S8⟩, hq6, hf⟩ := bnd hf
          dsimp only at hf
          refine j_callVi (As := [.ref (ad g k1), .int b2]) (rest := []) C (c_X3_readSetting l g sz S mm  k1 hk1 b2 _ _ hq6) (j_cwV C qc_X3_readSetting qm_X3_325 qi_X3_readSetting qs_X3_readSetting qn_X3 hd_X3_readSetting ⟨rfl, rfl⟩ ⟨by decide, by decide⟩) (rcv_pl.cell C.2) rfl (Nat.le_of_ble_eq_true rfl) dX3_readItem_59 62 rfl ?_
          obtain ⟨v9, hv9, hf⟩ := bnd hf
          obtain ⟨rfl, rfl⟩ := Prod.mk.inj (Option.some.inj hf)
          exact j_zret C hr hlk (bl_ok hv9).2 dX3_readItem_62
  have hL2 : ∀ (n : Nat), ∀ (b2 : Int32) (S : St), X3_readItem_L2 k1 n b2 S = some (r, S') → Wj p l e (rmJ 6 131) s m args below meth c (MQ below (QiJ g sz r S' mm) args s 0 0 (Ag sz)) 3 g sz S mm 2 [(0, .ref (ad g 0)), (1, .ref (ad g k1)), (2, .int b2)] [] := by
    intro  n
    induction n with
    | zero =>
      intro b2 S hf
      rw [X3_readItem_L2] at hf
      cases hf
    | succ n ih =>
      intro b2 S hf
      rw [X3_readItem_L2] at hf
      refine j_iload_n C dX3_readItem_2 rfl 2 rfl 3 rfl ?_
      refine j_bipush C dX3_readItem_3 (v := 7) c_bipush_7 5 rfl ?_
      refine j_icmp_ge C dX3_readItem_5 35 (by decide) 8 rfl (fun c1 => ?_) (fun c1 => ?_)
      · rw [if_pos c1] at hf
        refine j_iconst C dX3_readItem_35 (v := 0) c_iconst_0 36 rfl ?_
        refine j_istore_n (lv2 := [(2, .int 0), (0, .ref (ad g 0)), (1, .ref (ad g k1))]) C dX3_readItem_36 rfl (by decide) rfl 37 rfl ?_
        refine j_sub [1, 2, 0] rfl ?_
        exact hL37 FU 0 S hf
      · rw [if_neg c1] at hf
        refine j_aload_n C dX3_readItem_8 rfl 0 rfl 9 rfl ?_
        refine j3_get C 5 (by decide) qf_X3_33 (v := .ref (ad g 23)) rfl dX3_readItem_9 12 rfl ?_
        refine j_iload_n C dX3_readItem_12 rfl 2 rfl 13 rfl ?_
        refine j_callSr (As := [.int b2]) (rest := [.ref (ad g 23)]) C (c_X3_kindWord l g sz S mm b2 _ rfl) (j_cwS C qc_X3_kindWord qm_X3_310 qs_X3_kindWord qn_X3 hd_X3_kindWord ⟨rfl, rfl⟩ ⟨by decide, by decide⟩)  rfl (Nat.le_of_ble_eq_true rfl) dX3_readItem_13 16 rfl ?_
        obtain ⟨w10, hw10, hf⟩ := bnd hf
        obtain ⟨r11, hr11, hf⟩ := bnd hf
        refine j_x (put_blk S 23 2).symm ?_
        refine j_callVi (As := [.ref (adK g (X3_kindWord b2))]) (rest := []) C (c_X2_isWord l g sz S mm (X3_kindWord b2) (gst_ok hw10) (blk S 23) _ hr11) (j_cwV C qc_X2_isWord qm_X3_314 qi_X2_isWord qs_X2_isWord qn_X2 hd_X2_isWord ⟨rfl, rfl⟩ ⟨by decide, by decide⟩) (rcv_tp.cell C.2) rfl (Nat.le_of_ble_eq_true rfl) dX3_readItem_16 19 rfl ?_
        refine j_x (put_blk S 23 2) ?_
        refine j_if_eq C dX3_readItem_19 29 (by decide) 22 rfl (fun c12 => ?_) (fun c12 => ?_)
        · rw [if_pos c12] at hf
          refine j_iinc (lv2 := [(2, .int (b2 + 1)), (0, .ref (ad g 0)), (1, .ref (ad g k1))]) C dX3_readItem_29 (k := 2) rfl (congrArg (HAdd.hAdd b2) c_oi_1) (by decide) rfl 32 rfl ?_
          refine j_goto C dX3_readItem_32 2 (by decide) ?_
          refine j_sub [1, 2, 0] rfl ?_
          exact ih (b2 + 1) S hf
        · rw [if_neg c12] at hf
          refine j_aload_n C dX3_readItem_22 rfl 0 rfl 23 rfl ?_
          refine j_aload_n C dX3_readItem_23 rfl 1 rfl 24 rfl ?_
          refine j_iload_n C dX3_readItem_24 rfl 2 rfl 25 rfl ?_
          obtain ⟨⟨r14, S15⟩, hq13, hf⟩ := bnd hf
          dsimp only at hf
          refine j_callVi (As := [.ref (ad g k1), .int b2]) (rest := []) C (c_X3_readCoin l g sz S mm  k1 hk1 b2 _ _ hq13) (j_cwV C qc_X3_readCoin qm_X3_318 qi_X3_readCoin qs_X3_readCoin qn_X3 hd_X3_readCoin ⟨rfl, rfl⟩ ⟨by decide, by decide⟩) (rcv_pl.cell C.2) rfl (Nat.le_of_ble_eq_true rfl) dX3_readItem_25 28 rfl ?_
          obtain ⟨v16, hv16, hf⟩ := bnd hf
          obtain ⟨rfl, rfl⟩ := Prod.mk.inj (Option.some.inj hf)
          exact j_zret C hr hlk (bl_ok hv16).2 dX3_readItem_28
  unfold X3_readItem at hf
  refine j_iconst C dX3_readItem_0 (v := 0) c_iconst_0 1 rfl ?_
  refine j_istore_n (lv2 := [(2, .int 0), (0, .ref (ad g 0)), (1, .ref (ad g k1))]) C dX3_readItem_1 rfl (by decide) rfl 2 rfl ?_
  refine j_sub [1, 2, 0] rfl ?_
  exact hL2 FU 0 S hf
set_option maxRecDepth 100000 in
set_option maxHeartbeats 4000000 in
theorem c_X3_readText (l : Launch) (g : GG) (sz : Nat) (S mm : St) (k1 : Nat) (hk1 : isSh k1 = true) (r : Int32) (S' : St) (hf : X3_readText k1 S = some (r, S')) : Met l yX3_readText (.code yX3_readText cX3_readText 3 (some .int) :: ALLW) (rmJ 7 153) (PcJ g sz S mm [.ref (ad g 0), .ref (ad g k1)]) (QiJ g sz r S' mm) 0 0 (Ag sz) := by
  refine j_met (own := RX3) (by decide) rfl (Nat.le_of_ble_eq_true rfl) rfl ?_
  intro p e s m args below meth c C hr hlk
  have hL9 : ∀ (n : Nat), ∀ (b2 : Int32) (S : St), X3_readText_L9 k1 n b2 S = some (r, S') → Wj p l e (rmJ 7 153) s m args below meth c (MQ below (QiJ g sz r S' mm) args s 0 0 (Ag sz)) 3 g sz S mm 9 [(0, .ref (ad g 0)), (1, .ref (ad g k1)), (2, .int b2)] [] := by
    intro  n
    induction n with
    | zero =>
      intro b2 S hf
      rw [X3_readText_L9] at hf
      cases hf
    | succ n ih =>
      intro b2 S hf
      rw [X3_readText_L9] at hf
      refine j_iload_n C dX3_readText_9 rfl 2 rfl 10 rfl ?_
      refine j_bipush C dX3_readText_10 (v := 120) c_bipush_120 12 rfl ?_
      refine j_icmp_gt C dX3_readText_12 79 (by decide) 15 rfl (fun c3 => ?_) (fun c3 => ?_)
      · rw [if_pos c3] at hf
        refine j_iconst C dX3_readText_79 (v := (-1)) c_iconst_m1 80 rfl ?_
        refine j_aload_n C dX3_readText_80 rfl 0 rfl 81 rfl ?_
        refine j3_get C 5 (by decide) qf_X3_33 (v := .ref (ad g 23)) rfl dX3_readText_81 84 rfl ?_
        refine j3t_get C 3 (by decide) qf_X3_304 (v := .int (S 23 3)) rfl dX3_readText_84 87 rfl ?_
        refine j_isub C dX3_readText_87 88 rfl ?_
        obtain ⟨rfl, rfl⟩ := Prod.mk.inj (Option.some.inj hf)
        exact j_iret C hr hlk dX3_readText_88
      · rw [if_neg c3] at hf
        refine j_aload_n C dX3_readText_15 rfl 0 rfl 16 rfl ?_
        refine j3_get C 5 (by decide) qf_X3_33 (v := .ref (ad g 23)) rfl dX3_readText_16 19 rfl ?_
        obtain ⟨T4, hT4, hf⟩ := bnd hf
        obtain ⟨S5, hS5, hf⟩ := bnd hf
        refine j_x (put_blk S 23 2).symm ?_
        refine j_callVv (As := []) (rest := []) C (c_X2_next l g sz S mm  (blk S 23) _ hT4) (j_cwV C qc_X2_next qm_X3_297 qi_X2_next qs_X2_next qn_X2 hd_X2_next ⟨rfl, rfl⟩ ⟨by decide, by decide⟩) (rcv_tp.cell C.2) rfl (Nat.le_of_ble_eq_true rfl) dX3_readText_19 22 rfl ?_
        rw [Option.some.inj hS5]
        refine j_aload_n C dX3_readText_22 rfl 0 rfl 23 rfl ?_
        refine j_aload_n C dX3_readText_23 rfl 1 rfl 24 rfl ?_
        obtain ⟨⟨r7, S8⟩, hq6, hf⟩ := bnd hf
        dsimp only at hf
        refine j_callVi (As := [.ref (ad g k1)]) (rest := []) C (c_X3_readItem l g sz S5 mm  k1 hk1 _ _ hq6) (j_cwV C qc_X3_readItem qm_X3_300 qi_X3_readItem qs_X3_readItem qn_X3 hd_X3_readItem ⟨rfl, rfl⟩ ⟨by decide, by decide⟩) (rcv_pl.cell C.2) rfl (Nat.le_of_ble_eq_true rfl) dX3_readText_24 27 rfl ?_
        refine j_if_ne C dX3_readText_27 40 (by decide) 30 rfl (fun c9 => ?_) (fun c9 => ?_)
        · rw [if_neg c9] at hf
          refine j_aload_n C dX3_readText_40 rfl 0 rfl 41 rfl ?_
          refine j3_get C 5 (by decide) qf_X3_33 (v := .ref (ad g 23)) rfl dX3_readText_41 44 rfl ?_
          refine j3t_get C 2 (by decide) qf_X3_307 (v := .int (S8 23 2)) rfl dX3_readText_44 47 rfl ?_
          refine j_if_ne C dX3_readText_47 52 (by decide) 50 rfl (fun c10 => ?_) (fun c10 => ?_)
          · rw [if_neg c10] at hf
            refine j_aload_n C dX3_readText_52 rfl 0 rfl 53 rfl ?_
            refine j3_get C 5 (by decide) qf_X3_33 (v := .ref (ad g 23)) rfl dX3_readText_53 56 rfl ?_
            refine j3t_get C 2 (by decide) qf_X3_307 (v := .int (S8 23 2)) rfl dX3_readText_56 59 rfl ?_
            refine j_iconst C dX3_readText_59 (v := 3) c_iconst_3 60 rfl ?_
            refine j_icmp_eq C dX3_readText_60 73 (by decide) 63 rfl (fun c11 => ?_) (fun c11 => ?_)
            · rw [if_pos c11] at hf
              refine j_iinc (lv2 := [(2, .int (b2 + 1)), (0, .ref (ad g 0)), (1, .ref (ad g k1))]) C dX3_readText_73 (k := 2) rfl (congrArg (HAdd.hAdd b2) c_oi_1) (by decide) rfl 76 rfl ?_
              refine j_goto C dX3_readText_76 9 (by decide) ?_
              refine j_sub [1, 2, 0] rfl ?_
              exact ih (b2 + 1) S8 hf
            · rw [if_neg c11] at hf
              refine j_iconst C dX3_readText_63 (v := (-1)) c_iconst_m1 64 rfl ?_
              refine j_aload_n C dX3_readText_64 rfl 0 rfl 65 rfl ?_
              refine j3_get C 5 (by decide) qf_X3_33 (v := .ref (ad g 23)) rfl dX3_readText_65 68 rfl ?_
              refine j3t_get C 3 (by decide) qf_X3_304 (v := .int (S8 23 3)) rfl dX3_readText_68 71 rfl ?_
              refine j_isub C dX3_readText_71 72 rfl ?_
              obtain ⟨rfl, rfl⟩ := Prod.mk.inj (Option.some.inj hf)
              exact j_iret C hr hlk dX3_readText_72
          · rw [if_pos c10] at hf
            refine j_iload_n C dX3_readText_50 rfl 2 rfl 51 rfl ?_
            obtain ⟨rfl, rfl⟩ := Prod.mk.inj (Option.some.inj hf)
            exact j_iret C hr hlk dX3_readText_51
        · rw [if_pos c9] at hf
          refine j_iconst C dX3_readText_30 (v := (-1)) c_iconst_m1 31 rfl ?_
          refine j_aload_n C dX3_readText_31 rfl 0 rfl 32 rfl ?_
          refine j3_get C 5 (by decide) qf_X3_33 (v := .ref (ad g 23)) rfl dX3_readText_32 35 rfl ?_
          refine j3t_get C 3 (by decide) qf_X3_304 (v := .int (S8 23 3)) rfl dX3_readText_35 38 rfl ?_
          refine j_isub C dX3_readText_38 39 rfl ?_
          obtain ⟨rfl, rfl⟩ := Prod.mk.inj (Option.some.inj hf)
          exact j_iret C hr hlk dX3_readText_39
  unfold X3_readText at hf
  refine j_aload_n C dX3_readText_0 rfl 0 rfl 1 rfl ?_
  refine j3_get C 5 (by decide) qf_X3_33 (v := .ref (ad g 23)) rfl dX3_readText_1 4 rfl ?_
  obtain ⟨T1, hT1, hf⟩ := bnd hf
  obtain ⟨S2, hS2, hf⟩ := bnd hf
  refine j_x (put_blk S 23 2).symm ?_
  refine j_callVv (As := []) (rest := []) C (c_X2_rewind l g sz S mm  (blk S 23) _ hT1) (j_cwV C qc_X2_rewind qm_X3_294 qi_X2_rewind qs_X2_rewind qn_X2 hd_X2_rewind ⟨rfl, rfl⟩ ⟨by decide, by decide⟩) (rcv_tp.cell C.2) rfl (Nat.le_of_ble_eq_true rfl) dX3_readText_4 7 rfl ?_
  rw [Option.some.inj hS2]
  refine j_iconst C dX3_readText_7 (v := 1) c_iconst_1 8 rfl ?_
  refine j_istore_n (lv2 := [(2, .int 1), (0, .ref (ad g 0)), (1, .ref (ad g k1))]) C dX3_readText_8 rfl (by decide) rfl 9 rfl ?_
  refine j_sub [1, 2, 0] rfl ?_
  exact hL9 FU 1 S2 hf
set_option maxRecDepth 100000 in
set_option maxHeartbeats 4000000 in
theorem c_X3_text (l : Launch) (g : GG) (sz : Nat) (S mm : St) (r : Int32) (S' : St) (hf : X3_text S = some (r, S')) : Met l yX3_text (.code yX3_text cX3_text 2 (some .int) :: ALLW) (rmJ 8 175) (PcJ g sz S mm [.ref (ad g 0)]) (QiJ g sz r S' mm) 0 0 (Ag sz) := by
  refine j_met (own := RX3) (by decide) rfl (Nat.le_of_ble_eq_true rfl) rfl ?_
  intro p e s m args below meth c C hr hlk
  unfold X3_text at hf
  refine j_aload_n C dX3_text_0 rfl 0 rfl 1 rfl ?_
  refine j3_get C 3 (by decide) qf_X3_23 (v := .ref (ad g 15)) rfl dX3_text_1 4 rfl ?_
  refine j_aload_n C dX3_text_4 rfl 0 rfl 5 rfl ?_
  refine j3_get C 0 (by decide) qf_X3_12 (v := .ref (ad g 1)) rfl dX3_text_5 8 rfl ?_
  obtain ⟨S1, hS1, hf⟩ := bnd hf
  refine j_callVv (As := [.ref (ad g 1)]) (rest := []) C (c_X1_become l g sz S mm 15 rfl 1 rfl (by decide)) (j_cwV C qc_X1_become qm_X3_165 qi_X1_become qs_X1_become qn_X1 hd_X1_become ⟨rfl, rfl⟩ ⟨by decide, by decide⟩) ((rcv_sh rfl).cell C.2) rfl (Nat.le_of_ble_eq_true rfl) dX3_text_8 11 rfl ?_
  rw [Option.some.inj hS1]
  refine j_aload_n C dX3_text_11 rfl 0 rfl 12 rfl ?_
  refine j_aload_n C dX3_text_12 rfl 0 rfl 13 rfl ?_
  refine j3_get C 3 (by decide) qf_X3_23 (v := .ref (ad g 15)) rfl dX3_text_13 16 rfl ?_
  obtain ⟨⟨r3, S4⟩, hq2, hf⟩ := bnd hf
  dsimp only at hf
  refine j_callVi (As := [.ref (ad g 15)]) (rest := []) C (c_X3_readText l g sz S1 mm  15 rfl _ _ hq2) (j_cwV C qc_X3_readText qm_X3_238 qi_X3_readText qs_X3_readText qn_X3 hd_X3_readText ⟨rfl, rfl⟩ ⟨by decide, by decide⟩) (rcv_pl.cell C.2) rfl (Nat.le_of_ble_eq_true rfl) dX3_text_16 19 rfl ?_
  refine j_istore_n (lv2 := [(1, .int r3), (0, .ref (ad g 0))]) C dX3_text_19 rfl (by decide) rfl 20 rfl ?_
  refine j_iload_n C dX3_text_20 rfl 0 rfl 21 rfl ?_
  refine j_if_lt C dX3_text_21 35 (by decide) 24 rfl (fun c5 => ?_) (fun c5 => ?_)
  · rw [if_pos c5] at hf
    refine j_aload_n C dX3_text_35 rfl 1 rfl 36 rfl ?_
    refine j3_get C 5 (by decide) qf_X3_33 (v := .ref (ad g 23)) rfl dX3_text_36 39 rfl ?_
    refine j_iconst C dX3_text_39 (v := 0) c_iconst_0 40 rfl ?_
    obtain ⟨S6, hS6, hf⟩ := bnd hf
    refine j3t_put C 1 (by decide) (by decide) rfl rfl qf_X3_232 dX3_text_40 43 rfl ?_
    rw [Option.some.inj hS6]
    refine j_iload_n C dX3_text_43 rfl 0 rfl 44 rfl ?_
    obtain ⟨rfl, rfl⟩ := Prod.mk.inj (Option.some.inj hf)
    exact j_iret C hr hlk dX3_text_44
  · rw [if_neg c5] at hf
    refine j_aload_n C dX3_text_24 rfl 1 rfl 25 rfl ?_
    refine j3_get C 0 (by decide) qf_X3_12 (v := .ref (ad g 1)) rfl dX3_text_25 28 rfl ?_
    refine j_aload_n C dX3_text_28 rfl 1 rfl 29 rfl ?_
    refine j3_get C 3 (by decide) qf_X3_23 (v := .ref (ad g 15)) rfl dX3_text_29 32 rfl ?_
    obtain ⟨S7, hS7, hf⟩ := bnd hf
    refine j_callVv (As := [.ref (ad g 15)]) (rest := []) C (c_X1_become l g sz S4 mm 1 rfl 15 rfl (by decide)) (j_cwV C qc_X1_become qm_X3_165 qi_X1_become qs_X1_become qn_X1 hd_X1_become ⟨rfl, rfl⟩ ⟨by decide, by decide⟩) ((rcv_sh rfl).cell C.2) rfl (Nat.le_of_ble_eq_true rfl) dX3_text_32 35 rfl ?_
    rw [Option.some.inj hS7]
    refine j_aload_n C dX3_text_35 rfl 1 rfl 36 rfl ?_
    refine j3_get C 5 (by decide) qf_X3_33 (v := .ref (ad g 23)) rfl dX3_text_36 39 rfl ?_
    refine j_iconst C dX3_text_39 (v := 0) c_iconst_0 40 rfl ?_
    obtain ⟨S8, hS8, hf⟩ := bnd hf
    refine j3t_put C 1 (by decide) (by decide) rfl rfl qf_X3_232 dX3_text_40 43 rfl ?_
    rw [Option.some.inj hS8]
    refine j_iload_n C dX3_text_43 rfl 0 rfl 44 rfl ?_
    obtain ⟨rfl, rfl⟩ := Prod.mk.inj (Option.some.inj hf)
    exact j_iret C hr hlk dX3_text_44
set_option maxRecDepth 100000 in
set_option maxHeartbeats 4000000 in
theorem c_X3_hold (l : Launch) (g : GG) (sz : Nat) (S mm : St) (a1 : Int32) (a2 : Int32) (r : Int32) (S' : St) (hf : X3_hold a1 a2 S = some (r, S')) : Met l yX3_hold (.code yX3_hold cX3_hold 3 (some .int) :: ALLW) (rmJ 2 43) (PcJ g sz S mm [.ref (ad g 0), .int a1, .int a2]) (QiJ g sz r S' mm) 0 0 (Ag sz) := by
  refine j_met (own := RX3) (by decide) rfl (Nat.le_of_ble_eq_true rfl) rfl ?_
  intro p e s m args below meth c C hr hlk
  unfold X3_hold at hf
  refine j_iload_n C dX3_hold_0 rfl 1 rfl 1 rfl ?_
  refine j_iconst C dX3_hold_1 (v := 0) c_iconst_0 2 rfl ?_
  refine j_bipush C dX3_hold_2 (v := 9) c_bipush_9 4 rfl ?_
  refine j_callSi (As := [.int a1, .int 0, .int 9]) (rest := []) C (c_X3_within l g sz S mm a1 0 9 _ rfl) (j_cwS C qc_X3_within qm_X3_66 qs_X3_within qn_X3 hd_X3_within ⟨rfl, rfl⟩ ⟨by decide, by decide⟩)  rfl (Nat.le_of_ble_eq_true rfl) dX3_hold_4 7 rfl ?_
  refine j_if_eq C dX3_hold_7 23 (by decide) 10 rfl (fun c1 => ?_) (fun c1 => ?_)
  · rw [if_pos c1] at hf
    refine j_aload_n C dX3_hold_23 rfl 0 rfl 24 rfl ?_
    refine j_iconst C dX3_hold_24 (v := 0) c_iconst_0 25 rfl ?_
    obtain ⟨⟨r3, S4⟩, hq2, hf⟩ := bnd hf
    dsimp only at hf
    refine j_callVi (As := [.int 0]) (rest := []) C (c_X3_found l g sz S mm  0 _ _ hq2) (j_cwV C qc_X3_found qm_X3_52 qi_X3_found qs_X3_found qn_X3 hd_X3_found ⟨rfl, rfl⟩ ⟨by decide, by decide⟩) (rcv_pl.cell C.2) rfl (Nat.le_of_ble_eq_true rfl) dX3_hold_25 28 rfl ?_
    obtain ⟨rfl, rfl⟩ := Prod.mk.inj (Option.some.inj hf)
    exact j_iret C hr hlk dX3_hold_28
  · rw [if_neg c1] at hf
    refine j_iload_n C dX3_hold_10 rfl 2 rfl 11 rfl ?_
    refine j_iconst C dX3_hold_11 (v := (-1)) c_iconst_m1 12 rfl ?_
    refine j_icmp_eq C dX3_hold_12 29 (by decide) 15 rfl (fun c5 => ?_) (fun c5 => ?_)
    · rw [if_pos c5] at hf
      refine j_aload_n C dX3_hold_29 rfl 0 rfl 30 rfl ?_
      refine j3_get C 0 (by decide) qf_X3_12 (v := .ref (ad g 1)) rfl dX3_hold_30 33 rfl ?_
      refine j3s_get (k := 1) rfl C 5 (by decide) qf_X3_242 (v := .ref (ad g 7)) rfl dX3_hold_33 36 rfl ?_
      refine j_iload_n C dX3_hold_36 rfl 1 rfl 37 rfl ?_
      refine j_iload_n C dX3_hold_37 rfl 2 rfl 38 rfl ?_
      obtain ⟨S6, hS6, hf⟩ := bnd hf
      refine j3s_ast (k := 1) rfl 6 (by decide) (by decide) C hS6 dX3_hold_38 39 rfl ?_
      refine j_iconst C dX3_hold_39 (v := 1) c_iconst_1 40 rfl ?_
      obtain ⟨rfl, rfl⟩ := Prod.mk.inj (Option.some.inj hf)
      exact j_iret C hr hlk dX3_hold_40
    · rw [if_neg c5] at hf
      refine j_aload_n C dX3_hold_15 rfl 0 rfl 16 rfl ?_
      refine j_iload_n C dX3_hold_16 rfl 2 rfl 17 rfl ?_
      refine j_callVi (As := [.int a2]) (rest := []) C (c_X3_isCoin l g sz S mm  a2 _ rfl) (j_cwV C qc_X3_isCoin qm_X3_63 qi_X3_isCoin qs_X3_isCoin qn_X3 hd_X3_isCoin ⟨rfl, rfl⟩ ⟨by decide, by decide⟩) (rcv_pl.cell C.2) rfl (Nat.le_of_ble_eq_true rfl) dX3_hold_17 20 rfl ?_
      refine j_if_ne C dX3_hold_20 29 (by decide) 23 rfl (fun c7 => ?_) (fun c7 => ?_)
      · rw [if_neg c7] at hf
        refine j_aload_n C dX3_hold_29 rfl 0 rfl 30 rfl ?_
        refine j3_get C 0 (by decide) qf_X3_12 (v := .ref (ad g 1)) rfl dX3_hold_30 33 rfl ?_
        refine j3s_get (k := 1) rfl C 5 (by decide) qf_X3_242 (v := .ref (ad g 7)) rfl dX3_hold_33 36 rfl ?_
        refine j_iload_n C dX3_hold_36 rfl 1 rfl 37 rfl ?_
        refine j_iload_n C dX3_hold_37 rfl 2 rfl 38 rfl ?_
        obtain ⟨S8, hS8, hf⟩ := bnd hf
        refine j3s_ast (k := 1) rfl 6 (by decide) (by decide) C hS8 dX3_hold_38 39 rfl ?_
        refine j_iconst C dX3_hold_39 (v := 1) c_iconst_1 40 rfl ?_
        obtain ⟨rfl, rfl⟩ := Prod.mk.inj (Option.some.inj hf)
        exact j_iret C hr hlk dX3_hold_40
      · rw [if_pos c7] at hf
        refine j_aload_n C dX3_hold_23 rfl 0 rfl 24 rfl ?_
        refine j_iconst C dX3_hold_24 (v := 0) c_iconst_0 25 rfl ?_
        obtain ⟨⟨r10, S11⟩, hq9, hf⟩ := bnd hf
        dsimp only at hf
        refine j_callVi (As := [.int 0]) (rest := []) C (c_X3_found l g sz S mm  0 _ _ hq9) (j_cwV C qc_X3_found qm_X3_52 qi_X3_found qs_X3_found qn_X3 hd_X3_found ⟨rfl, rfl⟩ ⟨by decide, by decide⟩) (rcv_pl.cell C.2) rfl (Nat.le_of_ble_eq_true rfl) dX3_hold_25 28 rfl ?_
        obtain ⟨rfl, rfl⟩ := Prod.mk.inj (Option.some.inj hf)
        exact j_iret C hr hlk dX3_hold_28
set_option maxRecDepth 100000 in
set_option maxHeartbeats 4000000 in
theorem c_X3_isUnder (l : Launch) (g : GG) (sz : Nat) (x mm : St) (a0 : Int32) (a1 : Int32) (r : Int32) (hf : X3_isUnder a0 a1 = some r) : Met l yX3_isUnder (.code yX3_isUnder cX3_isUnder 4 (some .boolean) :: ALLW) (rmJ 0 0) (PcJ g sz x mm [.int a0, .int a1]) (QiJ g sz r x mm) 0 0 (Ag sz) := by
  refine j_met (own := RX3) (by decide) rfl (Nat.le_of_ble_eq_true rfl) rfl ?_
  intro p e s m args below meth c C hr hlk
  have hL4 : ∀ (n : Nat), ∀ (b1 : Int32) (b2 : Int32) (b3 : Int32), X3_isUnder_L4 n b1 b2 b3 = some r → Wj p l e (rmJ 0 0) s m args below meth c (MQ below (QiJ g sz r x mm) args s 0 0 (Ag sz)) 4 g sz x mm 4 [(1, .int b1), (2, .int b2), (3, .int b3)] [] := by
    intro  n
    induction n with
    | zero =>
      intro b1 b2 b3 hf
      rw [X3_isUnder_L4] at hf
      cases hf
    | succ n ih =>
      intro b1 b2 b3 hf
      rw [X3_isUnder_L4] at hf
      refine j_iload_n C dX3_isUnder_4 rfl 2 rfl 5 rfl ?_
      refine j_bipush C dX3_isUnder_5 (v := 7) c_bipush_7 7 rfl ?_
      refine j_icmp_ge C dX3_isUnder_7 33 (by decide) 10 rfl (fun c1 => ?_) (fun c1 => ?_)
      · rw [if_pos c1] at hf
        refine j_iconst C dX3_isUnder_33 (v := 0) c_iconst_0 34 rfl ?_
        obtain rfl := Option.some.inj hf
        exact j_zret C hr hlk (Or.inl rfl) dX3_isUnder_34
      · rw [if_neg c1] at hf
        refine j_iload_n C dX3_isUnder_10 rfl 1 rfl 11 rfl ?_
        refine j_if_lt C dX3_isUnder_11 33 (by decide) 14 rfl (fun c2 => ?_) (fun c2 => ?_)
        · rw [if_pos c2] at hf
          refine j_iconst C dX3_isUnder_33 (v := 0) c_iconst_0 34 rfl ?_
          obtain rfl := Option.some.inj hf
          exact j_zret C hr hlk (Or.inl rfl) dX3_isUnder_34
        · rw [if_neg c2] at hf
          refine j_iload_n C dX3_isUnder_14 rfl 1 rfl 15 rfl ?_
          refine j_iload_n C dX3_isUnder_15 rfl 0 rfl 16 rfl ?_
          refine j_icmp_ne C dX3_isUnder_16 21 (by decide) 19 rfl (fun c3 => ?_) (fun c3 => ?_)
          · rw [if_neg c3] at hf
            refine j_gets C 0 (by decide) qf_X3_291 dX3_isUnder_21 24 rfl ?_
            refine j_iload_n C dX3_isUnder_24 rfl 1 rfl 25 rfl ?_
            obtain ⟨v4, hv4, hf⟩ := bnd hf
            refine j_sald C 0 (by decide) hv4 dX3_isUnder_25 26 rfl ?_
            refine j_istore_n (lv2 := [(2, .int v4), (1, .int b1), (3, .int b3)]) C dX3_isUnder_26 rfl (by decide) rfl 27 rfl ?_
            refine j_iinc (lv2 := [(3, .int (b3 + 1)), (2, .int v4), (1, .int b1)]) C dX3_isUnder_27 (k := 2) rfl (congrArg (HAdd.hAdd b3) c_oi_1) (by decide) rfl 30 rfl ?_
            refine j_goto C dX3_isUnder_30 4 (by decide) ?_
            refine j_sub [2, 1, 0] rfl ?_
            exact ih b1 v4 (b3 + 1) hf
          · rw [if_pos c3] at hf
            refine j_iconst C dX3_isUnder_19 (v := 1) c_iconst_1 20 rfl ?_
            obtain rfl := Option.some.inj hf
            exact j_zret C hr hlk (Or.inr rfl) dX3_isUnder_20
  unfold X3_isUnder at hf
  refine j_iload_n C dX3_isUnder_0 rfl 0 rfl 1 rfl ?_
  refine j_istore_n (lv2 := [(2, .int a0), (0, .int a0), (1, .int a1)]) C dX3_isUnder_1 rfl (by decide) rfl 2 rfl ?_
  refine j_iconst C dX3_isUnder_2 (v := 0) c_iconst_0 3 rfl ?_
  refine j_istore_n (lv2 := [(3, .int 0), (2, .int a0), (0, .int a0), (1, .int a1)]) C dX3_isUnder_3 rfl (by decide) rfl 4 rfl ?_
  refine j_sub [3, 1, 0] rfl ?_
  exact hL4 FU a1 a0 0 hf
set_option maxRecDepth 100000 in
set_option maxHeartbeats 4000000 in
theorem c_X3_as (l : Launch) (g : GG) (sz : Nat) (S mm : St) (a1 : Int32) (a2 : Int32) (r : Int32) (S' : St) (hf : X3_as a1 a2 S = some (r, S')) : Met l yX3_as (.code yX3_as cX3_as 4 (some .int) :: ALLW) (rmJ 2 43) (PcJ g sz S mm [.ref (ad g 0), .int a1, .int a2]) (QiJ g sz r S' mm) 0 0 (Ag sz) := by
  refine j_met (own := RX3) (by decide) rfl (Nat.le_of_ble_eq_true rfl) rfl ?_
  intro p e s m args below meth c C hr hlk
  unfold X3_as at hf
  refine j_iload_n C dX3_as_0 rfl 1 rfl 1 rfl ?_
  refine j_iconst C dX3_as_1 (v := 0) c_iconst_0 2 rfl ?_
  refine j_bipush C dX3_as_2 (v := 9) c_bipush_9 4 rfl ?_
  refine j_callSi (As := [.int a1, .int 0, .int 9]) (rest := []) C (c_X3_within l g sz S mm a1 0 9 _ rfl) (j_cwS C qc_X3_within qm_X3_66 qs_X3_within qn_X3 hd_X3_within ⟨rfl, rfl⟩ ⟨by decide, by decide⟩)  rfl (Nat.le_of_ble_eq_true rfl) dX3_as_4 7 rfl ?_
  refine j_if_eq C dX3_as_7 17 (by decide) 10 rfl (fun c1 => ?_) (fun c1 => ?_)
  · rw [if_pos c1] at hf
    refine j_aload_n C dX3_as_17 rfl 0 rfl 18 rfl ?_
    refine j_iconst C dX3_as_18 (v := 0) c_iconst_0 19 rfl ?_
    obtain ⟨⟨r3, S4⟩, hq2, hf⟩ := bnd hf
    dsimp only at hf
    refine j_callVi (As := [.int 0]) (rest := []) C (c_X3_found l g sz S mm  0 _ _ hq2) (j_cwV C qc_X3_found qm_X3_52 qi_X3_found qs_X3_found qn_X3 hd_X3_found ⟨rfl, rfl⟩ ⟨by decide, by decide⟩) (rcv_pl.cell C.2) rfl (Nat.le_of_ble_eq_true rfl) dX3_as_19 22 rfl ?_
    obtain ⟨rfl, rfl⟩ := Prod.mk.inj (Option.some.inj hf)
    exact j_iret C hr hlk dX3_as_22
  · rw [if_neg c1] at hf
    refine j_iload_n C dX3_as_10 rfl 2 rfl 11 rfl ?_
    refine j_callSi (As := [.int a2]) (rest := []) C (c_X3_isKind l g sz S mm a2 _ rfl) (j_cwS C qc_X3_isKind qm_X3_48 qs_X3_isKind qn_X3 hd_X3_isKind ⟨rfl, rfl⟩ ⟨by decide, by decide⟩)  rfl (Nat.le_of_ble_eq_true rfl) dX3_as_11 14 rfl ?_
    refine j_if_ne C dX3_as_14 23 (by decide) 17 rfl (fun c5 => ?_) (fun c5 => ?_)
    · rw [if_neg c5] at hf
      refine j_aload_n C dX3_as_23 rfl 0 rfl 24 rfl ?_
      refine j3_get C 0 (by decide) qf_X3_12 (v := .ref (ad g 1)) rfl dX3_as_24 27 rfl ?_
      refine j3s_get (k := 1) rfl C 5 (by decide) qf_X3_242 (v := .ref (ad g 7)) rfl dX3_as_27 30 rfl ?_
      refine j_iload_n C dX3_as_30 rfl 1 rfl 31 rfl ?_
      obtain ⟨v6, hv6, hf⟩ := bnd hf
      refine j3s_ald (k := 1) rfl 6 (by decide) (by decide) C hv6 dX3_as_31 32 rfl ?_
      refine j_istore_n (lv2 := [(3, .int v6), (0, .ref (ad g 0)), (1, .int a1), (2, .int a2)]) C dX3_as_32 rfl (by decide) rfl 33 rfl ?_
      refine j_aload_n C dX3_as_33 rfl 1 rfl 34 rfl ?_
      refine j_iload_n C dX3_as_34 rfl 0 rfl 35 rfl ?_
      refine j_callVi (As := [.int v6]) (rest := []) C (c_X3_isCoin l g sz S mm  v6 _ rfl) (j_cwV C qc_X3_isCoin qm_X3_63 qi_X3_isCoin qs_X3_isCoin qn_X3 hd_X3_isCoin ⟨rfl, rfl⟩ ⟨by decide, by decide⟩) (rcv_pl.cell C.2) rfl (Nat.le_of_ble_eq_true rfl) dX3_as_35 38 rfl ?_
      refine j_if_ne C dX3_as_38 47 (by decide) 41 rfl (fun c7 => ?_) (fun c7 => ?_)
      · rw [if_neg c7] at hf
        refine j_aload_n C dX3_as_47 rfl 1 rfl 48 rfl ?_
        refine j3_get C 0 (by decide) qf_X3_12 (v := .ref (ad g 1)) rfl dX3_as_48 51 rfl ?_
        refine j3s_get (k := 1) rfl C 0 (by decide) qf_X3_70 (v := .ref (ad g 2)) rfl dX3_as_51 54 rfl ?_
        refine j_iload_n C dX3_as_54 rfl 0 rfl 55 rfl ?_
        obtain ⟨v8, hv8, hf⟩ := bnd hf
        refine j3s_ald (k := 1) rfl 1 (by decide) (by decide) C hv8 dX3_as_55 56 rfl ?_
        refine j_iload_n C dX3_as_56 rfl 3 rfl 57 rfl ?_
        obtain ⟨r9, hr9, hf⟩ := bnd hf
        refine j_callSi (As := [.int v8, .int a2]) (rest := []) C (c_X3_isUnder l g sz S mm v8 a2 _ hr9) (j_cwS C qc_X3_isUnder qm_X3_245 qs_X3_isUnder qn_X3 hd_X3_isUnder ⟨rfl, rfl⟩ ⟨by decide, by decide⟩)  rfl (Nat.le_of_ble_eq_true rfl) dX3_as_57 60 rfl ?_
        refine j_if_eq C dX3_as_60 67 (by decide) 63 rfl (fun c10 => ?_) (fun c10 => ?_)
        · rw [if_pos c10] at hf
          refine j_aload_n C dX3_as_67 rfl 1 rfl 68 rfl ?_
          refine j_iconst C dX3_as_68 (v := 2) c_iconst_2 69 rfl ?_
          obtain ⟨⟨r12, S13⟩, hq11, hf⟩ := bnd hf
          dsimp only at hf
          refine j_callVi (As := [.int 2]) (rest := []) C (c_X3_found l g sz S mm  2 _ _ hq11) (j_cwV C qc_X3_found qm_X3_52 qi_X3_found qs_X3_found qn_X3 hd_X3_found ⟨rfl, rfl⟩ ⟨by decide, by decide⟩) (rcv_pl.cell C.2) rfl (Nat.le_of_ble_eq_true rfl) dX3_as_69 72 rfl ?_
          obtain ⟨rfl, rfl⟩ := Prod.mk.inj (Option.some.inj hf)
          exact j_iret C hr hlk dX3_as_72
        · rw [if_neg c10] at hf
          refine j_iload_n C dX3_as_63 rfl 0 rfl 64 rfl ?_
          refine j_goto C dX3_as_64 72 (by decide) ?_
          obtain ⟨rfl, rfl⟩ := Prod.mk.inj (Option.some.inj hf)
          exact j_iret C hr hlk dX3_as_72
      · rw [if_pos c7] at hf
        refine j_aload_n C dX3_as_41 rfl 1 rfl 42 rfl ?_
        refine j_iconst C dX3_as_42 (v := 5) c_iconst_5 43 rfl ?_
        obtain ⟨⟨r15, S16⟩, hq14, hf⟩ := bnd hf
        dsimp only at hf
        refine j_callVi (As := [.int 5]) (rest := []) C (c_X3_found l g sz S mm  5 _ _ hq14) (j_cwV C qc_X3_found qm_X3_52 qi_X3_found qs_X3_found qn_X3 hd_X3_found ⟨rfl, rfl⟩ ⟨by decide, by decide⟩) (rcv_pl.cell C.2) rfl (Nat.le_of_ble_eq_true rfl) dX3_as_43 46 rfl ?_
        obtain ⟨rfl, rfl⟩ := Prod.mk.inj (Option.some.inj hf)
        exact j_iret C hr hlk dX3_as_46
    · rw [if_pos c5] at hf
      refine j_aload_n C dX3_as_17 rfl 0 rfl 18 rfl ?_
      refine j_iconst C dX3_as_18 (v := 0) c_iconst_0 19 rfl ?_
      obtain ⟨⟨r18, S19⟩, hq17, hf⟩ := bnd hf
      dsimp only at hf
      refine j_callVi (As := [.int 0]) (rest := []) C (c_X3_found l g sz S mm  0 _ _ hq17) (j_cwV C qc_X3_found qm_X3_52 qi_X3_found qs_X3_found qn_X3 hd_X3_found ⟨rfl, rfl⟩ ⟨by decide, by decide⟩) (rcv_pl.cell C.2) rfl (Nat.le_of_ble_eq_true rfl) dX3_as_19 22 rfl ?_
      obtain ⟨rfl, rfl⟩ := Prod.mk.inj (Option.some.inj hf)
      exact j_iret C hr hlk dX3_as_22
set_option maxRecDepth 100000 in
set_option maxHeartbeats 4000000 in
theorem c_X3_isSheet (l : Launch) (g : GG) (sz : Nat) (x mm : St) (a0 : Int32) (r : Int32) (hf : X3_isSheet a0 = r) : Met l yX3_isSheet (.code yX3_isSheet cX3_isSheet 1 (some .boolean) :: ALLW) (rmJ 1 22) (PcJ g sz x mm [.int a0]) (QiJ g sz r x mm) 0 0 (Ag sz) := by
  refine j_met (own := RX3) (by decide) rfl (Nat.le_of_ble_eq_true rfl) rfl ?_
  intro p e s m args below meth c C hr hlk
  unfold X3_isSheet at hf
  refine j_iload_n C dX3_isSheet_0 rfl 0 rfl 1 rfl ?_
  refine j_iconst C dX3_isSheet_1 (v := 0) c_iconst_0 2 rfl ?_
  refine j_iconst C dX3_isSheet_2 (v := 3) c_iconst_3 3 rfl ?_
  refine j_callSi (As := [.int a0, .int 0, .int 3]) (rest := []) C (c_X3_within l g sz x mm a0 0 3 _ rfl) (j_cwS C qc_X3_within qm_X3_66 qs_X3_within qn_X3 hd_X3_within ⟨rfl, rfl⟩ ⟨by decide, by decide⟩)  rfl (Nat.le_of_ble_eq_true rfl) dX3_isSheet_3 6 rfl ?_
  subst hf
  exact j_zret C hr hlk (b01_X3_within ..) dX3_isSheet_6
set_option maxRecDepth 100000 in
set_option maxHeartbeats 4000000 in
theorem c_X3_isWidth (l : Launch) (g : GG) (sz : Nat) (x mm : St) (a0 : Int32) (r : Int32) (hf : X3_isWidth a0 = r) : Met l yX3_isWidth (.code yX3_isWidth cX3_isWidth 1 (some .boolean) :: ALLW) (rmJ 0 0) (PcJ g sz x mm [.int a0]) (QiJ g sz r x mm) 0 0 (Ag sz) := by
  refine j_met (own := RX3) (by decide) rfl (Nat.le_of_ble_eq_true rfl) rfl ?_
  intro p e s m args below meth c C hr hlk
  unfold X3_isWidth at hf
  refine j_iload_n C dX3_isWidth_0 rfl 0 rfl 1 rfl ?_
  refine j_if_eq C dX3_isWidth_1 22 (by decide) 4 rfl (fun c1 => ?_) (fun c1 => ?_)
  · rw [if_pos c1] at hf
    refine j_iconst C dX3_isWidth_22 (v := 1) c_iconst_1 23 rfl ?_
    refine j_goto C dX3_isWidth_23 27 (by decide) ?_
    subst hf
    exact j_zret C hr hlk (Or.inr rfl) dX3_isWidth_27
  · rw [if_neg c1] at hf
    refine j_iload_n C dX3_isWidth_4 rfl 0 rfl 5 rfl ?_
    refine j_bipush C dX3_isWidth_5 (v := 8) c_bipush_8 7 rfl ?_
    refine j_icmp_eq C dX3_isWidth_7 22 (by decide) 10 rfl (fun c2 => ?_) (fun c2 => ?_)
    · rw [if_pos c2] at hf
      refine j_iconst C dX3_isWidth_22 (v := 1) c_iconst_1 23 rfl ?_
      refine j_goto C dX3_isWidth_23 27 (by decide) ?_
      subst hf
      exact j_zret C hr hlk (Or.inr rfl) dX3_isWidth_27
    · rw [if_neg c2] at hf
      refine j_iload_n C dX3_isWidth_10 rfl 0 rfl 11 rfl ?_
      refine j_bipush C dX3_isWidth_11 (v := 16) c_bipush_16 13 rfl ?_
      refine j_icmp_eq C dX3_isWidth_13 22 (by decide) 16 rfl (fun c3 => ?_) (fun c3 => ?_)
      · rw [if_pos c3] at hf
        refine j_iconst C dX3_isWidth_22 (v := 1) c_iconst_1 23 rfl ?_
        refine j_goto C dX3_isWidth_23 27 (by decide) ?_
        subst hf
        exact j_zret C hr hlk (Or.inr rfl) dX3_isWidth_27
      · rw [if_neg c3] at hf
        refine j_iload_n C dX3_isWidth_16 rfl 0 rfl 17 rfl ?_
        refine j_bipush C dX3_isWidth_17 (v := 32) c_bipush_32 19 rfl ?_
        refine j_icmp_ne C dX3_isWidth_19 26 (by decide) 22 rfl (fun c4 => ?_) (fun c4 => ?_)
        · rw [if_neg c4] at hf
          refine j_iconst C dX3_isWidth_26 (v := 0) c_iconst_0 27 rfl ?_
          subst hf
          exact j_zret C hr hlk (Or.inl rfl) dX3_isWidth_27
        · rw [if_pos c4] at hf
          refine j_iconst C dX3_isWidth_22 (v := 1) c_iconst_1 23 rfl ?_
          refine j_goto C dX3_isWidth_23 27 (by decide) ?_
          subst hf
          exact j_zret C hr hlk (Or.inr rfl) dX3_isWidth_27
set_option maxRecDepth 100000 in
set_option maxHeartbeats 4000000 in
theorem c_X3_sheet (l : Launch) (g : GG) (sz : Nat) (S mm : St) (a1 : Int32) (a2 : Int32) (a3 : Int32) (r : Int32) (S' : St) (hf : X3_sheet a1 a2 a3 S = some (r, S')) : Met l yX3_sheet (.code yX3_sheet cX3_sheet 4 (some .int) :: ALLW) (rmJ 2 42) (PcJ g sz S mm [.ref (ad g 0), .int a1, .int a2, .int a3]) (QiJ g sz r S' mm) 0 0 (Ag sz) := by
  refine j_met (own := RX3) (by decide) rfl (Nat.le_of_ble_eq_true rfl) rfl ?_
  intro p e s m args below meth c C hr hlk
  have hL59 : ∀ (b1 : Int32) (t0 : Int32) (t1 : Int32) (kt2 : Nat) (hkt2 : isSt kt2 = true) (S : St), X3_sheet_L59 b1 t0 t1 kt2 S = some (r, S') → Wj p l e (rmJ 2 42) s m args below meth c (MQ below (QiJ g sz r S' mm) args s 0 0 (Ag sz)) 4 g sz S mm 59 [(0, .ref (ad g 0)), (1, .int b1)] [.int t0, .int t1, .ref (ad g kt2)] := by
    intro  b1 t0 t1 kt2 hkt2 S hf
    unfold X3_sheet_L59 at hf
    obtain ⟨T10, hT10, hf⟩ := bnd hf
    obtain ⟨S11, hS11, hf⟩ := bnd hf
    refine j_x (put_blk S kt2 2).symm ?_
    refine j_callVv (As := [.int t1, .int t0]) (rest := []) C (c_X0_renew l g sz S mm kt2 hkt2 t1 t0 (blk S kt2) _ hT10) (j_cwV C qc_X0_renew qm_X3_254 qi_X0_renew qs_X0_renew qn_X0 hd_X0_renew ⟨rfl, rfl⟩ ⟨by decide, by decide⟩) ((rcv_st hkt2).cell C.2) rfl (Nat.le_of_ble_eq_true rfl) dX3_sheet_59 62 rfl ?_
    rw [Option.some.inj hS11]
    refine j_aload_n C dX3_sheet_62 rfl 0 rfl 63 rfl ?_
    refine j3_get C 6 (by decide) qf_X3_39 (v := .ref (ad g 25)) rfl dX3_sheet_63 66 rfl ?_
    refine j_iload_n C dX3_sheet_66 rfl 1 rfl 67 rfl ?_
    obtain ⟨kv12, hkv12, hf⟩ := bnd hf
    refine j3_sheets C hkv12 dX3_sheet_67 68 rfl ?_
    refine j3h_get (sht_ok hkv12) C 2 (by decide) qf_X3_257 (v := .int (S11 kv12 2)) rfl dX3_sheet_68 71 rfl ?_
    obtain ⟨rfl, rfl⟩ := Prod.mk.inj (Option.some.inj hf)
    exact j_iret C hr hlk dX3_sheet_71
  unfold X3_sheet at hf
  refine j_iload_n C dX3_sheet_0 rfl 1 rfl 1 rfl ?_
  refine j_callSi (As := [.int a1]) (rest := []) C (c_X3_isSheet l g sz S mm a1 _ rfl) (j_cwS C qc_X3_isSheet qm_X3_248 qs_X3_isSheet qn_X3 hd_X3_isSheet ⟨rfl, rfl⟩ ⟨by decide, by decide⟩)  rfl (Nat.le_of_ble_eq_true rfl) dX3_sheet_1 4 rfl ?_
  refine j_if_eq C dX3_sheet_4 14 (by decide) 7 rfl (fun c1 => ?_) (fun c1 => ?_)
  · rw [if_pos c1] at hf
    refine j_aload_n C dX3_sheet_14 rfl 0 rfl 15 rfl ?_
    refine j_iconst C dX3_sheet_15 (v := 0) c_iconst_0 16 rfl ?_
    obtain ⟨⟨r3, S4⟩, hq2, hf⟩ := bnd hf
    dsimp only at hf
    refine j_callVi (As := [.int 0]) (rest := []) C (c_X3_found l g sz S mm  0 _ _ hq2) (j_cwV C qc_X3_found qm_X3_52 qi_X3_found qs_X3_found qn_X3 hd_X3_found ⟨rfl, rfl⟩ ⟨by decide, by decide⟩) (rcv_pl.cell C.2) rfl (Nat.le_of_ble_eq_true rfl) dX3_sheet_16 19 rfl ?_
    obtain ⟨rfl, rfl⟩ := Prod.mk.inj (Option.some.inj hf)
    exact j_iret C hr hlk dX3_sheet_19
  · rw [if_neg c1] at hf
    refine j_iload_n C dX3_sheet_7 rfl 2 rfl 8 rfl ?_
    refine j_callSi (As := [.int a2]) (rest := []) C (c_X3_isWidth l g sz S mm a2 _ rfl) (j_cwS C qc_X3_isWidth qm_X3_251 qs_X3_isWidth qn_X3 hd_X3_isWidth ⟨rfl, rfl⟩ ⟨by decide, by decide⟩)  rfl (Nat.le_of_ble_eq_true rfl) dX3_sheet_8 11 rfl ?_
    refine j_if_ne C dX3_sheet_11 20 (by decide) 14 rfl (fun c5 => ?_) (fun c5 => ?_)
    · rw [if_neg c5] at hf
      refine j_iload_n C dX3_sheet_20 rfl 3 rfl 21 rfl ?_
      refine j_if_ge C dX3_sheet_21 31 (by decide) 24 rfl (fun c6 => ?_) (fun c6 => ?_)
      · rw [if_pos c6] at hf
        refine j_iload_n C dX3_sheet_31 rfl 3 rfl 32 rfl ?_
        refine j_bipush C dX3_sheet_32 (v := 40) c_bipush_40 34 rfl ?_
        refine j_icmp_le C dX3_sheet_34 43 (by decide) 37 rfl (fun c7 => ?_) (fun c7 => ?_)
        · rw [if_pos c7] at hf
          refine j_aload_n C dX3_sheet_43 rfl 0 rfl 44 rfl ?_
          refine j3_get C 6 (by decide) qf_X3_39 (v := .ref (ad g 25)) rfl dX3_sheet_44 47 rfl ?_
          refine j_iload_n C dX3_sheet_47 rfl 1 rfl 48 rfl ?_
          obtain ⟨kv8, hkv8, hf⟩ := bnd hf
          refine j3_sheets C hkv8 dX3_sheet_48 49 rfl ?_
          refine j_iload_n C dX3_sheet_49 rfl 2 rfl 50 rfl ?_
          refine j_iload_n C dX3_sheet_50 rfl 2 rfl 51 rfl ?_
          refine j_if_ne C dX3_sheet_51 58 (by decide) 54 rfl (fun c9 => ?_) (fun c9 => ?_)
          · rw [if_neg c9] at hf
            refine j_iload_n C dX3_sheet_58 rfl 3 rfl 59 rfl ?_
            refine j_sub [0, 1] rfl ?_
            exact hL59 a1 a3 a2 kv8 (sht_ok hkv8) S hf
          · rw [if_pos c9] at hf
            refine j_iconst C dX3_sheet_54 (v := 0) c_iconst_0 55 rfl ?_
            refine j_goto C dX3_sheet_55 59 (by decide) ?_
            refine j_sub [0, 1] rfl ?_
            exact hL59 a1 0 a2 kv8 (sht_ok hkv8) S hf
        · rw [if_neg c7] at hf
          refine j_aload_n C dX3_sheet_37 rfl 0 rfl 38 rfl ?_
          refine j_iconst C dX3_sheet_38 (v := 0) c_iconst_0 39 rfl ?_
          obtain ⟨⟨r14, S15⟩, hq13, hf⟩ := bnd hf
          dsimp only at hf
          refine j_callVi (As := [.int 0]) (rest := []) C (c_X3_found l g sz S mm  0 _ _ hq13) (j_cwV C qc_X3_found qm_X3_52 qi_X3_found qs_X3_found qn_X3 hd_X3_found ⟨rfl, rfl⟩ ⟨by decide, by decide⟩) (rcv_pl.cell C.2) rfl (Nat.le_of_ble_eq_true rfl) dX3_sheet_39 42 rfl ?_
          obtain ⟨rfl, rfl⟩ := Prod.mk.inj (Option.some.inj hf)
          exact j_iret C hr hlk dX3_sheet_42
      · rw [if_neg c6] at hf
        refine j_aload_n C dX3_sheet_24 rfl 0 rfl 25 rfl ?_
        refine j_bipush C dX3_sheet_25 (v := 6) c_bipush_6 27 rfl ?_
        obtain ⟨⟨r17, S18⟩, hq16, hf⟩ := bnd hf
        dsimp only at hf
        refine j_callVi (As := [.int 6]) (rest := []) C (c_X3_found l g sz S mm  6 _ _ hq16) (j_cwV C qc_X3_found qm_X3_52 qi_X3_found qs_X3_found qn_X3 hd_X3_found ⟨rfl, rfl⟩ ⟨by decide, by decide⟩) (rcv_pl.cell C.2) rfl (Nat.le_of_ble_eq_true rfl) dX3_sheet_27 30 rfl ?_
        obtain ⟨rfl, rfl⟩ := Prod.mk.inj (Option.some.inj hf)
        exact j_iret C hr hlk dX3_sheet_30
    · rw [if_pos c5] at hf
      refine j_aload_n C dX3_sheet_14 rfl 0 rfl 15 rfl ?_
      refine j_iconst C dX3_sheet_15 (v := 0) c_iconst_0 16 rfl ?_
      obtain ⟨⟨r20, S21⟩, hq19, hf⟩ := bnd hf
      dsimp only at hf
      refine j_callVi (As := [.int 0]) (rest := []) C (c_X3_found l g sz S mm  0 _ _ hq19) (j_cwV C qc_X3_found qm_X3_52 qi_X3_found qs_X3_found qn_X3 hd_X3_found ⟨rfl, rfl⟩ ⟨by decide, by decide⟩) (rcv_pl.cell C.2) rfl (Nat.le_of_ble_eq_true rfl) dX3_sheet_16 19 rfl ?_
      obtain ⟨rfl, rfl⟩ := Prod.mk.inj (Option.some.inj hf)
      exact j_iret C hr hlk dX3_sheet_19
set_option maxRecDepth 100000 in
set_option maxHeartbeats 4000000 in
theorem c_X3_write (l : Launch) (g : GG) (sz : Nat) (S mm : St) (a1 : Int32) (a2 : Int32) (a3 : Int32) (r : Int32) (S' : St) (hf : X3_write a1 a2 a3 S = some (r, S')) : Met l yX3_write (.code yX3_write cX3_write 4 (some .int) :: ALLW) (rmJ 2 42) (PcJ g sz S mm [.ref (ad g 0), .int a1, .int a2, .int a3]) (QiJ g sz r S' mm) 0 0 (Ag sz) := by
  refine j_met (own := RX3) (by decide) rfl (Nat.le_of_ble_eq_true rfl) rfl ?_
  intro p e s m args below meth c C hr hlk
  unfold X3_write at hf
  refine j_iload_n C dX3_write_0 rfl 1 rfl 1 rfl ?_
  refine j_callSi (As := [.int a1]) (rest := []) C (c_X3_isSheet l g sz S mm a1 _ rfl) (j_cwS C qc_X3_isSheet qm_X3_248 qs_X3_isSheet qn_X3 hd_X3_isSheet ⟨rfl, rfl⟩ ⟨by decide, by decide⟩)  rfl (Nat.le_of_ble_eq_true rfl) dX3_write_1 4 rfl ?_
  refine j_if_ne C dX3_write_4 13 (by decide) 7 rfl (fun c1 => ?_) (fun c1 => ?_)
  · rw [if_neg c1] at hf
    refine j_aload_n C dX3_write_13 rfl 0 rfl 14 rfl ?_
    refine j3_get C 6 (by decide) qf_X3_39 (v := .ref (ad g 25)) rfl dX3_write_14 17 rfl ?_
    refine j_iload_n C dX3_write_17 rfl 1 rfl 18 rfl ?_
    obtain ⟨kv2, hkv2, hf⟩ := bnd hf
    refine j3_sheets C hkv2 dX3_write_18 19 rfl ?_
    refine j3h_get (sht_ok hkv2) C 1 (by decide) qf_X3_260 (v := .int (S kv2 1)) rfl dX3_write_19 22 rfl ?_
    refine j_if_ne C dX3_write_22 31 (by decide) 25 rfl (fun c3 => ?_) (fun c3 => ?_)
    · rw [if_neg c3] at hf
      refine j_iload_n C dX3_write_31 rfl 2 rfl 32 rfl ?_
      refine j_iconst C dX3_write_32 (v := 0) c_iconst_0 33 rfl ?_
      refine j_aload_n C dX3_write_33 rfl 0 rfl 34 rfl ?_
      refine j3_get C 6 (by decide) qf_X3_39 (v := .ref (ad g 25)) rfl dX3_write_34 37 rfl ?_
      refine j_iload_n C dX3_write_37 rfl 1 rfl 38 rfl ?_
      obtain ⟨kv4, hkv4, hf⟩ := bnd hf
      refine j3_sheets C hkv4 dX3_write_38 39 rfl ?_
      refine j3h_get (sht_ok hkv4) C 2 (by decide) qf_X3_257 (v := .int (S kv4 2)) rfl dX3_write_39 42 rfl ?_
      refine j_iconst C dX3_write_42 (v := 1) c_iconst_1 43 rfl ?_
      refine j_isub C dX3_write_43 44 rfl ?_
      refine j_callSi (As := [.int a2, .int 0, .int ((S kv4 2) - 1)]) (rest := []) C (c_X3_within l g sz S mm a2 0 ((S kv4 2) - 1) _ rfl) (j_cwS C qc_X3_within qm_X3_66 qs_X3_within qn_X3 hd_X3_within ⟨rfl, rfl⟩ ⟨by decide, by decide⟩)  rfl (Nat.le_of_ble_eq_true rfl) dX3_write_44 47 rfl ?_
      refine j_if_ne C dX3_write_47 56 (by decide) 50 rfl (fun c5 => ?_) (fun c5 => ?_)
      · rw [if_neg c5] at hf
        refine j_aload_n C dX3_write_56 rfl 0 rfl 57 rfl ?_
        refine j3_get C 6 (by decide) qf_X3_39 (v := .ref (ad g 25)) rfl dX3_write_57 60 rfl ?_
        refine j_iload_n C dX3_write_60 rfl 1 rfl 61 rfl ?_
        obtain ⟨kv6, hkv6, hf⟩ := bnd hf
        refine j3_sheets C hkv6 dX3_write_61 62 rfl ?_
        refine j_iload_n C dX3_write_62 rfl 2 rfl 63 rfl ?_
        refine j_iload_n C dX3_write_63 rfl 3 rfl 64 rfl ?_
        obtain ⟨T7, hT7, hf⟩ := bnd hf
        obtain ⟨S8, hS8, hf⟩ := bnd hf
        refine j_x (put_blk S kv6 2).symm ?_
        refine j_callVv (As := [.int a2, .int a3]) (rest := []) C (c_X0_put l g sz S mm kv6 (sht_ok hkv6) a2 a3 (blk S kv6) _ hT7) (j_cwV C qc_X0_put qm_X3_263 qi_X0_put qs_X0_put qn_X0 hd_X0_put ⟨rfl, rfl⟩ ⟨by decide, by decide⟩) ((rcv_st (sht_ok hkv6)).cell C.2) rfl (Nat.le_of_ble_eq_true rfl) dX3_write_64 67 rfl ?_
        rw [Option.some.inj hS8]
        refine j_iconst C dX3_write_67 (v := 1) c_iconst_1 68 rfl ?_
        obtain ⟨rfl, rfl⟩ := Prod.mk.inj (Option.some.inj hf)
        exact j_iret C hr hlk dX3_write_68
      · rw [if_pos c5] at hf
        refine j_aload_n C dX3_write_50 rfl 0 rfl 51 rfl ?_
        refine j_iconst C dX3_write_51 (v := 0) c_iconst_0 52 rfl ?_
        obtain ⟨⟨r10, S11⟩, hq9, hf⟩ := bnd hf
        dsimp only at hf
        refine j_callVi (As := [.int 0]) (rest := []) C (c_X3_found l g sz S mm  0 _ _ hq9) (j_cwV C qc_X3_found qm_X3_52 qi_X3_found qs_X3_found qn_X3 hd_X3_found ⟨rfl, rfl⟩ ⟨by decide, by decide⟩) (rcv_pl.cell C.2) rfl (Nat.le_of_ble_eq_true rfl) dX3_write_52 55 rfl ?_
        obtain ⟨rfl, rfl⟩ := Prod.mk.inj (Option.some.inj hf)
        exact j_iret C hr hlk dX3_write_55
    · rw [if_pos c3] at hf
      refine j_aload_n C dX3_write_25 rfl 0 rfl 26 rfl ?_
      refine j_iconst C dX3_write_26 (v := 5) c_iconst_5 27 rfl ?_
      obtain ⟨⟨r13, S14⟩, hq12, hf⟩ := bnd hf
      dsimp only at hf
      refine j_callVi (As := [.int 5]) (rest := []) C (c_X3_found l g sz S mm  5 _ _ hq12) (j_cwV C qc_X3_found qm_X3_52 qi_X3_found qs_X3_found qn_X3 hd_X3_found ⟨rfl, rfl⟩ ⟨by decide, by decide⟩) (rcv_pl.cell C.2) rfl (Nat.le_of_ble_eq_true rfl) dX3_write_27 30 rfl ?_
      obtain ⟨rfl, rfl⟩ := Prod.mk.inj (Option.some.inj hf)
      exact j_iret C hr hlk dX3_write_30
  · rw [if_pos c1] at hf
    refine j_aload_n C dX3_write_7 rfl 0 rfl 8 rfl ?_
    refine j_iconst C dX3_write_8 (v := 0) c_iconst_0 9 rfl ?_
    obtain ⟨⟨r16, S17⟩, hq15, hf⟩ := bnd hf
    dsimp only at hf
    refine j_callVi (As := [.int 0]) (rest := []) C (c_X3_found l g sz S mm  0 _ _ hq15) (j_cwV C qc_X3_found qm_X3_52 qi_X3_found qs_X3_found qn_X3 hd_X3_found ⟨rfl, rfl⟩ ⟨by decide, by decide⟩) (rcv_pl.cell C.2) rfl (Nat.le_of_ble_eq_true rfl) dX3_write_9 12 rfl ?_
    obtain ⟨rfl, rfl⟩ := Prod.mk.inj (Option.some.inj hf)
    exact j_iret C hr hlk dX3_write_12
set_option maxRecDepth 100000 in
set_option maxHeartbeats 4000000 in
theorem c_X3_copy (l : Launch) (g : GG) (sz : Nat) (S mm : St) (a1 : Int32) (a2 : Int32) (a3 : Int32) (a4 : Int32) (a5 : Int32) (r : Int32) (S' : St) (hf : X3_copy a1 a2 a3 a4 a5 S = some (r, S')) : Met l yX3_copy (.code yX3_copy cX3_copy 8 (some .int) :: ALLW) (rmJ 2 42) (PcJ g sz S mm [.ref (ad g 0), .int a1, .int a2, .int a3, .int a4, .int a5]) (QiJ g sz r S' mm) 0 0 (Ag sz) := by
  refine j_met (own := RX3) (by decide) rfl (Nat.le_of_ble_eq_true rfl) rfl ?_
  intro p e s m args below meth c C hr hlk
  unfold X3_copy at hf
  refine j_iload_n C dX3_copy_0 rfl 1 rfl 1 rfl ?_
  refine j_callSi (As := [.int a1]) (rest := []) C (c_X3_isSheet l g sz S mm a1 _ rfl) (j_cwS C qc_X3_isSheet qm_X3_248 qs_X3_isSheet qn_X3 hd_X3_isSheet ⟨rfl, rfl⟩ ⟨by decide, by decide⟩)  rfl (Nat.le_of_ble_eq_true rfl) dX3_copy_1 4 rfl ?_
  refine j_if_eq C dX3_copy_4 14 (by decide) 7 rfl (fun c1 => ?_) (fun c1 => ?_)
  · rw [if_pos c1] at hf
    refine j_aload_n C dX3_copy_14 rfl 0 rfl 15 rfl ?_
    refine j_iconst C dX3_copy_15 (v := 0) c_iconst_0 16 rfl ?_
    obtain ⟨⟨r3, S4⟩, hq2, hf⟩ := bnd hf
    dsimp only at hf
    refine j_callVi (As := [.int 0]) (rest := []) C (c_X3_found l g sz S mm  0 _ _ hq2) (j_cwV C qc_X3_found qm_X3_52 qi_X3_found qs_X3_found qn_X3 hd_X3_found ⟨rfl, rfl⟩ ⟨by decide, by decide⟩) (rcv_pl.cell C.2) rfl (Nat.le_of_ble_eq_true rfl) dX3_copy_16 19 rfl ?_
    obtain ⟨rfl, rfl⟩ := Prod.mk.inj (Option.some.inj hf)
    exact j_iret C hr hlk dX3_copy_19
  · rw [if_neg c1] at hf
    refine j_iload_n C dX3_copy_7 rfl 3 rfl 8 rfl ?_
    refine j_callSi (As := [.int a3]) (rest := []) C (c_X3_isSheet l g sz S mm a3 _ rfl) (j_cwS C qc_X3_isSheet qm_X3_248 qs_X3_isSheet qn_X3 hd_X3_isSheet ⟨rfl, rfl⟩ ⟨by decide, by decide⟩)  rfl (Nat.le_of_ble_eq_true rfl) dX3_copy_8 11 rfl ?_
    refine j_if_ne C dX3_copy_11 20 (by decide) 14 rfl (fun c5 => ?_) (fun c5 => ?_)
    · rw [if_neg c5] at hf
      refine j_aload_n C dX3_copy_20 rfl 0 rfl 21 rfl ?_
      refine j3_get C 6 (by decide) qf_X3_39 (v := .ref (ad g 25)) rfl dX3_copy_21 24 rfl ?_
      refine j_iload_n C dX3_copy_24 rfl 1 rfl 25 rfl ?_
      obtain ⟨kv6, hkv6, hf⟩ := bnd hf
      refine j3_sheets C hkv6 dX3_copy_25 26 rfl ?_
      refine j_astore (lv2 := [(6, .ref (ad g kv6)), (0, .ref (ad g 0)), (1, .int a1), (2, .int a2), (3, .int a3), (4, .int a4), (5, .int a5)]) C dX3_copy_26 (by decide) rfl 28 rfl ?_
      refine j_aload_n C dX3_copy_28 rfl 1 rfl 29 rfl ?_
      refine j3_get C 6 (by decide) qf_X3_39 (v := .ref (ad g 25)) rfl dX3_copy_29 32 rfl ?_
      refine j_iload_n C dX3_copy_32 rfl 4 rfl 33 rfl ?_
      obtain ⟨kv7, hkv7, hf⟩ := bnd hf
      refine j3_sheets C hkv7 dX3_copy_33 34 rfl ?_
      refine j_astore (lv2 := [(7, .ref (ad g kv7)), (6, .ref (ad g kv6)), (0, .ref (ad g 0)), (1, .int a1), (2, .int a2), (3, .int a3), (4, .int a4), (5, .int a5)]) C dX3_copy_34 (by decide) rfl 36 rfl ?_
      refine j_aload C dX3_copy_36 1 rfl 38 rfl ?_
      refine j3h_get (sht_ok hkv6) C 1 (by decide) qf_X3_260 (v := .int (S kv6 1)) rfl dX3_copy_38 41 rfl ?_
      refine j_if_eq C dX3_copy_41 52 (by decide) 44 rfl (fun c8 => ?_) (fun c8 => ?_)
      · rw [if_pos c8] at hf
        refine j_aload_n C dX3_copy_52 rfl 2 rfl 53 rfl ?_
        refine j_iconst C dX3_copy_53 (v := 5) c_iconst_5 54 rfl ?_
        obtain ⟨⟨r10, S11⟩, hq9, hf⟩ := bnd hf
        dsimp only at hf
        refine j_callVi (As := [.int 5]) (rest := []) C (c_X3_found l g sz S mm  5 _ _ hq9) (j_cwV C qc_X3_found qm_X3_52 qi_X3_found qs_X3_found qn_X3 hd_X3_found ⟨rfl, rfl⟩ ⟨by decide, by decide⟩) (rcv_pl.cell C.2) rfl (Nat.le_of_ble_eq_true rfl) dX3_copy_54 57 rfl ?_
        obtain ⟨rfl, rfl⟩ := Prod.mk.inj (Option.some.inj hf)
        exact j_iret C hr hlk dX3_copy_57
      · rw [if_neg c8] at hf
        refine j_aload C dX3_copy_44 0 rfl 46 rfl ?_
        refine j3h_get (sht_ok hkv7) C 1 (by decide) qf_X3_260 (v := .int (S kv7 1)) rfl dX3_copy_46 49 rfl ?_
        refine j_if_ne C dX3_copy_49 58 (by decide) 52 rfl (fun c12 => ?_) (fun c12 => ?_)
        · rw [if_neg c12] at hf
          refine j_aload C dX3_copy_58 1 rfl 60 rfl ?_
          refine j3h_get (sht_ok hkv6) C 1 (by decide) qf_X3_260 (v := .int (S kv6 1)) rfl dX3_copy_60 63 rfl ?_
          refine j_aload C dX3_copy_63 0 rfl 65 rfl ?_
          refine j3h_get (sht_ok hkv7) C 1 (by decide) qf_X3_260 (v := .int (S kv7 1)) rfl dX3_copy_65 68 rfl ?_
          refine j_icmp_eq C dX3_copy_68 77 (by decide) 71 rfl (fun c13 => ?_) (fun c13 => ?_)
          · rw [if_pos c13] at hf
            refine j_iload C dX3_copy_77 7 rfl 79 rfl ?_
            refine j_if_lt C dX3_copy_79 105 (by decide) 82 rfl (fun c14 => ?_) (fun c14 => ?_)
            · rw [if_pos c14] at hf
              refine j_aload_n C dX3_copy_105 rfl 2 rfl 106 rfl ?_
              refine j_iconst C dX3_copy_106 (v := 0) c_iconst_0 107 rfl ?_
              obtain ⟨⟨r16, S17⟩, hq15, hf⟩ := bnd hf
              dsimp only at hf
              refine j_callVi (As := [.int 0]) (rest := []) C (c_X3_found l g sz S mm  0 _ _ hq15) (j_cwV C qc_X3_found qm_X3_52 qi_X3_found qs_X3_found qn_X3 hd_X3_found ⟨rfl, rfl⟩ ⟨by decide, by decide⟩) (rcv_pl.cell C.2) rfl (Nat.le_of_ble_eq_true rfl) dX3_copy_107 110 rfl ?_
              obtain ⟨rfl, rfl⟩ := Prod.mk.inj (Option.some.inj hf)
              exact j_iret C hr hlk dX3_copy_110
            · rw [if_neg c14] at hf
              refine j_aload C dX3_copy_82 1 rfl 84 rfl ?_
              refine j_iload_n C dX3_copy_84 rfl 4 rfl 85 rfl ?_
              refine j_iload C dX3_copy_85 7 rfl 87 rfl ?_
              refine j_x (put_blk S kv6 2).symm ?_
              refine j_callVi (As := [.int a2, .int a5]) (rest := []) C (c_X0_hasFrom l g sz S mm kv6 (sht_ok hkv6) a2 a5 (blk S kv6) _ rfl) (j_cwV C qc_X0_hasFrom qm_X3_264 qi_X0_hasFrom qs_X0_hasFrom qn_X0 hd_X0_hasFrom ⟨rfl, rfl⟩ ⟨by decide, by decide⟩) ((rcv_st (sht_ok hkv6)).cell C.2) rfl (Nat.le_of_ble_eq_true rfl) dX3_copy_87 90 rfl ?_
              refine j_x (put_blk S kv6 2) ?_
              refine j_if_eq C dX3_copy_90 105 (by decide) 93 rfl (fun c18 => ?_) (fun c18 => ?_)
              · rw [if_pos c18] at hf
                refine j_aload_n C dX3_copy_105 rfl 2 rfl 106 rfl ?_
                refine j_iconst C dX3_copy_106 (v := 0) c_iconst_0 107 rfl ?_
                obtain ⟨⟨r20, S21⟩, hq19, hf⟩ := bnd hf
                dsimp only at hf
                refine j_callVi (As := [.int 0]) (rest := []) C (c_X3_found l g sz S mm  0 _ _ hq19) (j_cwV C qc_X3_found qm_X3_52 qi_X3_found qs_X3_found qn_X3 hd_X3_found ⟨rfl, rfl⟩ ⟨by decide, by decide⟩) (rcv_pl.cell C.2) rfl (Nat.le_of_ble_eq_true rfl) dX3_copy_107 110 rfl ?_
                obtain ⟨rfl, rfl⟩ := Prod.mk.inj (Option.some.inj hf)
                exact j_iret C hr hlk dX3_copy_110
              · rw [if_neg c18] at hf
                refine j_aload C dX3_copy_93 0 rfl 95 rfl ?_
                refine j_iload C dX3_copy_95 6 rfl 97 rfl ?_
                refine j_iload C dX3_copy_97 7 rfl 99 rfl ?_
                refine j_x (put_blk S kv7 2).symm ?_
                refine j_callVi (As := [.int a4, .int a5]) (rest := []) C (c_X0_hasFrom l g sz S mm kv7 (sht_ok hkv7) a4 a5 (blk S kv7) _ rfl) (j_cwV C qc_X0_hasFrom qm_X3_264 qi_X0_hasFrom qs_X0_hasFrom qn_X0 hd_X0_hasFrom ⟨rfl, rfl⟩ ⟨by decide, by decide⟩) ((rcv_st (sht_ok hkv7)).cell C.2) rfl (Nat.le_of_ble_eq_true rfl) dX3_copy_99 102 rfl ?_
                refine j_x (put_blk S kv7 2) ?_
                refine j_if_ne C dX3_copy_102 111 (by decide) 105 rfl (fun c22 => ?_) (fun c22 => ?_)
                · rw [if_neg c22] at hf
                  refine j_aload C dX3_copy_111 1 rfl 113 rfl ?_
                  refine j3h_get (sht_ok hkv6) C 0 (by decide) qf_X3_267 (v := .ref (ad g (kv6 + 1))) rfl dX3_copy_113 116 rfl ?_
                  refine j_iload_n C dX3_copy_116 rfl 4 rfl 117 rfl ?_
                  refine j_aload C dX3_copy_117 0 rfl 119 rfl ?_
                  refine j3h_get (sht_ok hkv7) C 0 (by decide) qf_X3_267 (v := .ref (ad g (kv7 + 1))) rfl dX3_copy_119 122 rfl ?_
                  refine j_iload C dX3_copy_122 6 rfl 124 rfl ?_
                  refine j_iload C dX3_copy_124 7 rfl 126 rfl ?_
                  obtain ⟨S23, hS23, hf⟩ := bnd hf
                  refine j3_acopy (sht_ok hkv6) (sht_ok hkv7) C qm_X3_270 qn_arraycopyName qs_arraycopyName qn_J10 hS23 (by decide) (by decide) dX3_copy_126 129 rfl ?_
                  refine j_iload C dX3_copy_129 7 rfl 131 rfl ?_
                  obtain ⟨rfl, rfl⟩ := Prod.mk.inj (Option.some.inj hf)
                  exact j_iret C hr hlk dX3_copy_131
                · rw [if_pos c22] at hf
                  refine j_aload_n C dX3_copy_105 rfl 2 rfl 106 rfl ?_
                  refine j_iconst C dX3_copy_106 (v := 0) c_iconst_0 107 rfl ?_
                  obtain ⟨⟨r25, S26⟩, hq24, hf⟩ := bnd hf
                  dsimp only at hf
                  refine j_callVi (As := [.int 0]) (rest := []) C (c_X3_found l g sz S mm  0 _ _ hq24) (j_cwV C qc_X3_found qm_X3_52 qi_X3_found qs_X3_found qn_X3 hd_X3_found ⟨rfl, rfl⟩ ⟨by decide, by decide⟩) (rcv_pl.cell C.2) rfl (Nat.le_of_ble_eq_true rfl) dX3_copy_107 110 rfl ?_
                  obtain ⟨rfl, rfl⟩ := Prod.mk.inj (Option.some.inj hf)
                  exact j_iret C hr hlk dX3_copy_110
          · rw [if_neg c13] at hf
            refine j_aload_n C dX3_copy_71 rfl 2 rfl 72 rfl ?_
            refine j_iconst C dX3_copy_72 (v := 2) c_iconst_2 73 rfl ?_
            obtain ⟨⟨r28, S29⟩, hq27, hf⟩ := bnd hf
            dsimp only at hf
            refine j_callVi (As := [.int 2]) (rest := []) C (c_X3_found l g sz S mm  2 _ _ hq27) (j_cwV C qc_X3_found qm_X3_52 qi_X3_found qs_X3_found qn_X3 hd_X3_found ⟨rfl, rfl⟩ ⟨by decide, by decide⟩) (rcv_pl.cell C.2) rfl (Nat.le_of_ble_eq_true rfl) dX3_copy_73 76 rfl ?_
            obtain ⟨rfl, rfl⟩ := Prod.mk.inj (Option.some.inj hf)
            exact j_iret C hr hlk dX3_copy_76
        · rw [if_pos c12] at hf
          refine j_aload_n C dX3_copy_52 rfl 2 rfl 53 rfl ?_
          refine j_iconst C dX3_copy_53 (v := 5) c_iconst_5 54 rfl ?_
          obtain ⟨⟨r31, S32⟩, hq30, hf⟩ := bnd hf
          dsimp only at hf
          refine j_callVi (As := [.int 5]) (rest := []) C (c_X3_found l g sz S mm  5 _ _ hq30) (j_cwV C qc_X3_found qm_X3_52 qi_X3_found qs_X3_found qn_X3 hd_X3_found ⟨rfl, rfl⟩ ⟨by decide, by decide⟩) (rcv_pl.cell C.2) rfl (Nat.le_of_ble_eq_true rfl) dX3_copy_54 57 rfl ?_
          obtain ⟨rfl, rfl⟩ := Prod.mk.inj (Option.some.inj hf)
          exact j_iret C hr hlk dX3_copy_57
    · rw [if_pos c5] at hf
      refine j_aload_n C dX3_copy_14 rfl 0 rfl 15 rfl ?_
      refine j_iconst C dX3_copy_15 (v := 0) c_iconst_0 16 rfl ?_
      obtain ⟨⟨r34, S35⟩, hq33, hf⟩ := bnd hf
      dsimp only at hf
      refine j_callVi (As := [.int 0]) (rest := []) C (c_X3_found l g sz S mm  0 _ _ hq33) (j_cwV C qc_X3_found qm_X3_52 qi_X3_found qs_X3_found qn_X3 hd_X3_found ⟨rfl, rfl⟩ ⟨by decide, by decide⟩) (rcv_pl.cell C.2) rfl (Nat.le_of_ble_eq_true rfl) dX3_copy_16 19 rfl ?_
      obtain ⟨rfl, rfl⟩ := Prod.mk.inj (Option.some.inj hf)
      exact j_iret C hr hlk dX3_copy_19
set_option maxRecDepth 100000 in
set_option maxHeartbeats 4000000 in
theorem c_X3_load (l : Launch) (g : GG) (sz : Nat) (S mm : St) (a1 : Int32) (r : Int32) (S' : St) (hf : X3_load a1 S = some (r, S')) : Met l yX3_load (.code yX3_load cX3_load 6 (some .int) :: ALLW) (rmJ 5 116) (PcJ g sz S mm [.ref (ad g 0), .int a1]) (QiJ g sz r S' mm) 0 0 (Ag sz) := by
  refine j_met (own := RX3) (by decide) rfl (Nat.le_of_ble_eq_true rfl) rfl ?_
  intro p e s m args below meth c C hr hlk
  have hL35 : ∀ (n : Nat), ∀ (kb2 : Nat) (hkb2 : isSt kb2 = true) (b3 : Int32) (S : St), X3_load_L35 n kb2 b3 S = some (r, S') → Wj p l e (rmJ 5 116) s m args below meth c (MQ below (QiJ g sz r S' mm) args s 0 0 (Ag sz)) 6 g sz S mm 35 [(0, .ref (ad g 0)), (2, .ref (ad g kb2)), (3, .int b3)] [] := by
    intro  n
    induction n with
    | zero =>
      intro kb2 hkb2 b3 S hf
      rw [X3_load_L35] at hf
      cases hf
    | succ n ih =>
      intro kb2 hkb2 b3 S hf
      rw [X3_load_L35] at hf
      refine j_iload_n C dX3_load_35 rfl 2 rfl 36 rfl ?_
      refine j_aload_n C dX3_load_36 rfl 1 rfl 37 rfl ?_
      refine j3h_get hkb2 C 2 (by decide) qf_X3_257 (v := .int (S kb2 2)) rfl dX3_load_37 40 rfl ?_
      refine j_icmp_ge C dX3_load_40 101 (by decide) 43 rfl (fun c4 => ?_) (fun c4 => ?_)
      · rw [if_pos c4] at hf
        refine j_iload_n C dX3_load_101 rfl 2 rfl 102 rfl ?_
        obtain ⟨rfl, rfl⟩ := Prod.mk.inj (Option.some.inj hf)
        exact j_iret C hr hlk dX3_load_102
      · rw [if_neg c4] at hf
        refine j_aload_n C dX3_load_43 rfl 1 rfl 44 rfl ?_
        refine j3h_get hkb2 C 0 (by decide) qf_X3_267 (v := .ref (ad g (kb2 + 1))) rfl dX3_load_44 47 rfl ?_
        refine j_iload_n C dX3_load_47 rfl 2 rfl 48 rfl ?_
        obtain ⟨v5, hv5, hf⟩ := bnd hf
        refine j3h_ald hkb2 C hv5 dX3_load_48 49 rfl ?_
        refine j_istore (lv2 := [(4, .int v5), (0, .ref (ad g 0)), (2, .ref (ad g kb2)), (3, .int b3)]) C dX3_load_49 (by decide) rfl 51 rfl ?_
        refine j_aload_n C dX3_load_51 rfl 1 rfl 52 rfl ?_
        refine j3_get C 0 (by decide) qf_X3_12 (v := .ref (ad g 1)) rfl dX3_load_52 55 rfl ?_
        obtain ⟨r6, hr6, hf⟩ := bnd hf
        refine j_x (put_blk S 1 7).symm ?_
        refine j_callVi (As := []) (rest := []) C (c_X1_leastInHand l g sz S mm 1 rfl  (blk S 1) _ hr6) (j_cwV C qc_X1_leastInHand qm_X3_214 qi_X1_leastInHand qs_X1_leastInHand qn_X1 hd_X1_leastInHand ⟨rfl, rfl⟩ ⟨by decide, by decide⟩) ((rcv_sh rfl).cell C.2) rfl (Nat.le_of_ble_eq_true rfl) dX3_load_55 58 rfl ?_
        refine j_x (put_blk S 1 7) ?_
        refine j_istore (lv2 := [(5, .int r6), (4, .int v5), (0, .ref (ad g 0)), (2, .ref (ad g kb2)), (3, .int b3)]) C dX3_load_58 (by decide) rfl 60 rfl ?_
        refine j_iload C dX3_load_60 1 rfl 62 rfl ?_
        refine j_callSi (As := [.int v5]) (rest := []) C (c_X3_isColumn l g sz S mm v5 _ rfl) (j_cwS C qc_X3_isColumn qm_X3_121 qs_X3_isColumn qn_X3 hd_X3_isColumn ⟨rfl, rfl⟩ ⟨by decide, by decide⟩)  rfl (Nat.le_of_ble_eq_true rfl) dX3_load_62 65 rfl ?_
        refine j_if_eq C dX3_load_65 101 (by decide) 68 rfl (fun c7 => ?_) (fun c7 => ?_)
        · rw [if_pos c7] at hf
          refine j_iload_n C dX3_load_101 rfl 4 rfl 102 rfl ?_
          obtain ⟨rfl, rfl⟩ := Prod.mk.inj (Option.some.inj hf)
          exact j_iret C hr hlk dX3_load_102
        · rw [if_neg c7] at hf
          refine j_iload C dX3_load_68 0 rfl 70 rfl ?_
          refine j_if_lt C dX3_load_70 101 (by decide) 73 rfl (fun c8 => ?_) (fun c8 => ?_)
          · rw [if_pos c8] at hf
            refine j_iload_n C dX3_load_101 rfl 4 rfl 102 rfl ?_
            obtain ⟨rfl, rfl⟩ := Prod.mk.inj (Option.some.inj hf)
            exact j_iret C hr hlk dX3_load_102
          · rw [if_neg c8] at hf
            refine j_aload_n C dX3_load_73 rfl 2 rfl 74 rfl ?_
            refine j_iconst C dX3_load_74 (v := 1) c_iconst_1 75 rfl ?_
            refine j_callVi (As := [.int 1]) (rest := []) C (c_X3_passesEnd l g sz S mm  1 _ rfl) (j_cwV C qc_X3_passesEnd qm_X3_124 qi_X3_passesEnd qs_X3_passesEnd qn_X3 hd_X3_passesEnd ⟨rfl, rfl⟩ ⟨by decide, by decide⟩) (rcv_pl.cell C.2) rfl (Nat.le_of_ble_eq_true rfl) dX3_load_75 78 rfl ?_
            refine j_if_eq C dX3_load_78 84 (by decide) 81 rfl (fun c9 => ?_) (fun c9 => ?_)
            · rw [if_pos c9] at hf
              refine j_aload_n C dX3_load_84 rfl 2 rfl 85 rfl ?_
              refine j3_get C 0 (by decide) qf_X3_12 (v := .ref (ad g 1)) rfl dX3_load_85 88 rfl ?_
              refine j_iload C dX3_load_88 0 rfl 90 rfl ?_
              refine j_iload C dX3_load_90 1 rfl 92 rfl ?_
              obtain ⟨T10, hT10, hf⟩ := bnd hf
              obtain ⟨S11, hS11, hf⟩ := bnd hf
              refine j_x (put_blk S 1 7).symm ?_
              refine j_callVv (As := [.int r6, .int v5]) (rest := []) C (c_X1_release l g sz S mm 1 rfl r6 v5 (blk S 1) _ hT10) (j_cwV C qc_X1_release qm_X3_131 qi_X1_release qs_X1_release qn_X1 hd_X1_release ⟨rfl, rfl⟩ ⟨by decide, by decide⟩) ((rcv_sh rfl).cell C.2) rfl (Nat.le_of_ble_eq_true rfl) dX3_load_92 95 rfl ?_
              rw [Option.some.inj hS11]
              refine j_iinc (lv2 := [(3, .int (b3 + 1)), (5, .int r6), (4, .int v5), (0, .ref (ad g 0)), (2, .ref (ad g kb2))]) C dX3_load_95 (k := 4) rfl (congrArg (HAdd.hAdd b3) c_oi_1) (by decide) rfl 98 rfl ?_
              refine j_goto C dX3_load_98 35 (by decide) ?_
              refine j_sub [3, 4, 0] rfl ?_
              exact ih kb2 hkb2 (b3 + 1) S11 hf
            · rw [if_neg c9] at hf
              refine j_goto C dX3_load_81 101 (by decide) ?_
              refine j_iload_n C dX3_load_101 rfl 4 rfl 102 rfl ?_
              obtain ⟨rfl, rfl⟩ := Prod.mk.inj (Option.some.inj hf)
              exact j_iret C hr hlk dX3_load_102
  unfold X3_load at hf
  refine j_iload_n C dX3_load_0 rfl 1 rfl 1 rfl ?_
  refine j_callSi (As := [.int a1]) (rest := []) C (c_X3_isSheet l g sz S mm a1 _ rfl) (j_cwS C qc_X3_isSheet qm_X3_248 qs_X3_isSheet qn_X3 hd_X3_isSheet ⟨rfl, rfl⟩ ⟨by decide, by decide⟩)  rfl (Nat.le_of_ble_eq_true rfl) dX3_load_1 4 rfl ?_
  refine j_if_ne C dX3_load_4 13 (by decide) 7 rfl (fun c1 => ?_) (fun c1 => ?_)
  · rw [if_neg c1] at hf
    refine j_aload_n C dX3_load_13 rfl 0 rfl 14 rfl ?_
    refine j3_get C 6 (by decide) qf_X3_39 (v := .ref (ad g 25)) rfl dX3_load_14 17 rfl ?_
    refine j_iload_n C dX3_load_17 rfl 1 rfl 18 rfl ?_
    obtain ⟨kv2, hkv2, hf⟩ := bnd hf
    refine j3_sheets C hkv2 dX3_load_18 19 rfl ?_
    refine j_astore_n (lv2 := [(2, .ref (ad g kv2)), (0, .ref (ad g 0)), (1, .int a1)]) C dX3_load_19 rfl (by decide) rfl 20 rfl ?_
    refine j_aload_n C dX3_load_20 rfl 0 rfl 21 rfl ?_
    refine j3h_get (sht_ok hkv2) C 1 (by decide) qf_X3_260 (v := .int (S kv2 1)) rfl dX3_load_21 24 rfl ?_
    refine j_if_ne C dX3_load_24 33 (by decide) 27 rfl (fun c3 => ?_) (fun c3 => ?_)
    · rw [if_neg c3] at hf
      refine j_iconst C dX3_load_33 (v := 0) c_iconst_0 34 rfl ?_
      refine j_istore_n (lv2 := [(3, .int 0), (2, .ref (ad g kv2)), (0, .ref (ad g 0)), (1, .int a1)]) C dX3_load_34 rfl (by decide) rfl 35 rfl ?_
      refine j_sub [2, 1, 0] rfl ?_
      exact hL35 FU kv2 (sht_ok hkv2) 0 S hf
    · rw [if_pos c3] at hf
      refine j_aload_n C dX3_load_27 rfl 1 rfl 28 rfl ?_
      refine j_iconst C dX3_load_28 (v := 5) c_iconst_5 29 rfl ?_
      obtain ⟨⟨r13, S14⟩, hq12, hf⟩ := bnd hf
      dsimp only at hf
      refine j_callVi (As := [.int 5]) (rest := []) C (c_X3_found l g sz S mm  5 _ _ hq12) (j_cwV C qc_X3_found qm_X3_52 qi_X3_found qs_X3_found qn_X3 hd_X3_found ⟨rfl, rfl⟩ ⟨by decide, by decide⟩) (rcv_pl.cell C.2) rfl (Nat.le_of_ble_eq_true rfl) dX3_load_29 32 rfl ?_
      obtain ⟨rfl, rfl⟩ := Prod.mk.inj (Option.some.inj hf)
      exact j_iret C hr hlk dX3_load_32
  · rw [if_pos c1] at hf
    refine j_aload_n C dX3_load_7 rfl 0 rfl 8 rfl ?_
    refine j_iconst C dX3_load_8 (v := 0) c_iconst_0 9 rfl ?_
    obtain ⟨⟨r16, S17⟩, hq15, hf⟩ := bnd hf
    dsimp only at hf
    refine j_callVi (As := [.int 0]) (rest := []) C (c_X3_found l g sz S mm  0 _ _ hq15) (j_cwV C qc_X3_found qm_X3_52 qi_X3_found qs_X3_found qn_X3 hd_X3_found ⟨rfl, rfl⟩ ⟨by decide, by decide⟩) (rcv_pl.cell C.2) rfl (Nat.le_of_ble_eq_true rfl) dX3_load_9 12 rfl ?_
    obtain ⟨rfl, rfl⟩ := Prod.mk.inj (Option.some.inj hf)
    exact j_iret C hr hlk dX3_load_12
set_option maxRecDepth 100000 in
set_option maxHeartbeats 4000000 in
theorem c_X3_judge (l : Launch) (g : GG) (sz : Nat) (S mm : St) (a1 : Int32) (r : Int32) (S' : St) (hf : X3_judge a1 S = some (r, S')) : Met l yX3_judge (.code yX3_judge cX3_judge 5 (some .int) :: ALLW) (rmJ 5 116) (PcJ g sz S mm [.ref (ad g 0), .int a1]) (QiJ g sz r S' mm) 0 0 (Ag sz) := by
  refine j_met (own := RX3) (by decide) rfl (Nat.le_of_ble_eq_true rfl) rfl ?_
  intro p e s m args below meth c C hr hlk
  have hL63 : ∀ (n : Nat), ∀ (kb2 : Nat) (hkb2 : isSt kb2 = true) (b3 : Int32) (S : St), X3_judge_L63 n kb2 b3 S = some (r, S') → Wj p l e (rmJ 5 116) s m args below meth c (MQ below (QiJ g sz r S' mm) args s 0 0 (Ag sz)) 5 g sz S mm 63 [(0, .ref (ad g 0)), (2, .ref (ad g kb2)), (3, .int b3)] [] := by
    intro  n
    induction n with
    | zero =>
      intro kb2 hkb2 b3 S hf
      rw [X3_judge_L63] at hf
      cases hf
    | succ n ih =>
      intro kb2 hkb2 b3 S hf
      rw [X3_judge_L63] at hf
      refine j_iload_n C dX3_judge_63 rfl 2 rfl 64 rfl ?_
      refine j_aload_n C dX3_judge_64 rfl 1 rfl 65 rfl ?_
      refine j3h_get hkb2 C 2 (by decide) qf_X3_257 (v := .int (S kb2 2)) rfl dX3_judge_65 68 rfl ?_
      refine j_icmp_ge C dX3_judge_68 117 (by decide) 71 rfl (fun c6 => ?_) (fun c6 => ?_)
      · rw [if_pos c6] at hf
        refine j_iconst C dX3_judge_117 (v := 0) c_iconst_0 118 rfl ?_
        obtain ⟨rfl, rfl⟩ := Prod.mk.inj (Option.some.inj hf)
        exact j_iret C hr hlk dX3_judge_118
      · rw [if_neg c6] at hf
        refine j_aload_n C dX3_judge_71 rfl 0 rfl 72 rfl ?_
        refine j3_get C 3 (by decide) qf_X3_23 (v := .ref (ad g 15)) rfl dX3_judge_72 75 rfl ?_
        obtain ⟨r7, hr7, hf⟩ := bnd hf
        refine j_x (put_blk S 15 7).symm ?_
        refine j_callVi (As := []) (rest := []) C (c_X1_goneOver l g sz S mm 15 rfl  (blk S 15) _ hr7) (j_cwV C qc_X1_goneOver qm_X3_134 qi_X1_goneOver qs_X1_goneOver qn_X1 hd_X1_goneOver ⟨rfl, rfl⟩ ⟨by decide, by decide⟩) ((rcv_sh rfl).cell C.2) rfl (Nat.le_of_ble_eq_true rfl) dX3_judge_75 78 rfl ?_
        refine j_x (put_blk S 15 7) ?_
        refine j_istore (lv2 := [(4, .int r7), (0, .ref (ad g 0)), (2, .ref (ad g kb2)), (3, .int b3)]) C dX3_judge_78 (by decide) rfl 80 rfl ?_
        refine j_aload_n C dX3_judge_80 rfl 1 rfl 81 rfl ?_
        refine j3_get C 3 (by decide) qf_X3_23 (v := .ref (ad g 15)) rfl dX3_judge_81 84 rfl ?_
        refine j_iconst C dX3_judge_84 (v := 1) c_iconst_1 85 rfl ?_
        obtain ⟨T8, hT8, hf⟩ := bnd hf
        obtain ⟨S9, hS9, hf⟩ := bnd hf
        refine j_x (put_blk S 15 7).symm ?_
        refine j_callVv (As := [.int 1]) (rest := []) C (c_X1_advance l g sz S mm 15 rfl 1 (blk S 15) _ hT8) (j_cwV C qc_X1_advance qm_X3_137 qi_X1_advance qs_X1_advance qn_X1 hd_X1_advance ⟨rfl, rfl⟩ ⟨by decide, by decide⟩) ((rcv_sh rfl).cell C.2) rfl (Nat.le_of_ble_eq_true rfl) dX3_judge_85 88 rfl ?_
        rw [Option.some.inj hS9]
        refine j_aload_n C dX3_judge_88 rfl 1 rfl 89 rfl ?_
        refine j3_get C 3 (by decide) qf_X3_23 (v := .ref (ad g 15)) rfl dX3_judge_89 92 rfl ?_
        obtain ⟨r10, hr10, hf⟩ := bnd hf
        refine j_x (put_blk S9 15 7).symm ?_
        refine j_callVi (As := []) (rest := []) C (c_X1_goneOver l g sz S9 mm 15 rfl  (blk S9 15) _ hr10) (j_cwV C qc_X1_goneOver qm_X3_134 qi_X1_goneOver qs_X1_goneOver qn_X1 hd_X1_goneOver ⟨rfl, rfl⟩ ⟨by decide, by decide⟩) ((rcv_sh rfl).cell C.2) rfl (Nat.le_of_ble_eq_true rfl) dX3_judge_92 95 rfl ?_
        refine j_x (put_blk S9 15 7) ?_
        refine j_iload C dX3_judge_95 0 rfl 97 rfl ?_
        refine j_isub C dX3_judge_97 98 rfl ?_
        refine j_aload_n C dX3_judge_98 rfl 2 rfl 99 rfl ?_
        refine j3h_get hkb2 C 0 (by decide) qf_X3_267 (v := .ref (ad g (kb2 + 1))) rfl dX3_judge_99 102 rfl ?_
        refine j_iload_n C dX3_judge_102 rfl 3 rfl 103 rfl ?_
        obtain ⟨v11, hv11, hf⟩ := bnd hf
        refine j3h_ald hkb2 C hv11 dX3_judge_103 104 rfl ?_
        refine j_icmp_eq C dX3_judge_104 111 (by decide) 107 rfl (fun c12 => ?_) (fun c12 => ?_)
        · rw [if_pos c12] at hf
          refine j_iinc (lv2 := [(3, .int (b3 + 1)), (4, .int r7), (0, .ref (ad g 0)), (2, .ref (ad g kb2))]) C dX3_judge_111 (k := 3) rfl (congrArg (HAdd.hAdd b3) c_oi_1) (by decide) rfl 114 rfl ?_
          refine j_goto C dX3_judge_114 63 (by decide) ?_
          refine j_sub [2, 3, 0] rfl ?_
          exact ih kb2 hkb2 (b3 + 1) S9 hf
        · rw [if_neg c12] at hf
          refine j_iconst C dX3_judge_107 (v := 1) c_iconst_1 108 rfl ?_
          refine j_iload_n C dX3_judge_108 rfl 3 rfl 109 rfl ?_
          refine j_iadd C dX3_judge_109 110 rfl ?_
          obtain ⟨rfl, rfl⟩ := Prod.mk.inj (Option.some.inj hf)
          exact j_iret C hr hlk dX3_judge_110
  unfold X3_judge at hf
  refine j_iload_n C dX3_judge_0 rfl 1 rfl 1 rfl ?_
  refine j_callSi (As := [.int a1]) (rest := []) C (c_X3_isSheet l g sz S mm a1 _ rfl) (j_cwS C qc_X3_isSheet qm_X3_248 qs_X3_isSheet qn_X3 hd_X3_isSheet ⟨rfl, rfl⟩ ⟨by decide, by decide⟩)  rfl (Nat.le_of_ble_eq_true rfl) dX3_judge_1 4 rfl ?_
  refine j_if_ne C dX3_judge_4 13 (by decide) 7 rfl (fun c1 => ?_) (fun c1 => ?_)
  · rw [if_neg c1] at hf
    refine j_aload_n C dX3_judge_13 rfl 0 rfl 14 rfl ?_
    refine j3_get C 6 (by decide) qf_X3_39 (v := .ref (ad g 25)) rfl dX3_judge_14 17 rfl ?_
    refine j_iload_n C dX3_judge_17 rfl 1 rfl 18 rfl ?_
    obtain ⟨kv2, hkv2, hf⟩ := bnd hf
    refine j3_sheets C hkv2 dX3_judge_18 19 rfl ?_
    refine j_astore_n (lv2 := [(2, .ref (ad g kv2)), (0, .ref (ad g 0)), (1, .int a1)]) C dX3_judge_19 rfl (by decide) rfl 20 rfl ?_
    refine j_aload_n C dX3_judge_20 rfl 0 rfl 21 rfl ?_
    refine j3h_get (sht_ok hkv2) C 1 (by decide) qf_X3_260 (v := .int (S kv2 1)) rfl dX3_judge_21 24 rfl ?_
    refine j_if_ne C dX3_judge_24 33 (by decide) 27 rfl (fun c3 => ?_) (fun c3 => ?_)
    · rw [if_neg c3] at hf
      refine j_aload_n C dX3_judge_33 rfl 1 rfl 34 rfl ?_
      refine j_aload_n C dX3_judge_34 rfl 0 rfl 35 rfl ?_
      refine j3h_get (sht_ok hkv2) C 2 (by decide) qf_X3_257 (v := .int (S kv2 2)) rfl dX3_judge_35 38 rfl ?_
      refine j_callVi (As := [.int (S kv2 2)]) (rest := []) C (c_X3_passesEnd l g sz S mm  (S kv2 2) _ rfl) (j_cwV C qc_X3_passesEnd qm_X3_124 qi_X3_passesEnd qs_X3_passesEnd qn_X3 hd_X3_passesEnd ⟨rfl, rfl⟩ ⟨by decide, by decide⟩) (rcv_pl.cell C.2) rfl (Nat.le_of_ble_eq_true rfl) dX3_judge_38 41 rfl ?_
      refine j_if_eq C dX3_judge_41 50 (by decide) 44 rfl (fun c4 => ?_) (fun c4 => ?_)
      · rw [if_pos c4] at hf
        refine j_aload_n C dX3_judge_50 rfl 1 rfl 51 rfl ?_
        refine j3_get C 3 (by decide) qf_X3_23 (v := .ref (ad g 15)) rfl dX3_judge_51 54 rfl ?_
        refine j_aload_n C dX3_judge_54 rfl 1 rfl 55 rfl ?_
        refine j3_get C 0 (by decide) qf_X3_12 (v := .ref (ad g 1)) rfl dX3_judge_55 58 rfl ?_
        obtain ⟨S5, hS5, hf⟩ := bnd hf
        refine j_callVv (As := [.ref (ad g 1)]) (rest := []) C (c_X1_become l g sz S mm 15 rfl 1 rfl (by decide)) (j_cwV C qc_X1_become qm_X3_165 qi_X1_become qs_X1_become qn_X1 hd_X1_become ⟨rfl, rfl⟩ ⟨by decide, by decide⟩) ((rcv_sh rfl).cell C.2) rfl (Nat.le_of_ble_eq_true rfl) dX3_judge_58 61 rfl ?_
        rw [Option.some.inj hS5]
        refine j_iconst C dX3_judge_61 (v := 0) c_iconst_0 62 rfl ?_
        refine j_istore_n (lv2 := [(3, .int 0), (2, .ref (ad g kv2)), (0, .ref (ad g 0)), (1, .int a1)]) C dX3_judge_62 rfl (by decide) rfl 63 rfl ?_
        refine j_sub [2, 1, 0] rfl ?_
        exact hL63 FU kv2 (sht_ok hkv2) 0 S5 hf
      · rw [if_neg c4] at hf
        refine j_aload_n C dX3_judge_44 rfl 1 rfl 45 rfl ?_
        refine j_iconst C dX3_judge_45 (v := 4) c_iconst_4 46 rfl ?_
        obtain ⟨⟨r14, S15⟩, hq13, hf⟩ := bnd hf
        dsimp only at hf
        refine j_callVi (As := [.int 4]) (rest := []) C (c_X3_found l g sz S mm  4 _ _ hq13) (j_cwV C qc_X3_found qm_X3_52 qi_X3_found qs_X3_found qn_X3 hd_X3_found ⟨rfl, rfl⟩ ⟨by decide, by decide⟩) (rcv_pl.cell C.2) rfl (Nat.le_of_ble_eq_true rfl) dX3_judge_46 49 rfl ?_
        obtain ⟨rfl, rfl⟩ := Prod.mk.inj (Option.some.inj hf)
        exact j_iret C hr hlk dX3_judge_49
    · rw [if_pos c3] at hf
      refine j_aload_n C dX3_judge_27 rfl 1 rfl 28 rfl ?_
      refine j_iconst C dX3_judge_28 (v := 5) c_iconst_5 29 rfl ?_
      obtain ⟨⟨r17, S18⟩, hq16, hf⟩ := bnd hf
      dsimp only at hf
      refine j_callVi (As := [.int 5]) (rest := []) C (c_X3_found l g sz S mm  5 _ _ hq16) (j_cwV C qc_X3_found qm_X3_52 qi_X3_found qs_X3_found qn_X3 hd_X3_found ⟨rfl, rfl⟩ ⟨by decide, by decide⟩) (rcv_pl.cell C.2) rfl (Nat.le_of_ble_eq_true rfl) dX3_judge_29 32 rfl ?_
      obtain ⟨rfl, rfl⟩ := Prod.mk.inj (Option.some.inj hf)
      exact j_iret C hr hlk dX3_judge_32
  · rw [if_pos c1] at hf
    refine j_aload_n C dX3_judge_7 rfl 0 rfl 8 rfl ?_
    refine j_iconst C dX3_judge_8 (v := 0) c_iconst_0 9 rfl ?_
    obtain ⟨⟨r20, S21⟩, hq19, hf⟩ := bnd hf
    dsimp only at hf
    refine j_callVi (As := [.int 0]) (rest := []) C (c_X3_found l g sz S mm  0 _ _ hq19) (j_cwV C qc_X3_found qm_X3_52 qi_X3_found qs_X3_found qn_X3 hd_X3_found ⟨rfl, rfl⟩ ⟨by decide, by decide⟩) (rcv_pl.cell C.2) rfl (Nat.le_of_ble_eq_true rfl) dX3_judge_9 12 rfl ?_
    obtain ⟨rfl, rfl⟩ := Prod.mk.inj (Option.some.inj hf)
    exact j_iret C hr hlk dX3_judge_12
set_option maxRecDepth 100000 in
set_option maxHeartbeats 4000000 in
theorem c_X3_image (l : Launch) (g : GG) (sz : Nat) (S mm : St) (r : Int32) (S' : St) (hf : X3_image S = some (r, S')) : Met l yX3_image (.code yX3_image cX3_image 1 (some .int) :: ALLW) (rmJ 2 61) (PcJ g sz S mm [.ref (ad g 0)]) (QiJ g sz r S' mm) 0 0 (Ag sz) := by
  refine j_met (own := RX3) (by decide) rfl (Nat.le_of_ble_eq_true rfl) rfl ?_
  intro p e s m args below meth c C hr hlk
  unfold X3_image at hf
  refine j_aload_n C dX3_image_0 rfl 0 rfl 1 rfl ?_
  refine j3_get C 1 (by decide) qf_X3_16 (v := .ref (ad g 8)) rfl dX3_image_1 4 rfl ?_
  refine j_aload_n C dX3_image_4 rfl 0 rfl 5 rfl ?_
  refine j3_get C 0 (by decide) qf_X3_12 (v := .ref (ad g 1)) rfl dX3_image_5 8 rfl ?_
  obtain ⟨S1, hS1, hf⟩ := bnd hf
  refine j_callVv (As := [.ref (ad g 1)]) (rest := []) C (c_X1_become l g sz S mm 8 rfl 1 rfl (by decide)) (j_cwV C qc_X1_become qm_X3_165 qi_X1_become qs_X1_become qn_X1 hd_X1_become ⟨rfl, rfl⟩ ⟨by decide, by decide⟩) ((rcv_sh rfl).cell C.2) rfl (Nat.le_of_ble_eq_true rfl) dX3_image_8 11 rfl ?_
  rw [Option.some.inj hS1]
  refine j_aload_n C dX3_image_11 rfl 0 rfl 12 rfl ?_
  refine j_iconst C dX3_image_12 (v := 1) c_iconst_1 13 rfl ?_
  obtain ⟨S2, hS2, hf⟩ := bnd hf
  refine j3_putz C qf_X3_19 (Or.inr rfl) dX3_image_13 16 rfl ?_
  rw [Option.some.inj hS2]
  refine j_iconst C dX3_image_16 (v := 1) c_iconst_1 17 rfl ?_
  obtain ⟨rfl, rfl⟩ := Prod.mk.inj (Option.some.inj hf)
  exact j_iret C hr hlk dX3_image_17
set_option maxRecDepth 100000 in
set_option maxHeartbeats 4000000 in
theorem c_X3_undo (l : Launch) (g : GG) (sz : Nat) (S mm : St) (r : Int32) (S' : St) (hf : X3_undo S = some (r, S')) : Met l yX3_undo (.code yX3_undo cX3_undo 1 (some .int) :: ALLW) (rmJ 2 61) (PcJ g sz S mm [.ref (ad g 0)]) (QiJ g sz r S' mm) 0 0 (Ag sz) := by
  refine j_met (own := RX3) (by decide) rfl (Nat.le_of_ble_eq_true rfl) rfl ?_
  intro p e s m args below meth c C hr hlk
  unfold X3_undo at hf
  refine j_aload_n C dX3_undo_0 rfl 0 rfl 1 rfl ?_
  refine j3_get C 2 (by decide) qf_X3_19 (v := .int (S 0 2)) rfl dX3_undo_1 4 rfl ?_
  refine j_if_ne C dX3_undo_4 13 (by decide) 7 rfl (fun c1 => ?_) (fun c1 => ?_)
  · rw [if_neg c1] at hf
    refine j_aload_n C dX3_undo_13 rfl 0 rfl 14 rfl ?_
    refine j3_get C 0 (by decide) qf_X3_12 (v := .ref (ad g 1)) rfl dX3_undo_14 17 rfl ?_
    refine j_aload_n C dX3_undo_17 rfl 0 rfl 18 rfl ?_
    refine j3_get C 1 (by decide) qf_X3_16 (v := .ref (ad g 8)) rfl dX3_undo_18 21 rfl ?_
    obtain ⟨S2, hS2, hf⟩ := bnd hf
    refine j_callVv (As := [.ref (ad g 8)]) (rest := []) C (c_X1_become l g sz S mm 1 rfl 8 rfl (by decide)) (j_cwV C qc_X1_become qm_X3_165 qi_X1_become qs_X1_become qn_X1 hd_X1_become ⟨rfl, rfl⟩ ⟨by decide, by decide⟩) ((rcv_sh rfl).cell C.2) rfl (Nat.le_of_ble_eq_true rfl) dX3_undo_21 24 rfl ?_
    rw [Option.some.inj hS2]
    refine j_aload_n C dX3_undo_24 rfl 0 rfl 25 rfl ?_
    refine j3_get C 0 (by decide) qf_X3_12 (v := .ref (ad g 1)) rfl dX3_undo_25 28 rfl ?_
    refine j3s_get (k := 1) rfl C 7 (by decide) qf_X3_141 (v := .int (S2 1 7)) rfl dX3_undo_28 31 rfl ?_
    obtain ⟨rfl, rfl⟩ := Prod.mk.inj (Option.some.inj hf)
    exact j_iret C hr hlk dX3_undo_31
  · rw [if_pos c1] at hf
    refine j_aload_n C dX3_undo_7 rfl 0 rfl 8 rfl ?_
    refine j_iconst C dX3_undo_8 (v := 3) c_iconst_3 9 rfl ?_
    obtain ⟨⟨r4, S5⟩, hq3, hf⟩ := bnd hf
    dsimp only at hf
    refine j_callVi (As := [.int 3]) (rest := []) C (c_X3_found l g sz S mm  3 _ _ hq3) (j_cwV C qc_X3_found qm_X3_52 qi_X3_found qs_X3_found qn_X3 hd_X3_found ⟨rfl, rfl⟩ ⟨by decide, by decide⟩) (rcv_pl.cell C.2) rfl (Nat.le_of_ble_eq_true rfl) dX3_undo_9 12 rfl ?_
    obtain ⟨rfl, rfl⟩ := Prod.mk.inj (Option.some.inj hf)
    exact j_iret C hr hlk dX3_undo_12
set_option maxRecDepth 100000 in
set_option maxHeartbeats 4000000 in
theorem c_X3_tear (l : Launch) (g : GG) (sz : Nat) (S mm : St) (r : Int32) (S' : St) (hf : X3_tear S = some (r, S')) : Met l yX3_tear (.code yX3_tear cX3_tear 2 (some .int) :: ALLW) (rmJ 0 0) (PcJ g sz S mm [.ref (ad g 0)]) (QiJ g sz r S' mm) 0 0 (Ag sz) := by
  refine j_met (own := RX3) (by decide) rfl (Nat.le_of_ble_eq_true rfl) rfl ?_
  intro p e s m args below meth c C hr hlk
  unfold X3_tear at hf
  refine j_aload_n C dX3_tear_0 rfl 0 rfl 1 rfl ?_
  refine j3_get C 2 (by decide) qf_X3_19 (v := .int (S 0 2)) rfl dX3_tear_1 4 rfl ?_
  refine j_if_eq C dX3_tear_4 11 (by decide) 7 rfl (fun c1 => ?_) (fun c1 => ?_)
  · rw [if_pos c1] at hf
    refine j_iconst C dX3_tear_11 (v := 0) c_iconst_0 12 rfl ?_
    refine j_istore_n (lv2 := [(1, .int 0), (0, .ref (ad g 0))]) C dX3_tear_12 rfl (by decide) rfl 13 rfl ?_
    refine j_aload_n C dX3_tear_13 rfl 1 rfl 14 rfl ?_
    refine j_iconst C dX3_tear_14 (v := 0) c_iconst_0 15 rfl ?_
    obtain ⟨S2, hS2, hf⟩ := bnd hf
    refine j3_putz C qf_X3_19 (Or.inl rfl) dX3_tear_15 18 rfl ?_
    rw [Option.some.inj hS2]
    refine j_iload_n C dX3_tear_18 rfl 0 rfl 19 rfl ?_
    obtain ⟨rfl, rfl⟩ := Prod.mk.inj (Option.some.inj hf)
    exact j_iret C hr hlk dX3_tear_19
  · rw [if_neg c1] at hf
    refine j_iconst C dX3_tear_7 (v := 1) c_iconst_1 8 rfl ?_
    refine j_goto C dX3_tear_8 12 (by decide) ?_
    refine j_istore_n (lv2 := [(1, .int 1), (0, .ref (ad g 0))]) C dX3_tear_12 rfl (by decide) rfl 13 rfl ?_
    refine j_aload_n C dX3_tear_13 rfl 1 rfl 14 rfl ?_
    refine j_iconst C dX3_tear_14 (v := 0) c_iconst_0 15 rfl ?_
    obtain ⟨S3, hS3, hf⟩ := bnd hf
    refine j3_putz C qf_X3_19 (Or.inl rfl) dX3_tear_15 18 rfl ?_
    rw [Option.some.inj hS3]
    refine j_iload_n C dX3_tear_18 rfl 0 rfl 19 rfl ?_
    obtain ⟨rfl, rfl⟩ := Prod.mk.inj (Option.some.inj hf)
    exact j_iret C hr hlk dX3_tear_19
set_option maxRecDepth 100000 in
set_option maxHeartbeats 4000000 in
theorem c_X3_count (l : Launch) (g : GG) (sz : Nat) (S mm : St) (a1 : Int32) (r : Int32) (S' : St) (hf : X3_count a1 S = some (r, S')) : Met l yX3_count (.code yX3_count cX3_count 2 (some .int) :: ALLW) (rmJ 2 43) (PcJ g sz S mm [.ref (ad g 0), .int a1]) (QiJ g sz r S' mm) 0 0 (Ag sz) := by
  refine j_met (own := RX3) (by decide) rfl (Nat.le_of_ble_eq_true rfl) rfl ?_
  intro p e s m args below meth c C hr hlk
  unfold X3_count at hf
  refine j_iload_n C dX3_count_0 rfl 1 rfl 1 rfl ?_
  by_cases c1 : a1 = 0
  · rw [if_pos c1] at hf
    refine j_tableIn C dX3_count_1 (by rw [c1]; decide) (by rw [c1]; decide) (by rw [c1]; rfl) 48 (by decide) ?_
    refine j_aload_n C dX3_count_48 rfl 0 rfl 49 rfl ?_
    refine j3_get C 0 (by decide) qf_X3_12 (v := .ref (ad g 1)) rfl dX3_count_49 52 rfl ?_
    refine j3s_get (k := 1) rfl C 7 (by decide) qf_X3_141 (v := .int (S 1 7)) rfl dX3_count_52 55 rfl ?_
    obtain ⟨rfl, rfl⟩ := Prod.mk.inj (Option.some.inj hf)
    exact j_iret C hr hlk dX3_count_55
  · rw [if_neg c1] at hf
    by_cases c2 : a1 = 1
    · rw [if_pos c2] at hf
      refine j_tableIn C dX3_count_1 (by rw [c2]; decide) (by rw [c2]; decide) (by rw [c2]; rfl) 56 (by decide) ?_
      refine j_aload_n C dX3_count_56 rfl 0 rfl 57 rfl ?_
      refine j3_get C 0 (by decide) qf_X3_12 (v := .ref (ad g 1)) rfl dX3_count_57 60 rfl ?_
      refine j3s_get (k := 1) rfl C 6 (by decide) qf_X3_56 (v := .int (S 1 6)) rfl dX3_count_60 63 rfl ?_
      obtain ⟨rfl, rfl⟩ := Prod.mk.inj (Option.some.inj hf)
      exact j_iret C hr hlk dX3_count_63
    · rw [if_neg c2] at hf
      by_cases c3 : a1 = 2
      · rw [if_pos c3] at hf
        refine j_tableIn C dX3_count_1 (by rw [c3]; decide) (by rw [c3]; decide) (by rw [c3]; rfl) 64 (by decide) ?_
        refine j_aload_n C dX3_count_64 rfl 0 rfl 65 rfl ?_
        refine j3_get C 0 (by decide) qf_X3_12 (v := .ref (ad g 1)) rfl dX3_count_65 68 rfl ?_
        obtain ⟨r4, hr4, hf⟩ := bnd hf
        refine j_x (put_blk S 1 7).symm ?_
        refine j_callVi (As := []) (rest := []) C (c_X1_bitsOnShelf l g sz S mm 1 rfl  (blk S 1) _ hr4) (j_cwV C qc_X1_bitsOnShelf qm_X3_169 qi_X1_bitsOnShelf qs_X1_bitsOnShelf qn_X1 hd_X1_bitsOnShelf ⟨rfl, rfl⟩ ⟨by decide, by decide⟩) ((rcv_sh rfl).cell C.2) rfl (Nat.le_of_ble_eq_true rfl) dX3_count_68 71 rfl ?_
        refine j_x (put_blk S 1 7) ?_
        refine j_callSi (As := [.int r4]) (rest := []) C (c_J6_bitCount_0f7a4 l g sz S mm r4 _ rfl) (j_cwO C qc_J6_bitCount_0f7a4 qm_X3_276 qs_J6_bitCount_0f7a4 qn_J6 hd_J6_bitCount_0f7a4 ⟨rfl, rfl⟩ ⟨by decide, by decide⟩)  rfl (Nat.le_of_ble_eq_true rfl) dX3_count_71 74 rfl ?_
        obtain ⟨rfl, rfl⟩ := Prod.mk.inj (Option.some.inj hf)
        exact j_iret C hr hlk dX3_count_74
      · rw [if_neg c3] at hf
        by_cases c5 : a1 = 3
        · rw [if_pos c5] at hf
          refine j_tableIn C dX3_count_1 (by rw [c5]; decide) (by rw [c5]; decide) (by rw [c5]; rfl) 75 (by decide) ?_
          refine j_aload_n C dX3_count_75 rfl 0 rfl 76 rfl ?_
          refine j3_get C 0 (by decide) qf_X3_12 (v := .ref (ad g 1)) rfl dX3_count_76 79 rfl ?_
          refine j_aload_n C dX3_count_79 rfl 0 rfl 80 rfl ?_
          refine j3_get C 0 (by decide) qf_X3_12 (v := .ref (ad g 1)) rfl dX3_count_80 83 rfl ?_
          obtain ⟨r6, hr6, hf⟩ := bnd hf
          refine j_x (put_blk S 1 7).symm ?_
          refine j_callVi (As := []) (rest := [.ref (ad g 1)]) C (c_X1_bitsOnShelf l g sz S mm 1 rfl  (blk S 1) _ hr6) (j_cwV C qc_X1_bitsOnShelf qm_X3_169 qi_X1_bitsOnShelf qs_X1_bitsOnShelf qn_X1 hd_X1_bitsOnShelf ⟨rfl, rfl⟩ ⟨by decide, by decide⟩) ((rcv_sh rfl).cell C.2) rfl (Nat.le_of_ble_eq_true rfl) dX3_count_83 86 rfl ?_
          refine j_x (put_blk S 1 7) ?_
          obtain ⟨r7, hr7, hf⟩ := bnd hf
          refine j_x (put_blk S 1 7).symm ?_
          refine j_callVi (As := [.int r6]) (rest := []) C (c_X1_worthOf l g sz S mm 1 rfl r6 (blk S 1) _ hr7) (j_cwV C qc_X1_worthOf qm_X3_281 qi_X1_worthOf qs_X1_worthOf qn_X1 hd_X1_worthOf ⟨rfl, rfl⟩ ⟨by decide, by decide⟩) ((rcv_sh rfl).cell C.2) rfl (Nat.le_of_ble_eq_true rfl) dX3_count_86 89 rfl ?_
          refine j_x (put_blk S 1 7) ?_
          obtain ⟨rfl, rfl⟩ := Prod.mk.inj (Option.some.inj hf)
          exact j_iret C hr hlk dX3_count_89
        · rw [if_neg c5] at hf
          by_cases c8 : a1 = 4
          · rw [if_pos c8] at hf
            refine j_tableIn C dX3_count_1 (by rw [c8]; decide) (by rw [c8]; decide) (by rw [c8]; rfl) 90 (by decide) ?_
            refine j_aload_n C dX3_count_90 rfl 0 rfl 91 rfl ?_
            refine j3_get C 0 (by decide) qf_X3_12 (v := .ref (ad g 1)) rfl dX3_count_91 94 rfl ?_
            obtain ⟨r9, hr9, hf⟩ := bnd hf
            refine j_x (put_blk S 1 7).symm ?_
            refine j_callVi (As := []) (rest := []) C (c_X1_manyStacks l g sz S mm 1 rfl  (blk S 1) _ hr9) (j_cwV C qc_X1_manyStacks qm_X3_284 qi_X1_manyStacks qs_X1_manyStacks qn_X1 hd_X1_manyStacks ⟨rfl, rfl⟩ ⟨by decide, by decide⟩) ((rcv_sh rfl).cell C.2) rfl (Nat.le_of_ble_eq_true rfl) dX3_count_94 97 rfl ?_
            refine j_x (put_blk S 1 7) ?_
            obtain ⟨rfl, rfl⟩ := Prod.mk.inj (Option.some.inj hf)
            exact j_iret C hr hlk dX3_count_97
          · rw [if_neg c8] at hf
            by_cases c10 : a1 = 5
            · rw [if_pos c10] at hf
              refine j_tableIn C dX3_count_1 (by rw [c10]; decide) (by rw [c10]; decide) (by rw [c10]; rfl) 98 (by decide) ?_
              refine j_aload_n C dX3_count_98 rfl 0 rfl 99 rfl ?_
              refine j3_get C 5 (by decide) qf_X3_33 (v := .ref (ad g 23)) rfl dX3_count_99 102 rfl ?_
              refine j3t_get C 1 (by decide) qf_X3_232 (v := .int (S 23 1)) rfl dX3_count_102 105 rfl ?_
              obtain ⟨rfl, rfl⟩ := Prod.mk.inj (Option.some.inj hf)
              exact j_iret C hr hlk dX3_count_105
            · rw [if_neg c10] at hf
              by_cases c11 : a1 = 6
              · rw [if_pos c11] at hf
                refine j_tableIn C dX3_count_1 (by rw [c11]; decide) (by rw [c11]; decide) (by rw [c11]; rfl) 106 (by decide) ?_
                refine j_aload_n C dX3_count_106 rfl 0 rfl 107 rfl ?_
                refine j3_get C 0 (by decide) qf_X3_12 (v := .ref (ad g 1)) rfl dX3_count_107 110 rfl ?_
                refine j3s_get (k := 1) rfl C 9 (by decide) qf_X3_229 (v := .int (S 1 9)) rfl dX3_count_110 113 rfl ?_
                obtain ⟨rfl, rfl⟩ := Prod.mk.inj (Option.some.inj hf)
                exact j_iret C hr hlk dX3_count_113
              · rw [if_neg c11] at hf
                by_cases c12 : a1 = 7
                · rw [if_pos c12] at hf
                  refine j_tableIn C dX3_count_1 (by rw [c12]; decide) (by rw [c12]; decide) (by rw [c12]; rfl) 114 (by decide) ?_
                  refine j_aload_n C dX3_count_114 rfl 0 rfl 115 rfl ?_
                  refine j3_get C 0 (by decide) qf_X3_12 (v := .ref (ad g 1)) rfl dX3_count_115 118 rfl ?_
                  obtain ⟨r13, hr13, hf⟩ := bnd hf
                  refine j_x (put_blk S 1 7).symm ?_
                  refine j_callVi (As := []) (rest := []) C (c_X1_manySpotsHeld l g sz S mm 1 rfl  (blk S 1) _ hr13) (j_cwV C qc_X1_manySpotsHeld qm_X3_287 qi_X1_manySpotsHeld qs_X1_manySpotsHeld qn_X1 hd_X1_manySpotsHeld ⟨rfl, rfl⟩ ⟨by decide, by decide⟩) ((rcv_sh rfl).cell C.2) rfl (Nat.le_of_ble_eq_true rfl) dX3_count_118 121 rfl ?_
                  refine j_x (put_blk S 1 7) ?_
                  obtain ⟨rfl, rfl⟩ := Prod.mk.inj (Option.some.inj hf)
                  exact j_iret C hr hlk dX3_count_121
                · rw [if_neg c12] at hf
                  refine j_tableOut C dX3_count_1 (sw_out7 c1 c2 c3 c5 c8 c10 c11 c12) 122 (by decide) ?_
                  refine j_aload_n C dX3_count_122 rfl 0 rfl 123 rfl ?_
                  refine j_iconst C dX3_count_123 (v := 0) c_iconst_0 124 rfl ?_
                  obtain ⟨⟨r15, S16⟩, hq14, hf⟩ := bnd hf
                  dsimp only at hf
                  refine j_callVi (As := [.int 0]) (rest := []) C (c_X3_found l g sz S mm  0 _ _ hq14) (j_cwV C qc_X3_found qm_X3_52 qi_X3_found qs_X3_found qn_X3 hd_X3_found ⟨rfl, rfl⟩ ⟨by decide, by decide⟩) (rcv_pl.cell C.2) rfl (Nat.le_of_ble_eq_true rfl) dX3_count_124 127 rfl ?_
                  obtain ⟨rfl, rfl⟩ := Prod.mk.inj (Option.some.inj hf)
                  exact j_iret C hr hlk dX3_count_127
set_option maxRecDepth 100000 in
set_option maxHeartbeats 4000000 in
theorem c_X3_status (l : Launch) (g : GG) (sz : Nat) (S mm : St) (a1 : Int32) (r : Int32) (S' : St) (hf : X3_status a1 S = some (r, S')) : Met l yX3_status (.code yX3_status cX3_status 4 (some .int) :: ALLW) (rmJ 1 22) (PcJ g sz S mm [.ref (ad g 0), .int a1]) (QiJ g sz r S' mm) 0 0 (Ag sz) := by
  refine j_met (own := RX3) (by decide) rfl (Nat.le_of_ble_eq_true rfl) rfl ?_
  intro p e s m args below meth c C hr hlk
  have hL31 : ∀ (n : Nat), ∀ (b2 : Int32) (b3 : Int32) (S : St), X3_status_L31 n b2 b3 S = some (r, S') → Wj p l e (rmJ 1 22) s m args below meth c (MQ below (QiJ g sz r S' mm) args s 0 0 (Ag sz)) 4 g sz S mm 31 [(0, .ref (ad g 0)), (2, .int b2), (3, .int b3)] [] := by
    intro  n
    induction n with
    | zero =>
      intro b2 b3 S hf
      rw [X3_status_L31] at hf
      cases hf
    | succ n ih =>
      intro b2 b3 S hf
      rw [X3_status_L31] at hf
      refine j_iload_n C dX3_status_31 rfl 2 rfl 32 rfl ?_
      refine j_bipush C dX3_status_32 (v := 7) c_bipush_7 34 rfl ?_
      refine j_icmp_ge C dX3_status_34 52 (by decide) 37 rfl (fun c3 => ?_) (fun c3 => ?_)
      · rw [if_pos c3] at hf
        refine j_iload_n C dX3_status_52 rfl 1 rfl 53 rfl ?_
        obtain ⟨rfl, rfl⟩ := Prod.mk.inj (Option.some.inj hf)
        exact j_iret C hr hlk dX3_status_53
      · rw [if_neg c3] at hf
        refine j_iload_n C dX3_status_37 rfl 1 rfl 38 rfl ?_
        refine j_aload_n C dX3_status_38 rfl 0 rfl 39 rfl ?_
        refine j3_get C 7 (by decide) qf_X3_43 (v := .ref (ad g 26)) rfl dX3_status_39 42 rfl ?_
        refine j_iload_n C dX3_status_42 rfl 2 rfl 43 rfl ?_
        obtain ⟨v4, hv4, hf⟩ := bnd hf
        refine j3f_ald C hv4 dX3_status_43 44 rfl ?_
        refine j_iadd C dX3_status_44 45 rfl ?_
        refine j_istore_n (lv2 := [(2, .int (b2 + v4)), (0, .ref (ad g 0)), (3, .int b3)]) C dX3_status_45 rfl (by decide) rfl 46 rfl ?_
        refine j_iinc (lv2 := [(3, .int (b3 + 1)), (2, .int (b2 + v4)), (0, .ref (ad g 0))]) C dX3_status_46 (k := 2) rfl (congrArg (HAdd.hAdd b3) c_oi_1) (by decide) rfl 49 rfl ?_
        refine j_goto C dX3_status_49 31 (by decide) ?_
        refine j_sub [2, 1, 0] rfl ?_
        exact ih (b2 + v4) (b3 + 1) S hf
  unfold X3_status at hf
  refine j_iload_n C dX3_status_0 rfl 1 rfl 1 rfl ?_
  refine j_iconst C dX3_status_1 (v := (-1)) c_iconst_m1 2 rfl ?_
  refine j_bipush C dX3_status_2 (v := 6) c_bipush_6 4 rfl ?_
  refine j_callSi (As := [.int a1, .int (-1), .int 6]) (rest := []) C (c_X3_within l g sz S mm a1 (-1) 6 _ rfl) (j_cwS C qc_X3_within qm_X3_66 qs_X3_within qn_X3 hd_X3_within ⟨rfl, rfl⟩ ⟨by decide, by decide⟩)  rfl (Nat.le_of_ble_eq_true rfl) dX3_status_4 7 rfl ?_
  refine j_if_ne C dX3_status_7 16 (by decide) 10 rfl (fun c1 => ?_) (fun c1 => ?_)
  · rw [if_neg c1] at hf
    refine j_iload_n C dX3_status_16 rfl 1 rfl 17 rfl ?_
    refine j_if_lt C dX3_status_17 27 (by decide) 20 rfl (fun c2 => ?_) (fun c2 => ?_)
    · rw [if_pos c2] at hf
      refine j_iconst C dX3_status_27 (v := 0) c_iconst_0 28 rfl ?_
      refine j_istore_n (lv2 := [(2, .int 0), (0, .ref (ad g 0)), (1, .int a1)]) C dX3_status_28 rfl (by decide) rfl 29 rfl ?_
      refine j_iconst C dX3_status_29 (v := 0) c_iconst_0 30 rfl ?_
      refine j_istore_n (lv2 := [(3, .int 0), (2, .int 0), (0, .ref (ad g 0)), (1, .int a1)]) C dX3_status_30 rfl (by decide) rfl 31 rfl ?_
      refine j_sub [2, 1, 0] rfl ?_
      exact hL31 FU 0 0 S hf
    · rw [if_neg c2] at hf
      refine j_aload_n C dX3_status_20 rfl 0 rfl 21 rfl ?_
      refine j3_get C 7 (by decide) qf_X3_43 (v := .ref (ad g 26)) rfl dX3_status_21 24 rfl ?_
      refine j_iload_n C dX3_status_24 rfl 1 rfl 25 rfl ?_
      obtain ⟨v5, hv5, hf⟩ := bnd hf
      refine j3f_ald C hv5 dX3_status_25 26 rfl ?_
      obtain ⟨rfl, rfl⟩ := Prod.mk.inj (Option.some.inj hf)
      exact j_iret C hr hlk dX3_status_26
  · rw [if_pos c1] at hf
    refine j_aload_n C dX3_status_10 rfl 0 rfl 11 rfl ?_
    refine j_iconst C dX3_status_11 (v := 0) c_iconst_0 12 rfl ?_
    obtain ⟨⟨r7, S8⟩, hq6, hf⟩ := bnd hf
    dsimp only at hf
    refine j_callVi (As := [.int 0]) (rest := []) C (c_X3_found l g sz S mm  0 _ _ hq6) (j_cwV C qc_X3_found qm_X3_52 qi_X3_found qs_X3_found qn_X3 hd_X3_found ⟨rfl, rfl⟩ ⟨by decide, by decide⟩) (rcv_pl.cell C.2) rfl (Nat.le_of_ble_eq_true rfl) dX3_status_12 15 rfl ?_
    obtain ⟨rfl, rfl⟩ := Prod.mk.inj (Option.some.inj hf)
    exact j_iret C hr hlk dX3_status_15
