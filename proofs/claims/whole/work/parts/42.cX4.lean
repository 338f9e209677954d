set_option maxRecDepth 100000 in
set_option maxHeartbeats 4000000 in
theorem c_X4_finding (l : Launch) (g : GG) (sz : Nat) (x S : St) (a1 : Int32) (r : Int32) (S' : St) (hf : X4_finding a1 S = some (r, S')) : Met l yX4_finding (.code yX4_finding cX4_finding 2 (some .int) :: ALLW) (rmJ 0 0) (PcJ g sz x S [.ref (ad g 56), .int a1]) (QiJ g sz r x S') 0 0 (Ag sz) := by
  refine j_met (own := RX4) (by decide) rfl (Nat.le_of_ble_eq_true rfl) rfl ?_
  intro p e s m args below meth c C hr hlk
  unfold X4_finding at hf
  refine j_aload_n C dX4_finding_0 rfl 0 rfl 1 rfl ?_
  refine j4_get C 4 (by decide) qf_X4_19 (v := .ref (ad g 60)) rfl dX4_finding_1 4 rfl ?_
  refine j_ldc C dX4_finding_4 qk_X4_72 6 rfl ?_
  refine j_iload_n C dX4_finding_6 rfl 1 rfl 7 rfl ?_
  refine j_isub C dX4_finding_7 8 rfl ?_
  refine j_iconst C dX4_finding_8 (v := 1) c_iconst_1 9 rfl ?_
  refine j_iadd C dX4_finding_9 10 rfl ?_
  refine j_dup2 C dX4_finding_10 rfl rfl 11 rfl ?_
  obtain ⟨v1, hv1, hf⟩ := bnd hf
  refine j4_ald 4 rfl C hv1 dX4_finding_11 12 rfl ?_
  refine j_iconst C dX4_finding_12 (v := 1) c_iconst_1 13 rfl ?_
  refine j_iadd C dX4_finding_13 14 rfl ?_
  obtain ⟨S2, hS2, hf⟩ := bnd hf
  refine j4_ast 4 rfl C hS2 dX4_finding_14 15 rfl ?_
  refine j_aload_n C dX4_finding_15 rfl 0 rfl 16 rfl ?_
  refine j4_get C 4 (by decide) qf_X4_19 (v := .ref (ad g 60)) rfl dX4_finding_16 19 rfl ?_
  refine j_iconst C dX4_finding_19 (v := 0) c_iconst_0 20 rfl ?_
  refine j_dup2 C dX4_finding_20 rfl rfl 21 rfl ?_
  obtain ⟨v3, hv3, hf⟩ := bnd hf
  refine j4_ald 4 rfl C hv3 dX4_finding_21 22 rfl ?_
  refine j_iconst C dX4_finding_22 (v := 1) c_iconst_1 23 rfl ?_
  refine j_iadd C dX4_finding_23 24 rfl ?_
  obtain ⟨S4, hS4, hf⟩ := bnd hf
  refine j4_ast 4 rfl C hS4 dX4_finding_24 25 rfl ?_
  refine j_iload_n C dX4_finding_25 rfl 1 rfl 26 rfl ?_
  obtain ⟨rfl, rfl⟩ := Prod.mk.inj (Option.some.inj hf)
  exact j_iret C hr hlk dX4_finding_26
set_option maxRecDepth 100000 in
set_option maxHeartbeats 4000000 in
theorem c_X4_within (l : Launch) (g : GG) (sz : Nat) (x mm : St) (a0 : Int32) (a1 : Int32) (a2 : Int32) (r : Int32) (hf : X4_within a0 a1 a2 = r) : Met l yX4_within (.code yX4_within cX4_within 3 (some .boolean) :: ALLW) (rmJ 0 0) (PcJ g sz x mm [.int a0, .int a1, .int a2]) (QiJ g sz r x mm) 0 0 (Ag sz) := by
  refine j_met (own := RX4) (by decide) rfl (Nat.le_of_ble_eq_true rfl) rfl ?_
  intro p e s m args below meth c C hr hlk
  unfold X4_within at hf
  refine j_iload_n C dX4_within_0 rfl 0 rfl 1 rfl ?_
  refine j_iload_n C dX4_within_1 rfl 1 rfl 2 rfl ?_
  refine j_icmp_lt C dX4_within_2 14 (by decide) 5 rfl (fun c1 => ?_) (fun c1 => ?_)
  · rw [if_pos c1] at hf
    refine j_iconst C dX4_within_14 (v := 0) c_iconst_0 15 rfl ?_
    subst hf
    exact j_zret C hr hlk (Or.inl rfl) dX4_within_15
  · rw [if_neg c1] at hf
    refine j_iload_n C dX4_within_5 rfl 0 rfl 6 rfl ?_
    refine j_iload_n C dX4_within_6 rfl 2 rfl 7 rfl ?_
    refine j_icmp_gt C dX4_within_7 14 (by decide) 10 rfl (fun c2 => ?_) (fun c2 => ?_)
    · rw [if_pos c2] at hf
      refine j_iconst C dX4_within_14 (v := 0) c_iconst_0 15 rfl ?_
      subst hf
      exact j_zret C hr hlk (Or.inl rfl) dX4_within_15
    · rw [if_neg c2] at hf
      refine j_iconst C dX4_within_10 (v := 1) c_iconst_1 11 rfl ?_
      refine j_goto C dX4_within_11 15 (by decide) ?_
      subst hf
      exact j_zret C hr hlk (Or.inr rfl) dX4_within_15
set_option maxRecDepth 100000 in
set_option maxHeartbeats 4000000 in
theorem c_X4_become (l : Launch) (g : GG) (sz : Nat) (x S : St) (a1 : Int32) (a2 : Int32) (r : Int32) (S' : St) (hf : X4_become a1 a2 S = some (r, S')) : Met l yX4_become (.code yX4_become cX4_become 4 (some .int) :: ALLW) (rmJ 0 0) (PcJ g sz x S [.ref (ad g 56), .int a1, .int a2]) (QiJ g sz r x S') 0 0 (Ag sz) := by
  refine j_met (own := RX4) (by decide) rfl (Nat.le_of_ble_eq_true rfl) rfl ?_
  intro p e s m args below meth c C hr hlk
  unfold X4_become at hf
  refine j_aload_n C dX4_become_0 rfl 0 rfl 1 rfl ?_
  refine j4_get C 0 (by decide) qf_X4_9 (v := .ref (ad g 57)) rfl dX4_become_1 4 rfl ?_
  refine j_iload_n C dX4_become_4 rfl 1 rfl 5 rfl ?_
  obtain ⟨v1, hv1, hf⟩ := bnd hf
  refine j4_ald 1 rfl C hv1 dX4_become_5 6 rfl ?_
  refine j_istore_n (lv2 := [(3, .int v1), (0, .ref (ad g 56)), (1, .int a1), (2, .int a2)]) C dX4_become_6 rfl (by decide) rfl 7 rfl ?_
  refine j_aload_n C dX4_become_7 rfl 1 rfl 8 rfl ?_
  refine j4_get C 0 (by decide) qf_X4_9 (v := .ref (ad g 57)) rfl dX4_become_8 11 rfl ?_
  refine j_iload_n C dX4_become_11 rfl 2 rfl 12 rfl ?_
  refine j_iload_n C dX4_become_12 rfl 3 rfl 13 rfl ?_
  obtain ⟨S2, hS2, hf⟩ := bnd hf
  refine j4_ast 1 rfl C hS2 dX4_become_13 14 rfl ?_
  refine j_iload_n C dX4_become_14 rfl 0 rfl 15 rfl ?_
  obtain ⟨rfl, rfl⟩ := Prod.mk.inj (Option.some.inj hf)
  exact j_iret C hr hlk dX4_become_15
set_option maxRecDepth 100000 in
set_option maxHeartbeats 4000000 in
theorem c_X4_copyRow (l : Launch) (g : GG) (sz : Nat) (x S : St) (r0 : Nat) (hr0 : isMA r0 = true) (r1 : Nat) (hr1 : isMA r1 = true) (S' : St) (hf : X4_copyRow r0 r1 S = some S') : Met l yX4_copyRow (.code yX4_copyRow cX4_copyRow 3 none :: ALLW) (rmJ 0 0) (PcJ g sz x S [.ref (ad g (56 + r0)), .ref (ad g (56 + r1))]) (QvJ g sz x S') 0 0 (Ag sz) := by
  refine j_met (own := RX4) (by decide) rfl (Nat.le_of_ble_eq_true rfl) rfl ?_
  intro p e s m args below meth c C hr hlk
  have hL2 : ∀ (n : Nat), ∀ (b2 : Int32) (S : St), X4_copyRow_L2 r0 r1 n b2 S = some S' → Wj p l e (rmJ 0 0) s m args below meth c (MQ below (QvJ g sz x S') args s 0 0 (Ag sz)) 3 g sz x S 2 [(0, .ref (ad g (56 + r0))), (1, .ref (ad g (56 + r1))), (2, .int b2)] [] := by
    intro  n
    induction n with
    | zero =>
      intro b2 S hf
      rw [X4_copyRow_L2] at hf
      cases hf
    | succ n ih =>
      intro b2 S hf
      rw [X4_copyRow_L2] at hf
      refine j_iload_n C dX4_copyRow_2 rfl 2 rfl 3 rfl ?_
      refine j_sipush C dX4_copyRow_3 (v := 275) c_sipush_275 6 rfl ?_
      refine j_icmp_ge C dX4_copyRow_6 21 (by decide) 9 rfl (fun c1 => ?_) (fun c1 => ?_)
      · rw [if_pos c1] at hf
        obtain rfl := Option.some.inj hf
        exact j_vret C hr hlk dX4_copyRow_21
      · rw [if_neg c1] at hf
        refine j_aload_n C dX4_copyRow_9 rfl 1 rfl 10 rfl ?_
        refine j_iload_n C dX4_copyRow_10 rfl 2 rfl 11 rfl ?_
        refine j_aload_n C dX4_copyRow_11 rfl 0 rfl 12 rfl ?_
        refine j_iload_n C dX4_copyRow_12 rfl 2 rfl 13 rfl ?_
        obtain ⟨v2, hv2, hf⟩ := bnd hf
        refine j4_ald r0 hr0 C hv2 dX4_copyRow_13 14 rfl ?_
        obtain ⟨S3, hS3, hf⟩ := bnd hf
        refine j4_ast r1 hr1 C hS3 dX4_copyRow_14 15 rfl ?_
        refine j_iinc (lv2 := [(2, .int (b2 + 1)), (0, .ref (ad g (56 + r0))), (1, .ref (ad g (56 + r1)))]) C dX4_copyRow_15 (k := 2) rfl (congrArg (HAdd.hAdd b2) c_oi_1) (by decide) rfl 18 rfl ?_
        refine j_goto C dX4_copyRow_18 2 (by decide) ?_
        refine j_sub [1, 2, 0] rfl ?_
        exact ih (b2 + 1) S3 hf
  unfold X4_copyRow at hf
  refine j_iconst C dX4_copyRow_0 (v := 0) c_iconst_0 1 rfl ?_
  refine j_istore_n (lv2 := [(2, .int 0), (0, .ref (ad g (56 + r0))), (1, .ref (ad g (56 + r1)))]) C dX4_copyRow_1 rfl (by decide) rfl 2 rfl ?_
  refine j_sub [1, 2, 0] rfl ?_
  exact hL2 FU 0 S hf
set_option maxRecDepth 100000 in
set_option maxHeartbeats 4000000 in
theorem c_X4_putBack (l : Launch) (g : GG) (sz : Nat) (x S : St) (a1 : Int32) (r : Int32) (S' : St) (hf : X4_putBack a1 S = some (r, S')) : Met l yX4_putBack (.code yX4_putBack cX4_putBack 2 (some .int) :: ALLW) (rmJ 1 22) (PcJ g sz x S [.ref (ad g 56), .int a1]) (QiJ g sz r x S') 0 0 (Ag sz) := by
  refine j_met (own := RX4) (by decide) rfl (Nat.le_of_ble_eq_true rfl) rfl ?_
  intro p e s m args below meth c C hr hlk
  unfold X4_putBack at hf
  refine j_aload_n C dX4_putBack_0 rfl 0 rfl 1 rfl ?_
  refine j4_get C 2 (by decide) qf_X4_16 (v := .ref (ad g 59)) rfl dX4_putBack_1 4 rfl ?_
  refine j_aload_n C dX4_putBack_4 rfl 0 rfl 5 rfl ?_
  refine j4_get C 0 (by decide) qf_X4_9 (v := .ref (ad g 57)) rfl dX4_putBack_5 8 rfl ?_
  obtain ⟨S1, hS1, hf⟩ := bnd hf
  refine j_callSv (As := [.ref (ad g 59), .ref (ad g 57)]) (rest := []) C (c_X4_copyRow l g sz x S  3 rfl 1 rfl _ hS1) (j_cwS C qc_X4_copyRow qm_X4_73 qs_X4_copyRow qn_X4 hd_X4_copyRow ⟨rfl, rfl⟩ ⟨by decide, by decide⟩)  rfl (Nat.le_of_ble_eq_true rfl) dX4_putBack_8 11 rfl ?_
  refine j_iload_n C dX4_putBack_11 rfl 1 rfl 12 rfl ?_
  obtain ⟨rfl, rfl⟩ := Prod.mk.inj (Option.some.inj hf)
  exact j_iret C hr hlk dX4_putBack_12
set_option maxRecDepth 100000 in
set_option maxHeartbeats 4000000 in
theorem c_X4_isCoin (l : Launch) (g : GG) (sz : Nat) (x S : St) (a1 : Int32) (r : Int32) (hf : X4_isCoin a1 S = some r) : Met l yX4_isCoin (.code yX4_isCoin cX4_isCoin 2 (some .boolean) :: ALLW) (rmJ 1 22) (PcJ g sz x S [.ref (ad g 56), .int a1]) (QiJ g sz r x S) 0 0 (Ag sz) := by
  refine j_met (own := RX4) (by decide) rfl (Nat.le_of_ble_eq_true rfl) rfl ?_
  intro p e s m args below meth c C hr hlk
  unfold X4_isCoin at hf
  refine j_iload_n C dX4_isCoin_0 rfl 1 rfl 1 rfl ?_
  refine j_iconst C dX4_isCoin_1 (v := 0) c_iconst_0 2 rfl ?_
  refine j_aload_n C dX4_isCoin_2 rfl 0 rfl 3 rfl ?_
  refine j4_get C 0 (by decide) qf_X4_9 (v := .ref (ad g 57)) rfl dX4_isCoin_3 6 rfl ?_
  refine j_iconst C dX4_isCoin_6 (v := 4) c_iconst_4 7 rfl ?_
  obtain ⟨v1, hv1, hf⟩ := bnd hf
  refine j4_ald 1 rfl C hv1 dX4_isCoin_7 8 rfl ?_
  refine j_iconst C dX4_isCoin_8 (v := 1) c_iconst_1 9 rfl ?_
  refine j_isub C dX4_isCoin_9 10 rfl ?_
  refine j_callSi (As := [.int a1, .int 0, .int (v1 - 1)]) (rest := []) C (c_X4_within l g sz x S a1 0 (v1 - 1) _ rfl) (j_cwS C qc_X4_within qm_X4_77 qs_X4_within qn_X4 hd_X4_within ⟨rfl, rfl⟩ ⟨by decide, by decide⟩)  rfl (Nat.le_of_ble_eq_true rfl) dX4_isCoin_10 13 rfl ?_
  obtain rfl := Option.some.inj hf
  exact j_zret C hr hlk (b01_X4_within ..) dX4_isCoin_13
set_option maxRecDepth 100000 in
set_option maxHeartbeats 4000000 in
theorem c_X4_isKind (l : Launch) (g : GG) (sz : Nat) (x mm : St) (a0 : Int32) (r : Int32) (hf : X4_isKind a0 = r) : Met l yX4_isKind (.code yX4_isKind cX4_isKind 1 (some .boolean) :: ALLW) (rmJ 1 22) (PcJ g sz x mm [.int a0]) (QiJ g sz r x mm) 0 0 (Ag sz) := by
  refine j_met (own := RX4) (by decide) rfl (Nat.le_of_ble_eq_true rfl) rfl ?_
  intro p e s m args below meth c C hr hlk
  unfold X4_isKind at hf
  refine j_iload_n C dX4_isKind_0 rfl 0 rfl 1 rfl ?_
  refine j_iconst C dX4_isKind_1 (v := 0) c_iconst_0 2 rfl ?_
  refine j_bipush C dX4_isKind_2 (v := 6) c_bipush_6 4 rfl ?_
  refine j_callSi (As := [.int a0, .int 0, .int 6]) (rest := []) C (c_X4_within l g sz x mm a0 0 6 _ rfl) (j_cwS C qc_X4_within qm_X4_77 qs_X4_within qn_X4 hd_X4_within ⟨rfl, rfl⟩ ⟨by decide, by decide⟩)  rfl (Nat.le_of_ble_eq_true rfl) dX4_isKind_4 7 rfl ?_
  subst hf
  exact j_zret C hr hlk (b01_X4_within ..) dX4_isKind_7
set_option maxRecDepth 100000 in
set_option maxHeartbeats 4000000 in
theorem c_X4_isColumn (l : Launch) (g : GG) (sz : Nat) (x mm : St) (a0 : Int32) (r : Int32) (hf : X4_isColumn a0 = r) : Met l yX4_isColumn (.code yX4_isColumn cX4_isColumn 1 (some .boolean) :: ALLW) (rmJ 1 22) (PcJ g sz x mm [.int a0]) (QiJ g sz r x mm) 0 0 (Ag sz) := by
  refine j_met (own := RX4) (by decide) rfl (Nat.le_of_ble_eq_true rfl) rfl ?_
  intro p e s m args below meth c C hr hlk
  unfold X4_isColumn at hf
  refine j_iload_n C dX4_isColumn_0 rfl 0 rfl 1 rfl ?_
  refine j_iconst C dX4_isColumn_1 (v := 0) c_iconst_0 2 rfl ?_
  refine j_bipush C dX4_isColumn_2 (v := 6) c_bipush_6 4 rfl ?_
  refine j_callSi (As := [.int a0, .int 0, .int 6]) (rest := []) C (c_X4_within l g sz x mm a0 0 6 _ rfl) (j_cwS C qc_X4_within qm_X4_77 qs_X4_within qn_X4 hd_X4_within ⟨rfl, rfl⟩ ⟨by decide, by decide⟩)  rfl (Nat.le_of_ble_eq_true rfl) dX4_isColumn_4 7 rfl ?_
  subst hf
  exact j_zret C hr hlk (b01_X4_within ..) dX4_isColumn_7
set_option maxRecDepth 100000 in
set_option maxHeartbeats 4000000 in
theorem c_X4_isCell (l : Launch) (g : GG) (sz : Nat) (x mm : St) (a0 : Int32) (a1 : Int32) (r : Int32) (hf : X4_isCell a0 a1 = r) : Met l yX4_isCell (.code yX4_isCell cX4_isCell 2 (some .boolean) :: ALLW) (rmJ 2 42) (PcJ g sz x mm [.int a0, .int a1]) (QiJ g sz r x mm) 0 0 (Ag sz) := by
  refine j_met (own := RX4) (by decide) rfl (Nat.le_of_ble_eq_true rfl) rfl ?_
  intro p e s m args below meth c C hr hlk
  unfold X4_isCell at hf
  refine j_iload_n C dX4_isCell_0 rfl 0 rfl 1 rfl ?_
  refine j_callSi (As := [.int a0]) (rest := []) C (c_X4_isColumn l g sz x mm a0 _ rfl) (j_cwS C qc_X4_isColumn qm_X4_81 qs_X4_isColumn qn_X4 hd_X4_isColumn ⟨rfl, rfl⟩ ⟨by decide, by decide⟩)  rfl (Nat.le_of_ble_eq_true rfl) dX4_isCell_1 4 rfl ?_
  refine j_if_eq C dX4_isCell_4 20 (by decide) 7 rfl (fun c1 => ?_) (fun c1 => ?_)
  · rw [if_pos c1] at hf
    refine j_iconst C dX4_isCell_20 (v := 0) c_iconst_0 21 rfl ?_
    subst hf
    exact j_zret C hr hlk (Or.inl rfl) dX4_isCell_21
  · rw [if_neg c1] at hf
    refine j_iload_n C dX4_isCell_7 rfl 1 rfl 8 rfl ?_
    refine j_iconst C dX4_isCell_8 (v := 0) c_iconst_0 9 rfl ?_
    refine j_iconst C dX4_isCell_9 (v := 5) c_iconst_5 10 rfl ?_
    refine j_callSi (As := [.int a1, .int 0, .int 5]) (rest := []) C (c_X4_within l g sz x mm a1 0 5 _ rfl) (j_cwS C qc_X4_within qm_X4_77 qs_X4_within qn_X4 hd_X4_within ⟨rfl, rfl⟩ ⟨by decide, by decide⟩)  rfl (Nat.le_of_ble_eq_true rfl) dX4_isCell_10 13 rfl ?_
    refine j_if_eq C dX4_isCell_13 20 (by decide) 16 rfl (fun c2 => ?_) (fun c2 => ?_)
    · rw [if_pos c2] at hf
      refine j_iconst C dX4_isCell_20 (v := 0) c_iconst_0 21 rfl ?_
      subst hf
      exact j_zret C hr hlk (Or.inl rfl) dX4_isCell_21
    · rw [if_neg c2] at hf
      refine j_iconst C dX4_isCell_16 (v := 1) c_iconst_1 17 rfl ?_
      refine j_goto C dX4_isCell_17 21 (by decide) ?_
      subst hf
      exact j_zret C hr hlk (Or.inr rfl) dX4_isCell_21
set_option maxRecDepth 100000 in
set_option maxHeartbeats 4000000 in
theorem c_X4_cellOf (l : Launch) (g : GG) (sz : Nat) (x mm : St) (a0 : Int32) (a1 : Int32) (r : Int32) (hf : X4_cellOf a0 a1 = r) : Met l yX4_cellOf (.code yX4_cellOf cX4_cellOf 2 (some .int) :: ALLW) (rmJ 0 0) (PcJ g sz x mm [.int a0, .int a1]) (QiJ g sz r x mm) 0 0 (Ag sz) := by
  refine j_met (own := RX4) (by decide) rfl (Nat.le_of_ble_eq_true rfl) rfl ?_
  intro p e s m args below meth c C hr hlk
  unfold X4_cellOf at hf
  refine j_bipush C dX4_cellOf_0 (v := 6) c_bipush_6 2 rfl ?_
  refine j_iload_n C dX4_cellOf_2 rfl 0 rfl 3 rfl ?_
  refine j_imul C dX4_cellOf_3 4 rfl ?_
  refine j_iload_n C dX4_cellOf_4 rfl 1 rfl 5 rfl ?_
  refine j_iadd C dX4_cellOf_5 6 rfl ?_
  subst hf
  exact j_iret C hr hlk dX4_cellOf_6
set_option maxRecDepth 100000 in
set_option maxHeartbeats 4000000 in
theorem c_X4_highOf (l : Launch) (g : GG) (sz : Nat) (x S : St) (a1 : Int32) (r : Int32) (hf : X4_highOf a1 S = some r) : Met l yX4_highOf (.code yX4_highOf cX4_highOf 2 (some .int) :: ALLW) (rmJ 0 0) (PcJ g sz x S [.ref (ad g 56), .int a1]) (QiJ g sz r x S) 0 0 (Ag sz) := by
  refine j_met (own := RX4) (by decide) rfl (Nat.le_of_ble_eq_true rfl) rfl ?_
  intro p e s m args below meth c C hr hlk
  unfold X4_highOf at hf
  refine j_aload_n C dX4_highOf_0 rfl 0 rfl 1 rfl ?_
  refine j4_get C 0 (by decide) qf_X4_9 (v := .ref (ad g 57)) rfl dX4_highOf_1 4 rfl ?_
  refine j_bipush C dX4_highOf_4 (v := 65) c_bipush_65 6 rfl ?_
  refine j_iload_n C dX4_highOf_6 rfl 1 rfl 7 rfl ?_
  refine j_iadd C dX4_highOf_7 8 rfl ?_
  obtain ⟨v1, hv1, hf⟩ := bnd hf
  refine j4_ald 1 rfl C hv1 dX4_highOf_8 9 rfl ?_
  obtain rfl := Option.some.inj hf
  exact j_iret C hr hlk dX4_highOf_9
set_option maxRecDepth 100000 in
set_option maxHeartbeats 4000000 in
theorem c_X4_coinAt (l : Launch) (g : GG) (sz : Nat) (x S : St) (a1 : Int32) (a2 : Int32) (r : Int32) (hf : X4_coinAt a1 a2 S = some r) : Met l yX4_coinAt (.code yX4_coinAt cX4_coinAt 3 (some .int) :: ALLW) (rmJ 0 0) (PcJ g sz x S [.ref (ad g 56), .int a1, .int a2]) (QiJ g sz r x S) 0 0 (Ag sz) := by
  refine j_met (own := RX4) (by decide) rfl (Nat.le_of_ble_eq_true rfl) rfl ?_
  intro p e s m args below meth c C hr hlk
  unfold X4_coinAt at hf
  refine j_aload_n C dX4_coinAt_0 rfl 0 rfl 1 rfl ?_
  refine j4_get C 0 (by decide) qf_X4_9 (v := .ref (ad g 57)) rfl dX4_coinAt_1 4 rfl ?_
  refine j_bipush C dX4_coinAt_4 (v := 107) c_bipush_107 6 rfl ?_
  refine j_iconst C dX4_coinAt_6 (v := 4) c_iconst_4 7 rfl ?_
  refine j_iload_n C dX4_coinAt_7 rfl 1 rfl 8 rfl ?_
  refine j_imul C dX4_coinAt_8 9 rfl ?_
  refine j_iadd C dX4_coinAt_9 10 rfl ?_
  refine j_iload_n C dX4_coinAt_10 rfl 2 rfl 11 rfl ?_
  refine j_iadd C dX4_coinAt_11 12 rfl ?_
  obtain ⟨v1, hv1, hf⟩ := bnd hf
  refine j4_ald 1 rfl C hv1 dX4_coinAt_12 13 rfl ?_
  obtain rfl := Option.some.inj hf
  exact j_iret C hr hlk dX4_coinAt_13
set_option maxRecDepth 100000 in
set_option maxHeartbeats 4000000 in
theorem c_X4_topOf (l : Launch) (g : GG) (sz : Nat) (x S : St) (a1 : Int32) (r : Int32) (hf : X4_topOf a1 S = some r) : Met l yX4_topOf (.code yX4_topOf cX4_topOf 2 (some .int) :: ALLW) (rmJ 1 22) (PcJ g sz x S [.ref (ad g 56), .int a1]) (QiJ g sz r x S) 0 0 (Ag sz) := by
  refine j_met (own := RX4) (by decide) rfl (Nat.le_of_ble_eq_true rfl) rfl ?_
  intro p e s m args below meth c C hr hlk
  unfold X4_topOf at hf
  refine j_aload_n C dX4_topOf_0 rfl 0 rfl 1 rfl ?_
  refine j_iload_n C dX4_topOf_1 rfl 1 rfl 2 rfl ?_
  refine j_aload_n C dX4_topOf_2 rfl 0 rfl 3 rfl ?_
  refine j_iload_n C dX4_topOf_3 rfl 1 rfl 4 rfl ?_
  obtain ⟨r1, hr1, hf⟩ := bnd hf
  refine j_callVi (As := [.int a1]) (rest := [.int a1, .ref (ad g 56)]) C (c_X4_highOf l g sz x S  a1 _ hr1) (j_cwV C qc_X4_highOf qm_X4_85 qi_X4_highOf qs_X4_highOf qn_X4 hd_X4_highOf ⟨rfl, rfl⟩ ⟨by decide, by decide⟩) (rcv_mo.cell C.2) rfl (Nat.le_of_ble_eq_true rfl) dX4_topOf_4 7 rfl ?_
  refine j_iconst C dX4_topOf_7 (v := 1) c_iconst_1 8 rfl ?_
  refine j_isub C dX4_topOf_8 9 rfl ?_
  obtain ⟨r2, hr2, hf⟩ := bnd hf
  refine j_callVi (As := [.int a1, .int (r1 - 1)]) (rest := []) C (c_X4_coinAt l g sz x S  a1 (r1 - 1) _ hr2) (j_cwV C qc_X4_coinAt qm_X4_89 qi_X4_coinAt qs_X4_coinAt qn_X4 hd_X4_coinAt ⟨rfl, rfl⟩ ⟨by decide, by decide⟩) (rcv_mo.cell C.2) rfl (Nat.le_of_ble_eq_true rfl) dX4_topOf_9 12 rfl ?_
  obtain rfl := Option.some.inj hf
  exact j_iret C hr hlk dX4_topOf_12
set_option maxRecDepth 100000 in
set_option maxHeartbeats 4000000 in
theorem c_X4_isOnShelf (l : Launch) (g : GG) (sz : Nat) (x S : St) (a1 : Int32) (r : Int32) (hf : X4_isOnShelf a1 S = some r) : Met l yX4_isOnShelf (.code yX4_isOnShelf cX4_isOnShelf 2 (some .boolean) :: ALLW) (rmJ 0 0) (PcJ g sz x S [.ref (ad g 56), .int a1]) (QiJ g sz r x S) 0 0 (Ag sz) := by
  refine j_met (own := RX4) (by decide) rfl (Nat.le_of_ble_eq_true rfl) rfl ?_
  intro p e s m args below meth c C hr hlk
  unfold X4_isOnShelf at hf
  refine j_aload_n C dX4_isOnShelf_0 rfl 0 rfl 1 rfl ?_
  refine j4_get C 0 (by decide) qf_X4_9 (v := .ref (ad g 57)) rfl dX4_isOnShelf_1 4 rfl ?_
  refine j_bipush C dX4_isOnShelf_4 (v := 41) c_bipush_41 6 rfl ?_
  refine j_iload_n C dX4_isOnShelf_6 rfl 1 rfl 7 rfl ?_
  refine j_iadd C dX4_isOnShelf_7 8 rfl ?_
  obtain ⟨v1, hv1, hf⟩ := bnd hf
  refine j4_ald 1 rfl C hv1 dX4_isOnShelf_8 9 rfl ?_
  refine j_bipush C dX4_isOnShelf_9 (v := 100) c_bipush_100 11 rfl ?_
  refine j_icmp_ge C dX4_isOnShelf_11 18 (by decide) 14 rfl (fun c2 => ?_) (fun c2 => ?_)
  · rw [if_pos c2] at hf
    refine j_iconst C dX4_isOnShelf_18 (v := 0) c_iconst_0 19 rfl ?_
    obtain rfl := Option.some.inj hf
    exact j_zret C hr hlk (Or.inl rfl) dX4_isOnShelf_19
  · rw [if_neg c2] at hf
    refine j_iconst C dX4_isOnShelf_14 (v := 1) c_iconst_1 15 rfl ?_
    refine j_goto C dX4_isOnShelf_15 19 (by decide) ?_
    obtain rfl := Option.some.inj hf
    exact j_zret C hr hlk (Or.inr rfl) dX4_isOnShelf_19
set_option maxRecDepth 100000 in
set_option maxHeartbeats 4000000 in
theorem c_X4_comesOn (l : Launch) (g : GG) (sz : Nat) (x S : St) (a1 : Int32) (a2 : Int32) (S' : St) (hf : X4_comesOn a1 a2 S = some S') : Met l yX4_comesOn (.code yX4_comesOn cX4_comesOn 3 none :: ALLW) (rmJ 1 21) (PcJ g sz x S [.ref (ad g 56), .int a1, .int a2]) (QvJ g sz x S') 0 0 (Ag sz) := by
  refine j_met (own := RX4) (by decide) rfl (Nat.le_of_ble_eq_true rfl) rfl ?_
  intro p e s m args below meth c C hr hlk
  unfold X4_comesOn at hf
  refine j_aload_n C dX4_comesOn_0 rfl 0 rfl 1 rfl ?_
  refine j4_get C 0 (by decide) qf_X4_9 (v := .ref (ad g 57)) rfl dX4_comesOn_1 4 rfl ?_
  refine j_bipush C dX4_comesOn_4 (v := 107) c_bipush_107 6 rfl ?_
  refine j_iconst C dX4_comesOn_6 (v := 4) c_iconst_4 7 rfl ?_
  refine j_iload_n C dX4_comesOn_7 rfl 2 rfl 8 rfl ?_
  refine j_imul C dX4_comesOn_8 9 rfl ?_
  refine j_iadd C dX4_comesOn_9 10 rfl ?_
  refine j_aload_n C dX4_comesOn_10 rfl 0 rfl 11 rfl ?_
  refine j_iload_n C dX4_comesOn_11 rfl 2 rfl 12 rfl ?_
  obtain ⟨r1, hr1, hf⟩ := bnd hf
  refine j_callVi (As := [.int a2]) (rest := [.int (107 + (4 * a2)), .ref (ad g 57)]) C (c_X4_highOf l g sz x S  a2 _ hr1) (j_cwV C qc_X4_highOf qm_X4_85 qi_X4_highOf qs_X4_highOf qn_X4 hd_X4_highOf ⟨rfl, rfl⟩ ⟨by decide, by decide⟩) (rcv_mo.cell C.2) rfl (Nat.le_of_ble_eq_true rfl) dX4_comesOn_12 15 rfl ?_
  refine j_iadd C dX4_comesOn_15 16 rfl ?_
  refine j_iload_n C dX4_comesOn_16 rfl 1 rfl 17 rfl ?_
  obtain ⟨S2, hS2, hf⟩ := bnd hf
  refine j4_ast 1 rfl C hS2 dX4_comesOn_17 18 rfl ?_
  refine j_aload_n C dX4_comesOn_18 rfl 0 rfl 19 rfl ?_
  refine j4_get C 0 (by decide) qf_X4_9 (v := .ref (ad g 57)) rfl dX4_comesOn_19 22 rfl ?_
  refine j_bipush C dX4_comesOn_22 (v := 65) c_bipush_65 24 rfl ?_
  refine j_iload_n C dX4_comesOn_24 rfl 2 rfl 25 rfl ?_
  refine j_iadd C dX4_comesOn_25 26 rfl ?_
  refine j_dup2 C dX4_comesOn_26 rfl rfl 27 rfl ?_
  obtain ⟨v3, hv3, hf⟩ := bnd hf
  refine j4_ald 1 rfl C hv3 dX4_comesOn_27 28 rfl ?_
  refine j_iconst C dX4_comesOn_28 (v := 1) c_iconst_1 29 rfl ?_
  refine j_iadd C dX4_comesOn_29 30 rfl ?_
  obtain ⟨S4, hS4, hf⟩ := bnd hf
  refine j4_ast 1 rfl C hS4 dX4_comesOn_30 31 rfl ?_
  refine j_aload_n C dX4_comesOn_31 rfl 0 rfl 32 rfl ?_
  refine j4_get C 0 (by decide) qf_X4_9 (v := .ref (ad g 57)) rfl dX4_comesOn_32 35 rfl ?_
  refine j_bipush C dX4_comesOn_35 (v := 41) c_bipush_41 37 rfl ?_
  refine j_iload_n C dX4_comesOn_37 rfl 1 rfl 38 rfl ?_
  refine j_iadd C dX4_comesOn_38 39 rfl ?_
  refine j_bipush C dX4_comesOn_39 (v := 10) c_bipush_10 41 rfl ?_
  refine j_iload_n C dX4_comesOn_41 rfl 2 rfl 42 rfl ?_
  refine j_bipush C dX4_comesOn_42 (v := 6) c_bipush_6 44 rfl ?_
  refine j_idivc C dX4_comesOn_44 (by decide) 45 rfl ?_
  refine j_imul C dX4_comesOn_45 46 rfl ?_
  refine j_iload_n C dX4_comesOn_46 rfl 2 rfl 47 rfl ?_
  refine j_bipush C dX4_comesOn_47 (v := 6) c_bipush_6 49 rfl ?_
  refine j_iremc C dX4_comesOn_49 (by decide) 50 rfl ?_
  refine j_iadd C dX4_comesOn_50 51 rfl ?_
  obtain ⟨S5, hS5, hf⟩ := bnd hf
  refine j4_ast 1 rfl C hS5 dX4_comesOn_51 52 rfl ?_
  obtain rfl := Option.some.inj hf
  exact j_vret C hr hlk dX4_comesOn_52
set_option maxRecDepth 100000 in
set_option maxHeartbeats 4000000 in
theorem c_X4_taken (l : Launch) (g : GG) (sz : Nat) (x S : St) (a1 : Int32) (r : Int32) (S' : St) (hf : X4_taken a1 S = some (r, S')) : Met l yX4_taken (.code yX4_taken cX4_taken 3 (some .int) :: ALLW) (rmJ 2 43) (PcJ g sz x S [.ref (ad g 56), .int a1]) (QiJ g sz r x S') 0 0 (Ag sz) := by
  refine j_met (own := RX4) (by decide) rfl (Nat.le_of_ble_eq_true rfl) rfl ?_
  intro p e s m args below meth c C hr hlk
  unfold X4_taken at hf
  refine j_aload_n C dX4_taken_0 rfl 0 rfl 1 rfl ?_
  refine j_iload_n C dX4_taken_1 rfl 1 rfl 2 rfl ?_
  obtain ⟨r1, hr1, hf⟩ := bnd hf
  refine j_callVi (As := [.int a1]) (rest := []) C (c_X4_topOf l g sz x S  a1 _ hr1) (j_cwV C qc_X4_topOf qm_X4_93 qi_X4_topOf qs_X4_topOf qn_X4 hd_X4_topOf ⟨rfl, rfl⟩ ⟨by decide, by decide⟩) (rcv_mo.cell C.2) rfl (Nat.le_of_ble_eq_true rfl) dX4_taken_2 5 rfl ?_
  refine j_istore_n (lv2 := [(2, .int r1), (0, .ref (ad g 56)), (1, .int a1)]) C dX4_taken_5 rfl (by decide) rfl 6 rfl ?_
  refine j_aload_n C dX4_taken_6 rfl 1 rfl 7 rfl ?_
  refine j4_get C 0 (by decide) qf_X4_9 (v := .ref (ad g 57)) rfl dX4_taken_7 10 rfl ?_
  refine j_bipush C dX4_taken_10 (v := 65) c_bipush_65 12 rfl ?_
  refine j_iload_n C dX4_taken_12 rfl 2 rfl 13 rfl ?_
  refine j_iadd C dX4_taken_13 14 rfl ?_
  refine j_dup2 C dX4_taken_14 rfl rfl 15 rfl ?_
  obtain ⟨v2, hv2, hf⟩ := bnd hf
  refine j4_ald 1 rfl C hv2 dX4_taken_15 16 rfl ?_
  refine j_iconst C dX4_taken_16 (v := 1) c_iconst_1 17 rfl ?_
  refine j_isub C dX4_taken_17 18 rfl ?_
  obtain ⟨S3, hS3, hf⟩ := bnd hf
  refine j4_ast 1 rfl C hS3 dX4_taken_18 19 rfl ?_
  refine j_iload_n C dX4_taken_19 rfl 0 rfl 20 rfl ?_
  obtain ⟨rfl, rfl⟩ := Prod.mk.inj (Option.some.inj hf)
  exact j_iret C hr hlk dX4_taken_20
set_option maxRecDepth 100000 in
set_option maxHeartbeats 4000000 in
theorem c_X4_struck (l : Launch) (g : GG) (sz : Nat) (x S : St) (a1 : Int32) (r : Int32) (S' : St) (hf : X4_struck a1 S = some (r, S')) : Met l yX4_struck (.code yX4_struck cX4_struck 3 (some .int) :: ALLW) (rmJ 0 0) (PcJ g sz x S [.ref (ad g 56), .int a1]) (QiJ g sz r x S') 0 0 (Ag sz) := by
  refine j_met (own := RX4) (by decide) rfl (Nat.le_of_ble_eq_true rfl) rfl ?_
  intro p e s m args below meth c C hr hlk
  unfold X4_struck at hf
  refine j_aload_n C dX4_struck_0 rfl 0 rfl 1 rfl ?_
  refine j4_get C 0 (by decide) qf_X4_9 (v := .ref (ad g 57)) rfl dX4_struck_1 4 rfl ?_
  refine j_iconst C dX4_struck_4 (v := 4) c_iconst_4 5 rfl ?_
  obtain ⟨v1, hv1, hf⟩ := bnd hf
  refine j4_ald 1 rfl C hv1 dX4_struck_5 6 rfl ?_
  refine j_istore_n (lv2 := [(2, .int v1), (0, .ref (ad g 56)), (1, .int a1)]) C dX4_struck_6 rfl (by decide) rfl 7 rfl ?_
  refine j_aload_n C dX4_struck_7 rfl 1 rfl 8 rfl ?_
  refine j4_get C 0 (by decide) qf_X4_9 (v := .ref (ad g 57)) rfl dX4_struck_8 11 rfl ?_
  refine j_bipush C dX4_struck_11 (v := 17) c_bipush_17 13 rfl ?_
  refine j_iload_n C dX4_struck_13 rfl 0 rfl 14 rfl ?_
  refine j_iadd C dX4_struck_14 15 rfl ?_
  refine j_iload_n C dX4_struck_15 rfl 2 rfl 16 rfl ?_
  obtain ⟨S2, hS2, hf⟩ := bnd hf
  refine j4_ast 1 rfl C hS2 dX4_struck_16 17 rfl ?_
  refine j_aload_n C dX4_struck_17 rfl 1 rfl 18 rfl ?_
  refine j4_get C 0 (by decide) qf_X4_9 (v := .ref (ad g 57)) rfl dX4_struck_18 21 rfl ?_
  refine j_bipush C dX4_struck_21 (v := 41) c_bipush_41 23 rfl ?_
  refine j_iload_n C dX4_struck_23 rfl 0 rfl 24 rfl ?_
  refine j_iadd C dX4_struck_24 25 rfl ?_
  refine j_bipush C dX4_struck_25 (v := 100) c_bipush_100 27 rfl ?_
  obtain ⟨S3, hS3, hf⟩ := bnd hf
  refine j4_ast 1 rfl C hS3 dX4_struck_27 28 rfl ?_
  refine j_aload_n C dX4_struck_28 rfl 1 rfl 29 rfl ?_
  refine j4_get C 0 (by decide) qf_X4_9 (v := .ref (ad g 57)) rfl dX4_struck_29 32 rfl ?_
  refine j_iconst C dX4_struck_32 (v := 4) c_iconst_4 33 rfl ?_
  refine j_dup2 C dX4_struck_33 rfl rfl 34 rfl ?_
  obtain ⟨v4, hv4, hf⟩ := bnd hf
  refine j4_ald 1 rfl C hv4 dX4_struck_34 35 rfl ?_
  refine j_iconst C dX4_struck_35 (v := 1) c_iconst_1 36 rfl ?_
  refine j_iadd C dX4_struck_36 37 rfl ?_
  obtain ⟨S5, hS5, hf⟩ := bnd hf
  refine j4_ast 1 rfl C hS5 dX4_struck_37 38 rfl ?_
  refine j_iload_n C dX4_struck_38 rfl 0 rfl 39 rfl ?_
  obtain ⟨rfl, rfl⟩ := Prod.mk.inj (Option.some.inj hf)
  exact j_iret C hr hlk dX4_struck_39
set_option maxRecDepth 100000 in
set_option maxHeartbeats 4000000 in
theorem c_X4_coin (l : Launch) (g : GG) (sz : Nat) (x S : St) (a1 : Int32) (r : Int32) (S' : St) (hf : X4_coin a1 S = some (r, S')) : Met l yX4_coin (.code yX4_coin cX4_coin 2 (some .int) :: ALLW) (rmJ 2 42) (PcJ g sz x S [.ref (ad g 56), .int a1]) (QiJ g sz r x S') 0 0 (Ag sz) := by
  refine j_met (own := RX4) (by decide) rfl (Nat.le_of_ble_eq_true rfl) rfl ?_
  intro p e s m args below meth c C hr hlk
  unfold X4_coin at hf
  refine j_iload_n C dX4_coin_0 rfl 1 rfl 1 rfl ?_
  refine j_callSi (As := [.int a1]) (rest := []) C (c_X4_isKind l g sz x S a1 _ rfl) (j_cwS C qc_X4_isKind qm_X4_96 qs_X4_isKind qn_X4 hd_X4_isKind ⟨rfl, rfl⟩ ⟨by decide, by decide⟩)  rfl (Nat.le_of_ble_eq_true rfl) dX4_coin_1 4 rfl ?_
  refine j_if_ne C dX4_coin_4 14 (by decide) 7 rfl (fun c1 => ?_) (fun c1 => ?_)
  · rw [if_neg c1] at hf
    refine j_aload_n C dX4_coin_14 rfl 0 rfl 15 rfl ?_
    refine j4_get C 0 (by decide) qf_X4_9 (v := .ref (ad g 57)) rfl dX4_coin_15 18 rfl ?_
    refine j_iconst C dX4_coin_18 (v := 4) c_iconst_4 19 rfl ?_
    obtain ⟨v2, hv2, hf⟩ := bnd hf
    refine j4_ald 1 rfl C hv2 dX4_coin_19 20 rfl ?_
    refine j_bipush C dX4_coin_20 (v := 24) c_bipush_24 22 rfl ?_
    refine j_icmp_ne C dX4_coin_22 34 (by decide) 25 rfl (fun c3 => ?_) (fun c3 => ?_)
    · rw [if_neg c3] at hf
      refine j_aload_n C dX4_coin_34 rfl 0 rfl 35 rfl ?_
      refine j_iload_n C dX4_coin_35 rfl 1 rfl 36 rfl ?_
      obtain ⟨⟨r5, S6⟩, hq4, hf⟩ := bnd hf
      dsimp only at hf
      refine j_callVi (As := [.int a1]) (rest := []) C (c_X4_struck l g sz x S  a1 _ _ hq4) (j_cwV C qc_X4_struck qm_X4_103 qi_X4_struck qs_X4_struck qn_X4 hd_X4_struck ⟨rfl, rfl⟩ ⟨by decide, by decide⟩) (rcv_mo.cell C.2) rfl (Nat.le_of_ble_eq_true rfl) dX4_coin_36 39 rfl ?_
      obtain ⟨rfl, rfl⟩ := Prod.mk.inj (Option.some.inj hf)
      exact j_iret C hr hlk dX4_coin_39
    · rw [if_pos c3] at hf
      refine j_aload_n C dX4_coin_25 rfl 0 rfl 26 rfl ?_
      refine j_ldc C dX4_coin_26 qk_X4_102 28 rfl ?_
      obtain ⟨⟨r8, S9⟩, hq7, hf⟩ := bnd hf
      dsimp only at hf
      refine j_callVi (As := [.int (-1000002)]) (rest := []) C (c_X4_finding l g sz x S  (-1000002) _ _ hq7) (j_cwV C qc_X4_finding qm_X4_99 qi_X4_finding qs_X4_finding qn_X4 hd_X4_finding ⟨rfl, rfl⟩ ⟨by decide, by decide⟩) (rcv_mo.cell C.2) rfl (Nat.le_of_ble_eq_true rfl) dX4_coin_28 31 rfl ?_
      refine j_goto C dX4_coin_31 39 (by decide) ?_
      obtain ⟨rfl, rfl⟩ := Prod.mk.inj (Option.some.inj hf)
      exact j_iret C hr hlk dX4_coin_39
  · rw [if_pos c1] at hf
    refine j_aload_n C dX4_coin_7 rfl 0 rfl 8 rfl ?_
    refine j_ldc C dX4_coin_8 qk_X4_72 10 rfl ?_
    obtain ⟨⟨r11, S12⟩, hq10, hf⟩ := bnd hf
    dsimp only at hf
    refine j_callVi (As := [.int (-1000001)]) (rest := []) C (c_X4_finding l g sz x S  (-1000001) _ _ hq10) (j_cwV C qc_X4_finding qm_X4_99 qi_X4_finding qs_X4_finding qn_X4 hd_X4_finding ⟨rfl, rfl⟩ ⟨by decide, by decide⟩) (rcv_mo.cell C.2) rfl (Nat.le_of_ble_eq_true rfl) dX4_coin_10 13 rfl ?_
    obtain ⟨rfl, rfl⟩ := Prod.mk.inj (Option.some.inj hf)
    exact j_iret C hr hlk dX4_coin_13
set_option maxRecDepth 100000 in
set_option maxHeartbeats 4000000 in
theorem c_X4_above (l : Launch) (g : GG) (sz : Nat) (x mm : St) (a0 : Int32) (r : Int32) (hf : X4_above a0 = r) : Met l yX4_above (.code yX4_above cX4_above 1 (some .int) :: ALLW) (rmJ 0 0) (PcJ g sz x mm [.int a0]) (QiJ g sz r x mm) 0 0 (Ag sz) := by
  refine j_met (own := RX4) (by decide) rfl (Nat.le_of_ble_eq_true rfl) rfl ?_
  intro p e s m args below meth c C hr hlk
  unfold X4_above at hf
  refine j_iload_n C dX4_above_0 rfl 0 rfl 1 rfl ?_
  refine j_if_ne C dX4_above_1 8 (by decide) 4 rfl (fun c1 => ?_) (fun c1 => ?_)
  · rw [if_neg c1] at hf
    refine j_iload_n C dX4_above_8 rfl 0 rfl 9 rfl ?_
    refine j_iconst C dX4_above_9 (v := 3) c_iconst_3 10 rfl ?_
    refine j_icmp_ne C dX4_above_10 17 (by decide) 13 rfl (fun c2 => ?_) (fun c2 => ?_)
    · rw [if_neg c2] at hf
      refine j_iload_n C dX4_above_17 rfl 0 rfl 18 rfl ?_
      refine j_iconst C dX4_above_18 (v := 4) c_iconst_4 19 rfl ?_
      refine j_icmp_ne C dX4_above_19 26 (by decide) 22 rfl (fun c3 => ?_) (fun c3 => ?_)
      · rw [if_neg c3] at hf
        refine j_iload_n C dX4_above_26 rfl 0 rfl 27 rfl ?_
        refine j_bipush C dX4_above_27 (v := 6) c_bipush_6 29 rfl ?_
        refine j_icmp_ne C dX4_above_29 36 (by decide) 32 rfl (fun c4 => ?_) (fun c4 => ?_)
        · rw [if_neg c4] at hf
          refine j_iconst C dX4_above_36 (v := 0) c_iconst_0 37 rfl ?_
          subst hf
          exact j_iret C hr hlk dX4_above_37
        · rw [if_pos c4] at hf
          refine j_iconst C dX4_above_32 (v := 5) c_iconst_5 33 rfl ?_
          refine j_goto C dX4_above_33 37 (by decide) ?_
          subst hf
          exact j_iret C hr hlk dX4_above_37
      · rw [if_pos c3] at hf
        refine j_iconst C dX4_above_22 (v := 2) c_iconst_2 23 rfl ?_
        refine j_goto C dX4_above_23 37 (by decide) ?_
        subst hf
        exact j_iret C hr hlk dX4_above_37
    · rw [if_pos c2] at hf
      refine j_iconst C dX4_above_13 (v := 1) c_iconst_1 14 rfl ?_
      refine j_goto C dX4_above_14 37 (by decide) ?_
      subst hf
      exact j_iret C hr hlk dX4_above_37
  · rw [if_pos c1] at hf
    refine j_iconst C dX4_above_4 (v := (-1)) c_iconst_m1 5 rfl ?_
    refine j_goto C dX4_above_5 37 (by decide) ?_
    subst hf
    exact j_iret C hr hlk dX4_above_37
set_option maxRecDepth 100000 in
set_option maxHeartbeats 4000000 in
theorem c_X4_isUnder (l : Launch) (g : GG) (sz : Nat) (x mm : St) (a0 : Int32) (a1 : Int32) (r : Int32) (hf : X4_isUnder a0 a1 = some r) : Met l yX4_isUnder (.code yX4_isUnder cX4_isUnder 3 (some .boolean) :: ALLW) (rmJ 1 20) (PcJ g sz x mm [.int a0, .int a1]) (QiJ g sz r x mm) 0 0 (Ag sz) := by
  refine j_met (own := RX4) (by decide) rfl (Nat.le_of_ble_eq_true rfl) rfl ?_
  intro p e s m args below meth c C hr hlk
  have hL2 : ∀ (n : Nat), ∀ (b1 : Int32) (b2 : Int32), X4_isUnder_L2 n b1 b2 = some r → Wj p l e (rmJ 1 20) s m args below meth c (MQ below (QiJ g sz r x mm) args s 0 0 (Ag sz)) 3 g sz x mm 2 [(1, .int b1), (2, .int b2)] [] := by
    intro  n
    induction n with
    | zero =>
      intro b1 b2 hf
      rw [X4_isUnder_L2] at hf
      cases hf
    | succ n ih =>
      intro b1 b2 hf
      rw [X4_isUnder_L2] at hf
      refine j_iload_n C dX4_isUnder_2 rfl 1 rfl 3 rfl ?_
      refine j_if_lt C dX4_isUnder_3 19 (by decide) 6 rfl (fun c1 => ?_) (fun c1 => ?_)
      · rw [if_pos c1] at hf
        refine j_iload_n C dX4_isUnder_19 rfl 1 rfl 20 rfl ?_
        refine j_if_lt C dX4_isUnder_20 27 (by decide) 23 rfl (fun c2 => ?_) (fun c2 => ?_)
        · rw [if_pos c2] at hf
          refine j_iconst C dX4_isUnder_27 (v := 0) c_iconst_0 28 rfl ?_
          obtain rfl := Option.some.inj hf
          exact j_zret C hr hlk (Or.inl rfl) dX4_isUnder_28
        · rw [if_neg c2] at hf
          refine j_iconst C dX4_isUnder_23 (v := 1) c_iconst_1 24 rfl ?_
          refine j_goto C dX4_isUnder_24 28 (by decide) ?_
          obtain rfl := Option.some.inj hf
          exact j_zret C hr hlk (Or.inr rfl) dX4_isUnder_28
      · rw [if_neg c1] at hf
        refine j_iload_n C dX4_isUnder_6 rfl 1 rfl 7 rfl ?_
        refine j_iload_n C dX4_isUnder_7 rfl 0 rfl 8 rfl ?_
        refine j_icmp_eq C dX4_isUnder_8 19 (by decide) 11 rfl (fun c3 => ?_) (fun c3 => ?_)
        · rw [if_pos c3] at hf
          refine j_iload_n C dX4_isUnder_19 rfl 1 rfl 20 rfl ?_
          refine j_if_lt C dX4_isUnder_20 27 (by decide) 23 rfl (fun c4 => ?_) (fun c4 => ?_)
          · rw [if_pos c4] at hf
            refine j_iconst C dX4_isUnder_27 (v := 0) c_iconst_0 28 rfl ?_
            obtain rfl := Option.some.inj hf
            exact j_zret C hr hlk (Or.inl rfl) dX4_isUnder_28
          · rw [if_neg c4] at hf
            refine j_iconst C dX4_isUnder_23 (v := 1) c_iconst_1 24 rfl ?_
            refine j_goto C dX4_isUnder_24 28 (by decide) ?_
            obtain rfl := Option.some.inj hf
            exact j_zret C hr hlk (Or.inr rfl) dX4_isUnder_28
        · rw [if_neg c3] at hf
          refine j_iload_n C dX4_isUnder_11 rfl 1 rfl 12 rfl ?_
          refine j_callSi (As := [.int b2]) (rest := []) C (c_X4_above l g sz x mm b2 _ rfl) (j_cwS C qc_X4_above qm_X4_106 qs_X4_above qn_X4 hd_X4_above ⟨rfl, rfl⟩ ⟨by decide, by decide⟩)  rfl (Nat.le_of_ble_eq_true rfl) dX4_isUnder_12 15 rfl ?_
          refine j_istore_n (lv2 := [(2, .int (X4_above b2)), (1, .int b1)]) C dX4_isUnder_15 rfl (by decide) rfl 16 rfl ?_
          refine j_goto C dX4_isUnder_16 2 (by decide) ?_
          refine j_sub [1, 0] rfl ?_
          exact ih b1 (X4_above b2) hf
  unfold X4_isUnder at hf
  refine j_iload_n C dX4_isUnder_0 rfl 0 rfl 1 rfl ?_
  refine j_istore_n (lv2 := [(2, .int a0), (0, .int a0), (1, .int a1)]) C dX4_isUnder_1 rfl (by decide) rfl 2 rfl ?_
  refine j_sub [2, 0] rfl ?_
  exact hL2 FU a1 a0 hf
set_option maxRecDepth 100000 in
set_option maxHeartbeats 4000000 in
theorem c_X4_kindOf (l : Launch) (g : GG) (sz : Nat) (x S : St) (a1 : Int32) (r : Int32) (hf : X4_kindOf a1 S = some r) : Met l yX4_kindOf (.code yX4_kindOf cX4_kindOf 2 (some .int) :: ALLW) (rmJ 0 0) (PcJ g sz x S [.ref (ad g 56), .int a1]) (QiJ g sz r x S) 0 0 (Ag sz) := by
  refine j_met (own := RX4) (by decide) rfl (Nat.le_of_ble_eq_true rfl) rfl ?_
  intro p e s m args below meth c C hr hlk
  unfold X4_kindOf at hf
  refine j_aload_n C dX4_kindOf_0 rfl 0 rfl 1 rfl ?_
  refine j4_get C 0 (by decide) qf_X4_9 (v := .ref (ad g 57)) rfl dX4_kindOf_1 4 rfl ?_
  refine j_bipush C dX4_kindOf_4 (v := 17) c_bipush_17 6 rfl ?_
  refine j_iload_n C dX4_kindOf_6 rfl 1 rfl 7 rfl ?_
  refine j_iadd C dX4_kindOf_7 8 rfl ?_
  obtain ⟨v1, hv1, hf⟩ := bnd hf
  refine j4_ald 1 rfl C hv1 dX4_kindOf_8 9 rfl ?_
  obtain rfl := Option.some.inj hf
  exact j_iret C hr hlk dX4_kindOf_9
set_option maxRecDepth 100000 in
set_option maxHeartbeats 4000000 in
theorem c_X4_worth (l : Launch) (g : GG) (sz : Nat) (x S : St) (a1 : Int32) (r : Int32) (hf : X4_worth a1 S = some r) : Met l yX4_worth (.code yX4_worth cX4_worth 2 (some .int) :: ALLW) (rmJ 1 21) (PcJ g sz x S [.ref (ad g 56), .int a1]) (QiJ g sz r x S) 0 0 (Ag sz) := by
  refine j_met (own := RX4) (by decide) rfl (Nat.le_of_ble_eq_true rfl) rfl ?_
  intro p e s m args below meth c C hr hlk
  unfold X4_worth at hf
  refine j_aload_n C dX4_worth_0 rfl 0 rfl 1 rfl ?_
  refine j_iload_n C dX4_worth_1 rfl 1 rfl 2 rfl ?_
  obtain ⟨r1, hr1, hf⟩ := bnd hf
  refine j_callVi (As := [.int a1]) (rest := []) C (c_X4_kindOf l g sz x S  a1 _ hr1) (j_cwV C qc_X4_kindOf qm_X4_109 qi_X4_kindOf qs_X4_kindOf qn_X4 hd_X4_kindOf ⟨rfl, rfl⟩ ⟨by decide, by decide⟩) (rcv_mo.cell C.2) rfl (Nat.le_of_ble_eq_true rfl) dX4_worth_2 5 rfl ?_
  by_cases c2 : r1 = 0
  · rw [if_pos c2] at hf
    refine j_tableIn C dX4_worth_5 (by rw [c2]; decide) (by rw [c2]; decide) (by rw [c2]; rfl) 40 (by decide) ?_
    refine j_iconst C dX4_worth_40 (v := 1) c_iconst_1 41 rfl ?_
    obtain rfl := Option.some.inj hf
    exact j_iret C hr hlk dX4_worth_41
  · rw [if_neg c2] at hf
    by_cases c3 : r1 = 1
    · rw [if_pos c3] at hf
      refine j_tableIn C dX4_worth_5 (by rw [c3]; decide) (by rw [c3]; decide) (by rw [c3]; rfl) 42 (by decide) ?_
      refine j_iconst C dX4_worth_42 (v := 2) c_iconst_2 43 rfl ?_
      obtain rfl := Option.some.inj hf
      exact j_iret C hr hlk dX4_worth_43
    · rw [if_neg c3] at hf
      by_cases c4 : r1 = 2
      · rw [if_pos c4] at hf
        refine j_tableIn C dX4_worth_5 (by rw [c4]; decide) (by rw [c4]; decide) (by rw [c4]; rfl) 44 (by decide) ?_
        refine j_bipush C dX4_worth_44 (v := 50) c_bipush_50 46 rfl ?_
        obtain rfl := Option.some.inj hf
        exact j_iret C hr hlk dX4_worth_46
      · rw [if_neg c4] at hf
        by_cases c5 : r1 = 3
        · rw [if_pos c5] at hf
          refine j_tableIn C dX4_worth_5 (by rw [c5]; decide) (by rw [c5]; decide) (by rw [c5]; rfl) 47 (by decide) ?_
          refine j_iconst C dX4_worth_47 (v := 5) c_iconst_5 48 rfl ?_
          obtain rfl := Option.some.inj hf
          exact j_iret C hr hlk dX4_worth_48
        · rw [if_neg c5] at hf
          by_cases c6 : r1 = 4
          · rw [if_pos c6] at hf
            refine j_tableIn C dX4_worth_5 (by rw [c6]; decide) (by rw [c6]; decide) (by rw [c6]; rfl) 49 (by decide) ?_
            refine j_bipush C dX4_worth_49 (v := 25) c_bipush_25 51 rfl ?_
            obtain rfl := Option.some.inj hf
            exact j_iret C hr hlk dX4_worth_51
          · rw [if_neg c6] at hf
            refine j_tableOut C dX4_worth_5 (sw_out4 c2 c3 c4 c5 c6) 52 (by decide) ?_
            refine j_iconst C dX4_worth_52 (v := 0) c_iconst_0 53 rfl ?_
            obtain rfl := Option.some.inj hf
            exact j_iret C hr hlk dX4_worth_53
set_option maxRecDepth 100000 in
set_option maxHeartbeats 4000000 in
theorem c_X4_weighs (l : Launch) (g : GG) (sz : Nat) (x S : St) (a1 : Int32) (r : Int32) (hf : X4_weighs a1 S = some r) : Met l yX4_weighs (.code yX4_weighs cX4_weighs 3 (some .int) :: ALLW) (rmJ 2 42) (PcJ g sz x S [.ref (ad g 56), .int a1]) (QiJ g sz r x S) 0 0 (Ag sz) := by
  refine j_met (own := RX4) (by decide) rfl (Nat.le_of_ble_eq_true rfl) rfl ?_
  intro p e s m args below meth c C hr hlk
  unfold X4_weighs at hf
  refine j_aload_n C dX4_weighs_0 rfl 0 rfl 1 rfl ?_
  refine j_iload_n C dX4_weighs_1 rfl 1 rfl 2 rfl ?_
  obtain ⟨r1, hr1, hf⟩ := bnd hf
  refine j_callVi (As := [.int a1]) (rest := []) C (c_X4_kindOf l g sz x S  a1 _ hr1) (j_cwV C qc_X4_kindOf qm_X4_109 qi_X4_kindOf qs_X4_kindOf qn_X4 hd_X4_kindOf ⟨rfl, rfl⟩ ⟨by decide, by decide⟩) (rcv_mo.cell C.2) rfl (Nat.le_of_ble_eq_true rfl) dX4_weighs_2 5 rfl ?_
  refine j_istore_n (lv2 := [(2, .int r1), (0, .ref (ad g 56)), (1, .int a1)]) C dX4_weighs_5 rfl (by decide) rfl 6 rfl ?_
  refine j_iconst C dX4_weighs_6 (v := 1) c_iconst_1 7 rfl ?_
  refine j_iload_n C dX4_weighs_7 rfl 0 rfl 8 rfl ?_
  refine j_iconst C dX4_weighs_8 (v := 2) c_iconst_2 9 rfl ?_
  obtain ⟨r2, hr2, hf⟩ := bnd hf
  refine j_callSi (As := [.int r1, .int 2]) (rest := [.int 1]) C (c_X4_isUnder l g sz x S r1 2 _ hr2) (j_cwS C qc_X4_isUnder qm_X4_112 qs_X4_isUnder qn_X4 hd_X4_isUnder ⟨rfl, rfl⟩ ⟨by decide, by decide⟩)  rfl (Nat.le_of_ble_eq_true rfl) dX4_weighs_9 12 rfl ?_
  refine j_if_eq C dX4_weighs_12 19 (by decide) 15 rfl (fun c3 => ?_) (fun c3 => ?_)
  · rw [if_pos c3] at hf
    refine j_iload_n C dX4_weighs_19 rfl 0 rfl 20 rfl ?_
    refine j_iconst C dX4_weighs_20 (v := 1) c_iconst_1 21 rfl ?_
    refine j_icmp_ne C dX4_weighs_21 28 (by decide) 24 rfl (fun c4 => ?_) (fun c4 => ?_)
    · rw [if_neg c4] at hf
      refine j_iload_n C dX4_weighs_28 rfl 0 rfl 29 rfl ?_
      refine j_iconst C dX4_weighs_29 (v := 3) c_iconst_3 30 rfl ?_
      refine j_icmp_eq C dX4_weighs_30 39 (by decide) 33 rfl (fun c5 => ?_) (fun c5 => ?_)
      · rw [if_pos c5] at hf
        refine j_iconst C dX4_weighs_39 (v := 2) c_iconst_2 40 rfl ?_
        refine j_goto C dX4_weighs_40 44 (by decide) ?_
        refine j_iadd C dX4_weighs_44 45 rfl ?_
        obtain rfl := Option.some.inj hf
        exact j_iret C hr hlk dX4_weighs_45
      · rw [if_neg c5] at hf
        refine j_iload_n C dX4_weighs_33 rfl 0 rfl 34 rfl ?_
        refine j_bipush C dX4_weighs_34 (v := 6) c_bipush_6 36 rfl ?_
        refine j_icmp_ne C dX4_weighs_36 43 (by decide) 39 rfl (fun c6 => ?_) (fun c6 => ?_)
        · rw [if_neg c6] at hf
          refine j_iconst C dX4_weighs_43 (v := 0) c_iconst_0 44 rfl ?_
          refine j_iadd C dX4_weighs_44 45 rfl ?_
          obtain rfl := Option.some.inj hf
          exact j_iret C hr hlk dX4_weighs_45
        · rw [if_pos c6] at hf
          refine j_iconst C dX4_weighs_39 (v := 2) c_iconst_2 40 rfl ?_
          refine j_goto C dX4_weighs_40 44 (by decide) ?_
          refine j_iadd C dX4_weighs_44 45 rfl ?_
          obtain rfl := Option.some.inj hf
          exact j_iret C hr hlk dX4_weighs_45
    · rw [if_pos c4] at hf
      refine j_iconst C dX4_weighs_24 (v := 1) c_iconst_1 25 rfl ?_
      refine j_goto C dX4_weighs_25 44 (by decide) ?_
      refine j_iadd C dX4_weighs_44 45 rfl ?_
      obtain rfl := Option.some.inj hf
      exact j_iret C hr hlk dX4_weighs_45
  · rw [if_neg c3] at hf
    refine j_iconst C dX4_weighs_15 (v := 4) c_iconst_4 16 rfl ?_
    refine j_goto C dX4_weighs_16 44 (by decide) ?_
    refine j_iadd C dX4_weighs_44 45 rfl ?_
    obtain rfl := Option.some.inj hf
    exact j_iret C hr hlk dX4_weighs_45
set_option maxRecDepth 100000 in
set_option maxHeartbeats 4000000 in
theorem c_X4_slides (l : Launch) (g : GG) (sz : Nat) (x S : St) (a1 : Int32) (r : Int32) (hf : X4_slides a1 S = some r) : Met l yX4_slides (.code yX4_slides cX4_slides 2 (some .boolean) :: ALLW) (rmJ 1 21) (PcJ g sz x S [.ref (ad g 56), .int a1]) (QiJ g sz r x S) 0 0 (Ag sz) := by
  refine j_met (own := RX4) (by decide) rfl (Nat.le_of_ble_eq_true rfl) rfl ?_
  intro p e s m args below meth c C hr hlk
  unfold X4_slides at hf
  refine j_aload_n C dX4_slides_0 rfl 0 rfl 1 rfl ?_
  refine j_iload_n C dX4_slides_1 rfl 1 rfl 2 rfl ?_
  obtain ⟨r1, hr1, hf⟩ := bnd hf
  refine j_callVi (As := [.int a1]) (rest := []) C (c_X4_kindOf l g sz x S  a1 _ hr1) (j_cwV C qc_X4_kindOf qm_X4_109 qi_X4_kindOf qs_X4_kindOf qn_X4 hd_X4_kindOf ⟨rfl, rfl⟩ ⟨by decide, by decide⟩) (rcv_mo.cell C.2) rfl (Nat.le_of_ble_eq_true rfl) dX4_slides_2 5 rfl ?_
  refine j_iconst C dX4_slides_5 (v := 2) c_iconst_2 6 rfl ?_
  refine j_icmp_eq C dX4_slides_6 23 (by decide) 9 rfl (fun c2 => ?_) (fun c2 => ?_)
  · rw [if_pos c2] at hf
    refine j_iconst C dX4_slides_23 (v := 0) c_iconst_0 24 rfl ?_
    obtain rfl := Option.some.inj hf
    exact j_zret C hr hlk (Or.inl rfl) dX4_slides_24
  · rw [if_neg c2] at hf
    refine j_aload_n C dX4_slides_9 rfl 0 rfl 10 rfl ?_
    refine j_iload_n C dX4_slides_10 rfl 1 rfl 11 rfl ?_
    obtain ⟨r3, hr3, hf⟩ := bnd hf
    refine j_callVi (As := [.int a1]) (rest := []) C (c_X4_kindOf l g sz x S  a1 _ hr3) (j_cwV C qc_X4_kindOf qm_X4_109 qi_X4_kindOf qs_X4_kindOf qn_X4 hd_X4_kindOf ⟨rfl, rfl⟩ ⟨by decide, by decide⟩) (rcv_mo.cell C.2) rfl (Nat.le_of_ble_eq_true rfl) dX4_slides_11 14 rfl ?_
    refine j_bipush C dX4_slides_14 (v := 6) c_bipush_6 16 rfl ?_
    refine j_icmp_eq C dX4_slides_16 23 (by decide) 19 rfl (fun c4 => ?_) (fun c4 => ?_)
    · rw [if_pos c4] at hf
      refine j_iconst C dX4_slides_23 (v := 0) c_iconst_0 24 rfl ?_
      obtain rfl := Option.some.inj hf
      exact j_zret C hr hlk (Or.inl rfl) dX4_slides_24
    · rw [if_neg c4] at hf
      refine j_iconst C dX4_slides_19 (v := 1) c_iconst_1 20 rfl ?_
      refine j_goto C dX4_slides_20 24 (by decide) ?_
      obtain rfl := Option.some.inj hf
      exact j_zret C hr hlk (Or.inr rfl) dX4_slides_24
set_option maxRecDepth 100000 in
set_option maxHeartbeats 4000000 in
theorem c_X4_of (l : Launch) (g : GG) (sz : Nat) (x S : St) (a1 : Int32) (a2 : Int32) (r : Int32) (S' : St) (hf : X4_of a1 a2 S = some (r, S')) : Met l yX4_of (.code yX4_of cX4_of 6 (some .int) :: ALLW) (rmJ 3 64) (PcJ g sz x S [.ref (ad g 56), .int a1, .int a2]) (QiJ g sz r x S') 0 0 (Ag sz) := by
  refine j_met (own := RX4) (by decide) rfl (Nat.le_of_ble_eq_true rfl) rfl ?_
  intro p e s m args below meth c C hr hlk
  have hL83 : ∀ (n : Nat), ∀ (b1 : Int32) (b3 : Int32) (b4 : Int32) (b5 : Int32) (S : St), X4_of_L83 n b1 b3 b4 b5 S = some (r, S') → Wj p l e (rmJ 3 64) s m args below meth c (MQ below (QiJ g sz r x S') args s 0 0 (Ag sz)) 6 g sz x S 83 [(0, .ref (ad g 56)), (1, .int b1), (3, .int b3), (4, .int b4), (5, .int b5)] [] := by
    intro  n
    induction n with
    | zero =>
      intro b1 b3 b4 b5 S hf
      rw [X4_of_L83] at hf
      cases hf
    | succ n ih =>
      intro b1 b3 b4 b5 S hf
      rw [X4_of_L83] at hf
      refine j_iload_n C dX4_of_83 rfl 2 rfl 84 rfl ?_
      refine j_bipush C dX4_of_84 (v := 100) c_bipush_100 86 rfl ?_
      refine j_icmp_ge C dX4_of_86 145 (by decide) 89 rfl (fun c12 => ?_) (fun c12 => ?_)
      · rw [if_pos c12] at hf
        refine j_iload C dX4_of_145 3 rfl 147 rfl ?_
        obtain ⟨rfl, rfl⟩ := Prod.mk.inj (Option.some.inj hf)
        exact j_iret C hr hlk dX4_of_147
      · rw [if_neg c12] at hf
        refine j_iload C dX4_of_89 4 rfl 91 rfl ?_
        refine j_aload_n C dX4_of_91 rfl 0 rfl 92 rfl ?_
        refine j_iload_n C dX4_of_92 rfl 2 rfl 93 rfl ?_
        refine j_bipush C dX4_of_93 (v := 10) c_bipush_10 95 rfl ?_
        refine j_idivc C dX4_of_95 (by decide) 96 rfl ?_
        refine j_iload_n C dX4_of_96 rfl 2 rfl 97 rfl ?_
        refine j_bipush C dX4_of_97 (v := 10) c_bipush_10 99 rfl ?_
        refine j_iremc C dX4_of_99 (by decide) 100 rfl ?_
        refine j_callSi (As := [.int (b3 / 10), .int (irm b3 10)]) (rest := [.ref (ad g 56), .int b5]) C (c_X4_cellOf l g sz x S (b3 / 10) (irm b3 10) _ rfl) (j_cwS C qc_X4_cellOf qm_X4_119 qs_X4_cellOf qn_X4 hd_X4_cellOf ⟨rfl, rfl⟩ ⟨by decide, by decide⟩)  rfl (Nat.le_of_ble_eq_true rfl) dX4_of_100 103 rfl ?_
        obtain ⟨r13, hr13, hf⟩ := bnd hf
        refine j_callVi (As := [.int (X4_cellOf (b3 / 10) (irm b3 10))]) (rest := [.int b5]) C (c_X4_highOf l g sz x S  (X4_cellOf (b3 / 10) (irm b3 10)) _ hr13) (j_cwV C qc_X4_highOf qm_X4_85 qi_X4_highOf qs_X4_highOf qn_X4 hd_X4_highOf ⟨rfl, rfl⟩ ⟨by decide, by decide⟩) (rcv_mo.cell C.2) rfl (Nat.le_of_ble_eq_true rfl) dX4_of_103 106 rfl ?_
        refine j_icmp_ge C dX4_of_106 145 (by decide) 109 rfl (fun c14 => ?_) (fun c14 => ?_)
        · rw [if_pos c14] at hf
          refine j_iload C dX4_of_145 3 rfl 147 rfl ?_
          obtain ⟨rfl, rfl⟩ := Prod.mk.inj (Option.some.inj hf)
          exact j_iret C hr hlk dX4_of_147
        · rw [if_neg c14] at hf
          refine j_aload_n C dX4_of_109 rfl 0 rfl 110 rfl ?_
          refine j_iload_n C dX4_of_110 rfl 2 rfl 111 rfl ?_
          refine j_bipush C dX4_of_111 (v := 10) c_bipush_10 113 rfl ?_
          refine j_idivc C dX4_of_113 (by decide) 114 rfl ?_
          refine j_iload_n C dX4_of_114 rfl 2 rfl 115 rfl ?_
          refine j_bipush C dX4_of_115 (v := 10) c_bipush_10 117 rfl ?_
          refine j_iremc C dX4_of_117 (by decide) 118 rfl ?_
          refine j_callSi (As := [.int (b3 / 10), .int (irm b3 10)]) (rest := [.ref (ad g 56)]) C (c_X4_cellOf l g sz x S (b3 / 10) (irm b3 10) _ rfl) (j_cwS C qc_X4_cellOf qm_X4_119 qs_X4_cellOf qn_X4 hd_X4_cellOf ⟨rfl, rfl⟩ ⟨by decide, by decide⟩)  rfl (Nat.le_of_ble_eq_true rfl) dX4_of_118 121 rfl ?_
          refine j_iload C dX4_of_121 4 rfl 123 rfl ?_
          obtain ⟨r15, hr15, hf⟩ := bnd hf
          refine j_callVi (As := [.int (X4_cellOf (b3 / 10) (irm b3 10)), .int b5]) (rest := []) C (c_X4_coinAt l g sz x S  (X4_cellOf (b3 / 10) (irm b3 10)) b5 _ hr15) (j_cwV C qc_X4_coinAt qm_X4_89 qi_X4_coinAt qs_X4_coinAt qn_X4 hd_X4_coinAt ⟨rfl, rfl⟩ ⟨by decide, by decide⟩) (rcv_mo.cell C.2) rfl (Nat.le_of_ble_eq_true rfl) dX4_of_123 126 rfl ?_
          refine j_iload_n C dX4_of_126 rfl 1 rfl 127 rfl ?_
          refine j_icmp_ne C dX4_of_127 135 (by decide) 130 rfl (fun c16 => ?_) (fun c16 => ?_)
          · rw [if_neg c16] at hf
            refine j_iload C dX4_of_135 3 rfl 137 rfl ?_
            refine j_istore (lv2 := [(4, .int b4), (0, .ref (ad g 56)), (1, .int b1), (3, .int b3), (5, .int b5)]) C dX4_of_137 (by decide) rfl 139 rfl ?_
            refine j_iinc (lv2 := [(5, .int (b5 + 1)), (4, .int b4), (0, .ref (ad g 56)), (1, .int b1), (3, .int b3)]) C dX4_of_139 (k := 4) rfl (congrArg (HAdd.hAdd b5) c_oi_1) (by decide) rfl 142 rfl ?_
            refine j_goto C dX4_of_142 83 (by decide) ?_
            refine j_sub [2, 3, 4, 1, 0] rfl ?_
            exact ih b1 b3 b4 (b5 + 1) S hf
          · rw [if_pos c16] at hf
            refine j_iload C dX4_of_130 4 rfl 132 rfl ?_
            refine j_goto C dX4_of_132 137 (by decide) ?_
            refine j_istore (lv2 := [(4, .int b5), (0, .ref (ad g 56)), (1, .int b1), (3, .int b3), (5, .int b5)]) C dX4_of_137 (by decide) rfl 139 rfl ?_
            refine j_iinc (lv2 := [(5, .int (b5 + 1)), (4, .int b5), (0, .ref (ad g 56)), (1, .int b1), (3, .int b3)]) C dX4_of_139 (k := 4) rfl (congrArg (HAdd.hAdd b5) c_oi_1) (by decide) rfl 142 rfl ?_
            refine j_goto C dX4_of_142 83 (by decide) ?_
            refine j_sub [2, 3, 4, 1, 0] rfl ?_
            exact ih b1 b3 b5 (b5 + 1) S hf
  unfold X4_of at hf
  refine j_aload_n C dX4_of_0 rfl 0 rfl 1 rfl ?_
  refine j_iload_n C dX4_of_1 rfl 1 rfl 2 rfl ?_
  obtain ⟨r1, hr1, hf⟩ := bnd hf
  refine j_callVi (As := [.int a1]) (rest := []) C (c_X4_isCoin l g sz x S  a1 _ hr1) (j_cwV C qc_X4_isCoin qm_X4_116 qi_X4_isCoin qs_X4_isCoin qn_X4 hd_X4_isCoin ⟨rfl, rfl⟩ ⟨by decide, by decide⟩) (rcv_mo.cell C.2) rfl (Nat.le_of_ble_eq_true rfl) dX4_of_2 5 rfl ?_
  refine j_if_eq C dX4_of_5 17 (by decide) 8 rfl (fun c2 => ?_) (fun c2 => ?_)
  · rw [if_pos c2] at hf
    refine j_aload_n C dX4_of_17 rfl 0 rfl 18 rfl ?_
    refine j_ldc C dX4_of_18 qk_X4_72 20 rfl ?_
    obtain ⟨⟨r4, S5⟩, hq3, hf⟩ := bnd hf
    dsimp only at hf
    refine j_callVi (As := [.int (-1000001)]) (rest := []) C (c_X4_finding l g sz x S  (-1000001) _ _ hq3) (j_cwV C qc_X4_finding qm_X4_99 qi_X4_finding qs_X4_finding qn_X4 hd_X4_finding ⟨rfl, rfl⟩ ⟨by decide, by decide⟩) (rcv_mo.cell C.2) rfl (Nat.le_of_ble_eq_true rfl) dX4_of_20 23 rfl ?_
    obtain ⟨rfl, rfl⟩ := Prod.mk.inj (Option.some.inj hf)
    exact j_iret C hr hlk dX4_of_23
  · rw [if_neg c2] at hf
    refine j_iload_n C dX4_of_8 rfl 2 rfl 9 rfl ?_
    refine j_iconst C dX4_of_9 (v := 0) c_iconst_0 10 rfl ?_
    refine j_iconst C dX4_of_10 (v := 5) c_iconst_5 11 rfl ?_
    refine j_callSi (As := [.int a2, .int 0, .int 5]) (rest := []) C (c_X4_within l g sz x S a2 0 5 _ rfl) (j_cwS C qc_X4_within qm_X4_77 qs_X4_within qn_X4 hd_X4_within ⟨rfl, rfl⟩ ⟨by decide, by decide⟩)  rfl (Nat.le_of_ble_eq_true rfl) dX4_of_11 14 rfl ?_
    refine j_if_ne C dX4_of_14 24 (by decide) 17 rfl (fun c6 => ?_) (fun c6 => ?_)
    · rw [if_neg c6] at hf
      refine j_aload_n C dX4_of_24 rfl 0 rfl 25 rfl ?_
      refine j4_get C 0 (by decide) qf_X4_9 (v := .ref (ad g 57)) rfl dX4_of_25 28 rfl ?_
      refine j_bipush C dX4_of_28 (v := 41) c_bipush_41 30 rfl ?_
      refine j_iload_n C dX4_of_30 rfl 1 rfl 31 rfl ?_
      refine j_iadd C dX4_of_31 32 rfl ?_
      obtain ⟨v7, hv7, hf⟩ := bnd hf
      refine j4_ald 1 rfl C hv7 dX4_of_32 33 rfl ?_
      refine j_istore_n (lv2 := [(3, .int v7), (0, .ref (ad g 56)), (1, .int a1), (2, .int a2)]) C dX4_of_33 rfl (by decide) rfl 34 rfl ?_
      refine j_iconst C dX4_of_34 (v := 0) c_iconst_0 35 rfl ?_
      refine j_istore (lv2 := [(4, .int 0), (3, .int v7), (0, .ref (ad g 56)), (1, .int a1), (2, .int a2)]) C dX4_of_35 (by decide) rfl 37 rfl ?_
      refine j_iload_n C dX4_of_37 rfl 4 rfl 38 rfl ?_
      by_cases c8 : a2 = 0
      · rw [if_pos c8] at hf
        refine j_tableIn C dX4_of_38 (by rw [c8]; decide) (by rw [c8]; decide) (by rw [c8]; rfl) 72 (by decide) ?_
        refine j_aload_n C dX4_of_72 rfl 2 rfl 73 rfl ?_
        refine j_iload_n C dX4_of_73 rfl 3 rfl 74 rfl ?_
        obtain ⟨r9, hr9, hf⟩ := bnd hf
        refine j_callVi (As := [.int a1]) (rest := []) C (c_X4_kindOf l g sz x S  a1 _ hr9) (j_cwV C qc_X4_kindOf qm_X4_109 qi_X4_kindOf qs_X4_kindOf qn_X4 hd_X4_kindOf ⟨rfl, rfl⟩ ⟨by decide, by decide⟩) (rcv_mo.cell C.2) rfl (Nat.le_of_ble_eq_true rfl) dX4_of_74 77 rfl ?_
        obtain ⟨rfl, rfl⟩ := Prod.mk.inj (Option.some.inj hf)
        exact j_iret C hr hlk dX4_of_77
      · rw [if_neg c8] at hf
        by_cases c10 : a2 = 1
        · rw [if_pos c10] at hf
          refine j_tableIn C dX4_of_38 (by rw [c10]; decide) (by rw [c10]; decide) (by rw [c10]; rfl) 78 (by decide) ?_
          refine j_iload_n C dX4_of_78 rfl 1 rfl 79 rfl ?_
          obtain ⟨rfl, rfl⟩ := Prod.mk.inj (Option.some.inj hf)
          exact j_iret C hr hlk dX4_of_79
        · rw [if_neg c10] at hf
          by_cases c11 : a2 = 2
          · rw [if_pos c11] at hf
            refine j_tableIn C dX4_of_38 (by rw [c11]; decide) (by rw [c11]; decide) (by rw [c11]; rfl) 80 (by decide) ?_
            refine j_iconst C dX4_of_80 (v := 0) c_iconst_0 81 rfl ?_
            refine j_istore (lv2 := [(5, .int 0), (4, .int 0), (3, .int v7), (0, .ref (ad g 56)), (1, .int a1), (2, .int a2)]) C dX4_of_81 (by decide) rfl 83 rfl ?_
            refine j_sub [3, 4, 2, 1, 0] rfl ?_
            exact hL83 FU a1 v7 0 0 S hf
          · rw [if_neg c11] at hf
            by_cases c17 : a2 = 3
            · rw [if_pos c17] at hf
              refine j_tableIn C dX4_of_38 (by rw [c17]; decide) (by rw [c17]; decide) (by rw [c17]; rfl) 148 (by decide) ?_
              refine j_aload_n C dX4_of_148 rfl 2 rfl 149 rfl ?_
              refine j_iload_n C dX4_of_149 rfl 3 rfl 150 rfl ?_
              obtain ⟨r18, hr18, hf⟩ := bnd hf
              refine j_callVi (As := [.int a1]) (rest := []) C (c_X4_worth l g sz x S  a1 _ hr18) (j_cwV C qc_X4_worth qm_X4_122 qi_X4_worth qs_X4_worth qn_X4 hd_X4_worth ⟨rfl, rfl⟩ ⟨by decide, by decide⟩) (rcv_mo.cell C.2) rfl (Nat.le_of_ble_eq_true rfl) dX4_of_150 153 rfl ?_
              obtain ⟨rfl, rfl⟩ := Prod.mk.inj (Option.some.inj hf)
              exact j_iret C hr hlk dX4_of_153
            · rw [if_neg c17] at hf
              by_cases c19 : a2 = 4
              · rw [if_pos c19] at hf
                refine j_tableIn C dX4_of_38 (by rw [c19]; decide) (by rw [c19]; decide) (by rw [c19]; rfl) 154 (by decide) ?_
                refine j_aload_n C dX4_of_154 rfl 2 rfl 155 rfl ?_
                refine j_iload_n C dX4_of_155 rfl 3 rfl 156 rfl ?_
                obtain ⟨r20, hr20, hf⟩ := bnd hf
                refine j_callVi (As := [.int a1]) (rest := []) C (c_X4_weighs l g sz x S  a1 _ hr20) (j_cwV C qc_X4_weighs qm_X4_125 qi_X4_weighs qs_X4_weighs qn_X4 hd_X4_weighs ⟨rfl, rfl⟩ ⟨by decide, by decide⟩) (rcv_mo.cell C.2) rfl (Nat.le_of_ble_eq_true rfl) dX4_of_156 159 rfl ?_
                obtain ⟨rfl, rfl⟩ := Prod.mk.inj (Option.some.inj hf)
                exact j_iret C hr hlk dX4_of_159
              · rw [if_neg c19] at hf
                refine j_tableOut C dX4_of_38 (sw_out4 c8 c10 c11 c17 c19) 160 (by decide) ?_
                refine j_aload_n C dX4_of_160 rfl 2 rfl 161 rfl ?_
                refine j_iload_n C dX4_of_161 rfl 3 rfl 162 rfl ?_
                obtain ⟨r21, hr21, hf⟩ := bnd hf
                refine j_callVi (As := [.int a1]) (rest := []) C (c_X4_slides l g sz x S  a1 _ hr21) (j_cwV C qc_X4_slides qm_X4_128 qi_X4_slides qs_X4_slides qn_X4 hd_X4_slides ⟨rfl, rfl⟩ ⟨by decide, by decide⟩) (rcv_mo.cell C.2) rfl (Nat.le_of_ble_eq_true rfl) dX4_of_162 165 rfl ?_
                refine j_if_eq C dX4_of_165 172 (by decide) 168 rfl (fun c22 => ?_) (fun c22 => ?_)
                · rw [if_pos c22] at hf
                  refine j_iconst C dX4_of_172 (v := 0) c_iconst_0 173 rfl ?_
                  obtain ⟨rfl, rfl⟩ := Prod.mk.inj (Option.some.inj hf)
                  exact j_iret C hr hlk dX4_of_173
                · rw [if_neg c22] at hf
                  refine j_iconst C dX4_of_168 (v := 1) c_iconst_1 169 rfl ?_
                  refine j_goto C dX4_of_169 173 (by decide) ?_
                  obtain ⟨rfl, rfl⟩ := Prod.mk.inj (Option.some.inj hf)
                  exact j_iret C hr hlk dX4_of_173
    · rw [if_pos c6] at hf
      refine j_aload_n C dX4_of_17 rfl 0 rfl 18 rfl ?_
      refine j_ldc C dX4_of_18 qk_X4_72 20 rfl ?_
      obtain ⟨⟨r24, S25⟩, hq23, hf⟩ := bnd hf
      dsimp only at hf
      refine j_callVi (As := [.int (-1000001)]) (rest := []) C (c_X4_finding l g sz x S  (-1000001) _ _ hq23) (j_cwV C qc_X4_finding qm_X4_99 qi_X4_finding qs_X4_finding qn_X4 hd_X4_finding ⟨rfl, rfl⟩ ⟨by decide, by decide⟩) (rcv_mo.cell C.2) rfl (Nat.le_of_ble_eq_true rfl) dX4_of_20 23 rfl ?_
      obtain ⟨rfl, rfl⟩ := Prod.mk.inj (Option.some.inj hf)
      exact j_iret C hr hlk dX4_of_23
set_option maxRecDepth 100000 in
set_option maxHeartbeats 4000000 in
theorem c_X4_change (l : Launch) (g : GG) (sz : Nat) (x S : St) (a1 : Int32) (a2 : Int32) (r : Int32) (S' : St) (hf : X4_change a1 a2 S = some (r, S')) : Met l yX4_change (.code yX4_change cX4_change 3 (some .int) :: ALLW) (rmJ 2 43) (PcJ g sz x S [.ref (ad g 56), .int a1, .int a2]) (QiJ g sz r x S') 0 0 (Ag sz) := by
  refine j_met (own := RX4) (by decide) rfl (Nat.le_of_ble_eq_true rfl) rfl ?_
  intro p e s m args below meth c C hr hlk
  unfold X4_change at hf
  refine j_aload_n C dX4_change_0 rfl 0 rfl 1 rfl ?_
  refine j_iload_n C dX4_change_1 rfl 1 rfl 2 rfl ?_
  obtain ⟨r1, hr1, hf⟩ := bnd hf
  refine j_callVi (As := [.int a1]) (rest := []) C (c_X4_isCoin l g sz x S  a1 _ hr1) (j_cwV C qc_X4_isCoin qm_X4_116 qi_X4_isCoin qs_X4_isCoin qn_X4 hd_X4_isCoin ⟨rfl, rfl⟩ ⟨by decide, by decide⟩) (rcv_mo.cell C.2) rfl (Nat.le_of_ble_eq_true rfl) dX4_change_2 5 rfl ?_
  refine j_if_eq C dX4_change_5 27 (by decide) 8 rfl (fun c2 => ?_) (fun c2 => ?_)
  · rw [if_pos c2] at hf
    refine j_aload_n C dX4_change_27 rfl 0 rfl 28 rfl ?_
    refine j_ldc C dX4_change_28 qk_X4_72 30 rfl ?_
    obtain ⟨⟨r4, S5⟩, hq3, hf⟩ := bnd hf
    dsimp only at hf
    refine j_callVi (As := [.int (-1000001)]) (rest := []) C (c_X4_finding l g sz x S  (-1000001) _ _ hq3) (j_cwV C qc_X4_finding qm_X4_99 qi_X4_finding qs_X4_finding qn_X4 hd_X4_finding ⟨rfl, rfl⟩ ⟨by decide, by decide⟩) (rcv_mo.cell C.2) rfl (Nat.le_of_ble_eq_true rfl) dX4_change_30 33 rfl ?_
    obtain ⟨rfl, rfl⟩ := Prod.mk.inj (Option.some.inj hf)
    exact j_iret C hr hlk dX4_change_33
  · rw [if_neg c2] at hf
    refine j_iload_n C dX4_change_8 rfl 2 rfl 9 rfl ?_
    refine j_callSi (As := [.int a2]) (rest := []) C (c_X4_isKind l g sz x S a2 _ rfl) (j_cwS C qc_X4_isKind qm_X4_96 qs_X4_isKind qn_X4 hd_X4_isKind ⟨rfl, rfl⟩ ⟨by decide, by decide⟩)  rfl (Nat.le_of_ble_eq_true rfl) dX4_change_9 12 rfl ?_
    refine j_if_eq C dX4_change_12 27 (by decide) 15 rfl (fun c6 => ?_) (fun c6 => ?_)
    · rw [if_pos c6] at hf
      refine j_aload_n C dX4_change_27 rfl 0 rfl 28 rfl ?_
      refine j_ldc C dX4_change_28 qk_X4_72 30 rfl ?_
      obtain ⟨⟨r8, S9⟩, hq7, hf⟩ := bnd hf
      dsimp only at hf
      refine j_callVi (As := [.int (-1000001)]) (rest := []) C (c_X4_finding l g sz x S  (-1000001) _ _ hq7) (j_cwV C qc_X4_finding qm_X4_99 qi_X4_finding qs_X4_finding qn_X4 hd_X4_finding ⟨rfl, rfl⟩ ⟨by decide, by decide⟩) (rcv_mo.cell C.2) rfl (Nat.le_of_ble_eq_true rfl) dX4_change_30 33 rfl ?_
      obtain ⟨rfl, rfl⟩ := Prod.mk.inj (Option.some.inj hf)
      exact j_iret C hr hlk dX4_change_33
    · rw [if_neg c6] at hf
      refine j_aload_n C dX4_change_15 rfl 0 rfl 16 rfl ?_
      refine j_bipush C dX4_change_16 (v := 17) c_bipush_17 18 rfl ?_
      refine j_iload_n C dX4_change_18 rfl 1 rfl 19 rfl ?_
      refine j_iadd C dX4_change_19 20 rfl ?_
      refine j_iload_n C dX4_change_20 rfl 2 rfl 21 rfl ?_
      obtain ⟨⟨r11, S12⟩, hq10, hf⟩ := bnd hf
      dsimp only at hf
      refine j_callVi (As := [.int (17 + a1), .int a2]) (rest := []) C (c_X4_become l g sz x S  (17 + a1) a2 _ _ hq10) (j_cwV C qc_X4_become qm_X4_131 qi_X4_become qs_X4_become qn_X4 hd_X4_become ⟨rfl, rfl⟩ ⟨by decide, by decide⟩) (rcv_mo.cell C.2) rfl (Nat.le_of_ble_eq_true rfl) dX4_change_21 24 rfl ?_
      refine j_goto C dX4_change_24 33 (by decide) ?_
      obtain ⟨rfl, rfl⟩ := Prod.mk.inj (Option.some.inj hf)
      exact j_iret C hr hlk dX4_change_33
set_option maxRecDepth 100000 in
set_option maxHeartbeats 4000000 in
theorem c_X4_lay (l : Launch) (g : GG) (sz : Nat) (x S : St) (a1 : Int32) (a2 : Int32) (a3 : Int32) (r : Int32) (S' : St) (hf : X4_lay a1 a2 a3 S = some (r, S')) : Met l yX4_lay (.code yX4_lay cX4_lay 5 (some .int) :: ALLW) (rmJ 3 63) (PcJ g sz x S [.ref (ad g 56), .int a1, .int a2, .int a3]) (QiJ g sz r x S') 0 0 (Ag sz) := by
  refine j_met (own := RX4) (by decide) rfl (Nat.le_of_ble_eq_true rfl) rfl ?_
  intro p e s m args below meth c C hr hlk
  unfold X4_lay at hf
  refine j_aload_n C dX4_lay_0 rfl 0 rfl 1 rfl ?_
  refine j_iload_n C dX4_lay_1 rfl 1 rfl 2 rfl ?_
  obtain ⟨r1, hr1, hf⟩ := bnd hf
  refine j_callVi (As := [.int a1]) (rest := []) C (c_X4_isCoin l g sz x S  a1 _ hr1) (j_cwV C qc_X4_isCoin qm_X4_116 qi_X4_isCoin qs_X4_isCoin qn_X4 hd_X4_isCoin ⟨rfl, rfl⟩ ⟨by decide, by decide⟩) (rcv_mo.cell C.2) rfl (Nat.le_of_ble_eq_true rfl) dX4_lay_2 5 rfl ?_
  refine j_if_eq C dX4_lay_5 16 (by decide) 8 rfl (fun c2 => ?_) (fun c2 => ?_)
  · rw [if_pos c2] at hf
    refine j_aload_n C dX4_lay_16 rfl 0 rfl 17 rfl ?_
    refine j_ldc C dX4_lay_17 qk_X4_72 19 rfl ?_
    obtain ⟨⟨r4, S5⟩, hq3, hf⟩ := bnd hf
    dsimp only at hf
    refine j_callVi (As := [.int (-1000001)]) (rest := []) C (c_X4_finding l g sz x S  (-1000001) _ _ hq3) (j_cwV C qc_X4_finding qm_X4_99 qi_X4_finding qs_X4_finding qn_X4 hd_X4_finding ⟨rfl, rfl⟩ ⟨by decide, by decide⟩) (rcv_mo.cell C.2) rfl (Nat.le_of_ble_eq_true rfl) dX4_lay_19 22 rfl ?_
    obtain ⟨rfl, rfl⟩ := Prod.mk.inj (Option.some.inj hf)
    exact j_iret C hr hlk dX4_lay_22
  · rw [if_neg c2] at hf
    refine j_iload_n C dX4_lay_8 rfl 2 rfl 9 rfl ?_
    refine j_iload_n C dX4_lay_9 rfl 3 rfl 10 rfl ?_
    refine j_callSi (As := [.int a2, .int a3]) (rest := []) C (c_X4_isCell l g sz x S a2 a3 _ rfl) (j_cwS C qc_X4_isCell qm_X4_134 qs_X4_isCell qn_X4 hd_X4_isCell ⟨rfl, rfl⟩ ⟨by decide, by decide⟩)  rfl (Nat.le_of_ble_eq_true rfl) dX4_lay_10 13 rfl ?_
    refine j_if_ne C dX4_lay_13 23 (by decide) 16 rfl (fun c6 => ?_) (fun c6 => ?_)
    · rw [if_neg c6] at hf
      refine j_aload_n C dX4_lay_23 rfl 0 rfl 24 rfl ?_
      refine j4_get C 0 (by decide) qf_X4_9 (v := .ref (ad g 57)) rfl dX4_lay_24 27 rfl ?_
      refine j_bipush C dX4_lay_27 (v := 41) c_bipush_41 29 rfl ?_
      refine j_iload_n C dX4_lay_29 rfl 1 rfl 30 rfl ?_
      refine j_iadd C dX4_lay_30 31 rfl ?_
      obtain ⟨v7, hv7, hf⟩ := bnd hf
      refine j4_ald 1 rfl C hv7 dX4_lay_31 32 rfl ?_
      refine j_bipush C dX4_lay_32 (v := 100) c_bipush_100 34 rfl ?_
      refine j_icmp_eq C dX4_lay_34 44 (by decide) 37 rfl (fun c8 => ?_) (fun c8 => ?_)
      · rw [if_pos c8] at hf
        refine j_iload_n C dX4_lay_44 rfl 2 rfl 45 rfl ?_
        refine j_iload_n C dX4_lay_45 rfl 3 rfl 46 rfl ?_
        refine j_callSi (As := [.int a2, .int a3]) (rest := []) C (c_X4_cellOf l g sz x S a2 a3 _ rfl) (j_cwS C qc_X4_cellOf qm_X4_119 qs_X4_cellOf qn_X4 hd_X4_cellOf ⟨rfl, rfl⟩ ⟨by decide, by decide⟩)  rfl (Nat.le_of_ble_eq_true rfl) dX4_lay_46 49 rfl ?_
        refine j_istore (lv2 := [(4, .int (X4_cellOf a2 a3)), (0, .ref (ad g 56)), (1, .int a1), (2, .int a2), (3, .int a3)]) C dX4_lay_49 (by decide) rfl 51 rfl ?_
        refine j_aload_n C dX4_lay_51 rfl 1 rfl 52 rfl ?_
        refine j_iload C dX4_lay_52 0 rfl 54 rfl ?_
        obtain ⟨r9, hr9, hf⟩ := bnd hf
        refine j_callVi (As := [.int (X4_cellOf a2 a3)]) (rest := []) C (c_X4_highOf l g sz x S  (X4_cellOf a2 a3) _ hr9) (j_cwV C qc_X4_highOf qm_X4_85 qi_X4_highOf qs_X4_highOf qn_X4 hd_X4_highOf ⟨rfl, rfl⟩ ⟨by decide, by decide⟩) (rcv_mo.cell C.2) rfl (Nat.le_of_ble_eq_true rfl) dX4_lay_54 57 rfl ?_
        refine j_iconst C dX4_lay_57 (v := 4) c_iconst_4 58 rfl ?_
        refine j_icmp_ne C dX4_lay_58 68 (by decide) 61 rfl (fun c10 => ?_) (fun c10 => ?_)
        · rw [if_neg c10] at hf
          refine j_aload_n C dX4_lay_68 rfl 1 rfl 69 rfl ?_
          refine j_iload_n C dX4_lay_69 rfl 2 rfl 70 rfl ?_
          refine j_iload C dX4_lay_70 0 rfl 72 rfl ?_
          obtain ⟨S11, hS11, hf⟩ := bnd hf
          refine j_callVv (As := [.int a1, .int (X4_cellOf a2 a3)]) (rest := []) C (c_X4_comesOn l g sz x S  a1 (X4_cellOf a2 a3) _ hS11) (j_cwV C qc_X4_comesOn qm_X4_138 qi_X4_comesOn qs_X4_comesOn qn_X4 hd_X4_comesOn ⟨rfl, rfl⟩ ⟨by decide, by decide⟩) (rcv_mo.cell C.2) rfl (Nat.le_of_ble_eq_true rfl) dX4_lay_72 75 rfl ?_
          refine j_aload_n C dX4_lay_75 rfl 1 rfl 76 rfl ?_
          refine j_iload C dX4_lay_76 0 rfl 78 rfl ?_
          obtain ⟨r12, hr12, hf⟩ := bnd hf
          refine j_callVi (As := [.int (X4_cellOf a2 a3)]) (rest := []) C (c_X4_highOf l g sz x S11  (X4_cellOf a2 a3) _ hr12) (j_cwV C qc_X4_highOf qm_X4_85 qi_X4_highOf qs_X4_highOf qn_X4 hd_X4_highOf ⟨rfl, rfl⟩ ⟨by decide, by decide⟩) (rcv_mo.cell C.2) rfl (Nat.le_of_ble_eq_true rfl) dX4_lay_78 81 rfl ?_
          obtain ⟨rfl, rfl⟩ := Prod.mk.inj (Option.some.inj hf)
          exact j_iret C hr hlk dX4_lay_81
        · rw [if_pos c10] at hf
          refine j_aload_n C dX4_lay_61 rfl 1 rfl 62 rfl ?_
          refine j_ldc C dX4_lay_62 qk_X4_102 64 rfl ?_
          obtain ⟨⟨r14, S15⟩, hq13, hf⟩ := bnd hf
          dsimp only at hf
          refine j_callVi (As := [.int (-1000002)]) (rest := []) C (c_X4_finding l g sz x S  (-1000002) _ _ hq13) (j_cwV C qc_X4_finding qm_X4_99 qi_X4_finding qs_X4_finding qn_X4 hd_X4_finding ⟨rfl, rfl⟩ ⟨by decide, by decide⟩) (rcv_mo.cell C.2) rfl (Nat.le_of_ble_eq_true rfl) dX4_lay_64 67 rfl ?_
          obtain ⟨rfl, rfl⟩ := Prod.mk.inj (Option.some.inj hf)
          exact j_iret C hr hlk dX4_lay_67
      · rw [if_neg c8] at hf
        refine j_aload_n C dX4_lay_37 rfl 0 rfl 38 rfl ?_
        refine j_ldc C dX4_lay_38 qk_X4_137 40 rfl ?_
        obtain ⟨⟨r17, S18⟩, hq16, hf⟩ := bnd hf
        dsimp only at hf
        refine j_callVi (As := [.int (-1000005)]) (rest := []) C (c_X4_finding l g sz x S  (-1000005) _ _ hq16) (j_cwV C qc_X4_finding qm_X4_99 qi_X4_finding qs_X4_finding qn_X4 hd_X4_finding ⟨rfl, rfl⟩ ⟨by decide, by decide⟩) (rcv_mo.cell C.2) rfl (Nat.le_of_ble_eq_true rfl) dX4_lay_40 43 rfl ?_
        obtain ⟨rfl, rfl⟩ := Prod.mk.inj (Option.some.inj hf)
        exact j_iret C hr hlk dX4_lay_43
    · rw [if_pos c6] at hf
      refine j_aload_n C dX4_lay_16 rfl 0 rfl 17 rfl ?_
      refine j_ldc C dX4_lay_17 qk_X4_72 19 rfl ?_
      obtain ⟨⟨r20, S21⟩, hq19, hf⟩ := bnd hf
      dsimp only at hf
      refine j_callVi (As := [.int (-1000001)]) (rest := []) C (c_X4_finding l g sz x S  (-1000001) _ _ hq19) (j_cwV C qc_X4_finding qm_X4_99 qi_X4_finding qs_X4_finding qn_X4 hd_X4_finding ⟨rfl, rfl⟩ ⟨by decide, by decide⟩) (rcv_mo.cell C.2) rfl (Nat.le_of_ble_eq_true rfl) dX4_lay_19 22 rfl ?_
      obtain ⟨rfl, rfl⟩ := Prod.mk.inj (Option.some.inj hf)
      exact j_iret C hr hlk dX4_lay_22
set_option maxRecDepth 100000 in
set_option maxHeartbeats 4000000 in
theorem c_X4_lift (l : Launch) (g : GG) (sz : Nat) (x S : St) (a1 : Int32) (a2 : Int32) (r : Int32) (S' : St) (hf : X4_lift a1 a2 S = some (r, S')) : Met l yX4_lift (.code yX4_lift cX4_lift 5 (some .int) :: ALLW) (rmJ 3 65) (PcJ g sz x S [.ref (ad g 56), .int a1, .int a2]) (QiJ g sz r x S') 0 0 (Ag sz) := by
  refine j_met (own := RX4) (by decide) rfl (Nat.le_of_ble_eq_true rfl) rfl ?_
  intro p e s m args below meth c C hr hlk
  unfold X4_lift at hf
  refine j_iload_n C dX4_lift_0 rfl 1 rfl 1 rfl ?_
  refine j_iload_n C dX4_lift_1 rfl 2 rfl 2 rfl ?_
  refine j_callSi (As := [.int a1, .int a2]) (rest := []) C (c_X4_isCell l g sz x S a1 a2 _ rfl) (j_cwS C qc_X4_isCell qm_X4_134 qs_X4_isCell qn_X4 hd_X4_isCell ⟨rfl, rfl⟩ ⟨by decide, by decide⟩)  rfl (Nat.le_of_ble_eq_true rfl) dX4_lift_2 5 rfl ?_
  refine j_if_ne C dX4_lift_5 15 (by decide) 8 rfl (fun c1 => ?_) (fun c1 => ?_)
  · rw [if_neg c1] at hf
    refine j_iload_n C dX4_lift_15 rfl 1 rfl 16 rfl ?_
    refine j_iload_n C dX4_lift_16 rfl 2 rfl 17 rfl ?_
    refine j_callSi (As := [.int a1, .int a2]) (rest := []) C (c_X4_cellOf l g sz x S a1 a2 _ rfl) (j_cwS C qc_X4_cellOf qm_X4_119 qs_X4_cellOf qn_X4 hd_X4_cellOf ⟨rfl, rfl⟩ ⟨by decide, by decide⟩)  rfl (Nat.le_of_ble_eq_true rfl) dX4_lift_17 20 rfl ?_
    refine j_istore_n (lv2 := [(3, .int (X4_cellOf a1 a2)), (0, .ref (ad g 56)), (1, .int a1), (2, .int a2)]) C dX4_lift_20 rfl (by decide) rfl 21 rfl ?_
    refine j_aload_n C dX4_lift_21 rfl 1 rfl 22 rfl ?_
    refine j_iload_n C dX4_lift_22 rfl 0 rfl 23 rfl ?_
    obtain ⟨r2, hr2, hf⟩ := bnd hf
    refine j_callVi (As := [.int (X4_cellOf a1 a2)]) (rest := []) C (c_X4_highOf l g sz x S  (X4_cellOf a1 a2) _ hr2) (j_cwV C qc_X4_highOf qm_X4_85 qi_X4_highOf qs_X4_highOf qn_X4 hd_X4_highOf ⟨rfl, rfl⟩ ⟨by decide, by decide⟩) (rcv_mo.cell C.2) rfl (Nat.le_of_ble_eq_true rfl) dX4_lift_23 26 rfl ?_
    refine j_if_ne C dX4_lift_26 36 (by decide) 29 rfl (fun c3 => ?_) (fun c3 => ?_)
    · rw [if_neg c3] at hf
      refine j_aload_n C dX4_lift_36 rfl 1 rfl 37 rfl ?_
      refine j_iload_n C dX4_lift_37 rfl 0 rfl 38 rfl ?_
      obtain ⟨⟨r5, S6⟩, hq4, hf⟩ := bnd hf
      dsimp only at hf
      refine j_callVi (As := [.int (X4_cellOf a1 a2)]) (rest := []) C (c_X4_taken l g sz x S  (X4_cellOf a1 a2) _ _ hq4) (j_cwV C qc_X4_taken qm_X4_143 qi_X4_taken qs_X4_taken qn_X4 hd_X4_taken ⟨rfl, rfl⟩ ⟨by decide, by decide⟩) (rcv_mo.cell C.2) rfl (Nat.le_of_ble_eq_true rfl) dX4_lift_38 41 rfl ?_
      refine j_istore (lv2 := [(4, .int r5), (3, .int (X4_cellOf a1 a2)), (0, .ref (ad g 56)), (1, .int a1), (2, .int a2)]) C dX4_lift_41 (by decide) rfl 43 rfl ?_
      refine j_aload_n C dX4_lift_43 rfl 2 rfl 44 rfl ?_
      refine j4_get C 0 (by decide) qf_X4_9 (v := .ref (ad g 57)) rfl dX4_lift_44 47 rfl ?_
      refine j_bipush C dX4_lift_47 (v := 41) c_bipush_41 49 rfl ?_
      refine j_iload C dX4_lift_49 0 rfl 51 rfl ?_
      refine j_iadd C dX4_lift_51 52 rfl ?_
      refine j_bipush C dX4_lift_52 (v := 100) c_bipush_100 54 rfl ?_
      obtain ⟨S7, hS7, hf⟩ := bnd hf
      refine j4_ast 1 rfl C hS7 dX4_lift_54 55 rfl ?_
      refine j_iload C dX4_lift_55 0 rfl 57 rfl ?_
      obtain ⟨rfl, rfl⟩ := Prod.mk.inj (Option.some.inj hf)
      exact j_iret C hr hlk dX4_lift_57
    · rw [if_pos c3] at hf
      refine j_aload_n C dX4_lift_29 rfl 1 rfl 30 rfl ?_
      refine j_ldc C dX4_lift_30 qk_X4_142 32 rfl ?_
      obtain ⟨⟨r9, S10⟩, hq8, hf⟩ := bnd hf
      dsimp only at hf
      refine j_callVi (As := [.int (-1000004)]) (rest := []) C (c_X4_finding l g sz x S  (-1000004) _ _ hq8) (j_cwV C qc_X4_finding qm_X4_99 qi_X4_finding qs_X4_finding qn_X4 hd_X4_finding ⟨rfl, rfl⟩ ⟨by decide, by decide⟩) (rcv_mo.cell C.2) rfl (Nat.le_of_ble_eq_true rfl) dX4_lift_32 35 rfl ?_
      obtain ⟨rfl, rfl⟩ := Prod.mk.inj (Option.some.inj hf)
      exact j_iret C hr hlk dX4_lift_35
  · rw [if_pos c1] at hf
    refine j_aload_n C dX4_lift_8 rfl 0 rfl 9 rfl ?_
    refine j_ldc C dX4_lift_9 qk_X4_72 11 rfl ?_
    obtain ⟨⟨r12, S13⟩, hq11, hf⟩ := bnd hf
    dsimp only at hf
    refine j_callVi (As := [.int (-1000001)]) (rest := []) C (c_X4_finding l g sz x S  (-1000001) _ _ hq11) (j_cwV C qc_X4_finding qm_X4_99 qi_X4_finding qs_X4_finding qn_X4 hd_X4_finding ⟨rfl, rfl⟩ ⟨by decide, by decide⟩) (rcv_mo.cell C.2) rfl (Nat.le_of_ble_eq_true rfl) dX4_lift_11 14 rfl ?_
    obtain ⟨rfl, rfl⟩ := Prod.mk.inj (Option.some.inj hf)
    exact j_iret C hr hlk dX4_lift_14
set_option maxRecDepth 100000 in
set_option maxHeartbeats 4000000 in
theorem c_X4_height (l : Launch) (g : GG) (sz : Nat) (x S : St) (a1 : Int32) (a2 : Int32) (r : Int32) (S' : St) (hf : X4_height a1 a2 S = some (r, S')) : Met l yX4_height (.code yX4_height cX4_height 3 (some .int) :: ALLW) (rmJ 3 63) (PcJ g sz x S [.ref (ad g 56), .int a1, .int a2]) (QiJ g sz r x S') 0 0 (Ag sz) := by
  refine j_met (own := RX4) (by decide) rfl (Nat.le_of_ble_eq_true rfl) rfl ?_
  intro p e s m args below meth c C hr hlk
  unfold X4_height at hf
  refine j_iload_n C dX4_height_0 rfl 1 rfl 1 rfl ?_
  refine j_iload_n C dX4_height_1 rfl 2 rfl 2 rfl ?_
  refine j_callSi (As := [.int a1, .int a2]) (rest := []) C (c_X4_isCell l g sz x S a1 a2 _ rfl) (j_cwS C qc_X4_isCell qm_X4_134 qs_X4_isCell qn_X4 hd_X4_isCell ⟨rfl, rfl⟩ ⟨by decide, by decide⟩)  rfl (Nat.le_of_ble_eq_true rfl) dX4_height_2 5 rfl ?_
  refine j_if_eq C dX4_height_5 20 (by decide) 8 rfl (fun c1 => ?_) (fun c1 => ?_)
  · rw [if_pos c1] at hf
    refine j_aload_n C dX4_height_20 rfl 0 rfl 21 rfl ?_
    refine j_ldc C dX4_height_21 qk_X4_72 23 rfl ?_
    obtain ⟨⟨r3, S4⟩, hq2, hf⟩ := bnd hf
    dsimp only at hf
    refine j_callVi (As := [.int (-1000001)]) (rest := []) C (c_X4_finding l g sz x S  (-1000001) _ _ hq2) (j_cwV C qc_X4_finding qm_X4_99 qi_X4_finding qs_X4_finding qn_X4 hd_X4_finding ⟨rfl, rfl⟩ ⟨by decide, by decide⟩) (rcv_mo.cell C.2) rfl (Nat.le_of_ble_eq_true rfl) dX4_height_23 26 rfl ?_
    obtain ⟨rfl, rfl⟩ := Prod.mk.inj (Option.some.inj hf)
    exact j_iret C hr hlk dX4_height_26
  · rw [if_neg c1] at hf
    refine j_aload_n C dX4_height_8 rfl 0 rfl 9 rfl ?_
    refine j_iload_n C dX4_height_9 rfl 1 rfl 10 rfl ?_
    refine j_iload_n C dX4_height_10 rfl 2 rfl 11 rfl ?_
    refine j_callSi (As := [.int a1, .int a2]) (rest := [.ref (ad g 56)]) C (c_X4_cellOf l g sz x S a1 a2 _ rfl) (j_cwS C qc_X4_cellOf qm_X4_119 qs_X4_cellOf qn_X4 hd_X4_cellOf ⟨rfl, rfl⟩ ⟨by decide, by decide⟩)  rfl (Nat.le_of_ble_eq_true rfl) dX4_height_11 14 rfl ?_
    obtain ⟨r5, hr5, hf⟩ := bnd hf
    refine j_callVi (As := [.int (X4_cellOf a1 a2)]) (rest := []) C (c_X4_highOf l g sz x S  (X4_cellOf a1 a2) _ hr5) (j_cwV C qc_X4_highOf qm_X4_85 qi_X4_highOf qs_X4_highOf qn_X4 hd_X4_highOf ⟨rfl, rfl⟩ ⟨by decide, by decide⟩) (rcv_mo.cell C.2) rfl (Nat.le_of_ble_eq_true rfl) dX4_height_14 17 rfl ?_
    refine j_goto C dX4_height_17 26 (by decide) ?_
    obtain ⟨rfl, rfl⟩ := Prod.mk.inj (Option.some.inj hf)
    exact j_iret C hr hlk dX4_height_26
set_option maxRecDepth 100000 in
set_option maxHeartbeats 4000000 in
theorem c_X4_seen (l : Launch) (g : GG) (sz : Nat) (x S : St) (a1 : Int32) (a2 : Int32) (a3 : Int32) (r : Int32) (S' : St) (hf : X4_seen a1 a2 a3 S = some (r, S')) : Met l yX4_seen (.code yX4_seen cX4_seen 5 (some .int) :: ALLW) (rmJ 3 63) (PcJ g sz x S [.ref (ad g 56), .int a1, .int a2, .int a3]) (QiJ g sz r x S') 0 0 (Ag sz) := by
  refine j_met (own := RX4) (by decide) rfl (Nat.le_of_ble_eq_true rfl) rfl ?_
  intro p e s m args below meth c C hr hlk
  unfold X4_seen at hf
  refine j_iload_n C dX4_seen_0 rfl 1 rfl 1 rfl ?_
  refine j_iload_n C dX4_seen_1 rfl 2 rfl 2 rfl ?_
  refine j_callSi (As := [.int a1, .int a2]) (rest := []) C (c_X4_isCell l g sz x S a1 a2 _ rfl) (j_cwS C qc_X4_isCell qm_X4_134 qs_X4_isCell qn_X4 hd_X4_isCell ⟨rfl, rfl⟩ ⟨by decide, by decide⟩)  rfl (Nat.le_of_ble_eq_true rfl) dX4_seen_2 5 rfl ?_
  refine j_if_eq C dX4_seen_5 17 (by decide) 8 rfl (fun c1 => ?_) (fun c1 => ?_)
  · rw [if_pos c1] at hf
    refine j_aload_n C dX4_seen_17 rfl 0 rfl 18 rfl ?_
    refine j_ldc C dX4_seen_18 qk_X4_72 20 rfl ?_
    obtain ⟨⟨r3, S4⟩, hq2, hf⟩ := bnd hf
    dsimp only at hf
    refine j_callVi (As := [.int (-1000001)]) (rest := []) C (c_X4_finding l g sz x S  (-1000001) _ _ hq2) (j_cwV C qc_X4_finding qm_X4_99 qi_X4_finding qs_X4_finding qn_X4 hd_X4_finding ⟨rfl, rfl⟩ ⟨by decide, by decide⟩) (rcv_mo.cell C.2) rfl (Nat.le_of_ble_eq_true rfl) dX4_seen_20 23 rfl ?_
    obtain ⟨rfl, rfl⟩ := Prod.mk.inj (Option.some.inj hf)
    exact j_iret C hr hlk dX4_seen_23
  · rw [if_neg c1] at hf
    refine j_iload_n C dX4_seen_8 rfl 3 rfl 9 rfl ?_
    refine j_iconst C dX4_seen_9 (v := 0) c_iconst_0 10 rfl ?_
    refine j_iconst C dX4_seen_10 (v := 3) c_iconst_3 11 rfl ?_
    refine j_callSi (As := [.int a3, .int 0, .int 3]) (rest := []) C (c_X4_within l g sz x S a3 0 3 _ rfl) (j_cwS C qc_X4_within qm_X4_77 qs_X4_within qn_X4 hd_X4_within ⟨rfl, rfl⟩ ⟨by decide, by decide⟩)  rfl (Nat.le_of_ble_eq_true rfl) dX4_seen_11 14 rfl ?_
    refine j_if_ne C dX4_seen_14 24 (by decide) 17 rfl (fun c5 => ?_) (fun c5 => ?_)
    · rw [if_neg c5] at hf
      refine j_iload_n C dX4_seen_24 rfl 1 rfl 25 rfl ?_
      refine j_iload_n C dX4_seen_25 rfl 2 rfl 26 rfl ?_
      refine j_callSi (As := [.int a1, .int a2]) (rest := []) C (c_X4_cellOf l g sz x S a1 a2 _ rfl) (j_cwS C qc_X4_cellOf qm_X4_119 qs_X4_cellOf qn_X4 hd_X4_cellOf ⟨rfl, rfl⟩ ⟨by decide, by decide⟩)  rfl (Nat.le_of_ble_eq_true rfl) dX4_seen_26 29 rfl ?_
      refine j_istore (lv2 := [(4, .int (X4_cellOf a1 a2)), (0, .ref (ad g 56)), (1, .int a1), (2, .int a2), (3, .int a3)]) C dX4_seen_29 (by decide) rfl 31 rfl ?_
      refine j_iload_n C dX4_seen_31 rfl 4 rfl 32 rfl ?_
      refine j_aload_n C dX4_seen_32 rfl 1 rfl 33 rfl ?_
      refine j_iload C dX4_seen_33 0 rfl 35 rfl ?_
      obtain ⟨r6, hr6, hf⟩ := bnd hf
      refine j_callVi (As := [.int (X4_cellOf a1 a2)]) (rest := [.int a3]) C (c_X4_highOf l g sz x S  (X4_cellOf a1 a2) _ hr6) (j_cwV C qc_X4_highOf qm_X4_85 qi_X4_highOf qs_X4_highOf qn_X4 hd_X4_highOf ⟨rfl, rfl⟩ ⟨by decide, by decide⟩) (rcv_mo.cell C.2) rfl (Nat.le_of_ble_eq_true rfl) dX4_seen_35 38 rfl ?_
      refine j_icmp_ge C dX4_seen_38 51 (by decide) 41 rfl (fun c7 => ?_) (fun c7 => ?_)
      · rw [if_pos c7] at hf
        refine j_aload_n C dX4_seen_51 rfl 1 rfl 52 rfl ?_
        refine j_ldc C dX4_seen_52 qk_X4_142 54 rfl ?_
        obtain ⟨⟨r9, S10⟩, hq8, hf⟩ := bnd hf
        dsimp only at hf
        refine j_callVi (As := [.int (-1000004)]) (rest := []) C (c_X4_finding l g sz x S  (-1000004) _ _ hq8) (j_cwV C qc_X4_finding qm_X4_99 qi_X4_finding qs_X4_finding qn_X4 hd_X4_finding ⟨rfl, rfl⟩ ⟨by decide, by decide⟩) (rcv_mo.cell C.2) rfl (Nat.le_of_ble_eq_true rfl) dX4_seen_54 57 rfl ?_
        obtain ⟨rfl, rfl⟩ := Prod.mk.inj (Option.some.inj hf)
        exact j_iret C hr hlk dX4_seen_57
      · rw [if_neg c7] at hf
        refine j_aload_n C dX4_seen_41 rfl 1 rfl 42 rfl ?_
        refine j_iload C dX4_seen_42 0 rfl 44 rfl ?_
        refine j_iload_n C dX4_seen_44 rfl 4 rfl 45 rfl ?_
        obtain ⟨r11, hr11, hf⟩ := bnd hf
        refine j_callVi (As := [.int (X4_cellOf a1 a2), .int a3]) (rest := []) C (c_X4_coinAt l g sz x S  (X4_cellOf a1 a2) a3 _ hr11) (j_cwV C qc_X4_coinAt qm_X4_89 qi_X4_coinAt qs_X4_coinAt qn_X4 hd_X4_coinAt ⟨rfl, rfl⟩ ⟨by decide, by decide⟩) (rcv_mo.cell C.2) rfl (Nat.le_of_ble_eq_true rfl) dX4_seen_45 48 rfl ?_
        refine j_goto C dX4_seen_48 57 (by decide) ?_
        obtain ⟨rfl, rfl⟩ := Prod.mk.inj (Option.some.inj hf)
        exact j_iret C hr hlk dX4_seen_57
    · rw [if_pos c5] at hf
      refine j_aload_n C dX4_seen_17 rfl 0 rfl 18 rfl ?_
      refine j_ldc C dX4_seen_18 qk_X4_72 20 rfl ?_
      obtain ⟨⟨r13, S14⟩, hq12, hf⟩ := bnd hf
      dsimp only at hf
      refine j_callVi (As := [.int (-1000001)]) (rest := []) C (c_X4_finding l g sz x S  (-1000001) _ _ hq12) (j_cwV C qc_X4_finding qm_X4_99 qi_X4_finding qs_X4_finding qn_X4 hd_X4_finding ⟨rfl, rfl⟩ ⟨by decide, by decide⟩) (rcv_mo.cell C.2) rfl (Nat.le_of_ble_eq_true rfl) dX4_seen_20 23 rfl ?_
      obtain ⟨rfl, rfl⟩ := Prod.mk.inj (Option.some.inj hf)
      exact j_iret C hr hlk dX4_seen_23
set_option maxRecDepth 100000 in
set_option maxHeartbeats 4000000 in
theorem c_X4_set (l : Launch) (g : GG) (sz : Nat) (x S : St) (a1 : Int32) (a2 : Int32) (r : Int32) (S' : St) (hf : X4_set a1 a2 S = some (r, S')) : Met l yX4_set (.code yX4_set cX4_set 4 (some .int) :: ALLW) (rmJ 1 23) (PcJ g sz x S [.ref (ad g 56), .int a1, .int a2]) (QiJ g sz r x S') 0 0 (Ag sz) := by
  refine j_met (own := RX4) (by decide) rfl (Nat.le_of_ble_eq_true rfl) rfl ?_
  intro p e s m args below meth c C hr hlk
  have hL48 : ∀ (b1 : Int32) (b2 : Int32) (t0 : Int32) (S : St), X4_set_L48 b1 b2 t0 S = some (r, S') → Wj p l e (rmJ 1 23) s m args below meth c (MQ below (QiJ g sz r x S') args s 0 0 (Ag sz)) 4 g sz x S 48 [(0, .ref (ad g 56)), (1, .int b1), (2, .int b2)] [.int t0] := by
    intro  b1 b2 t0 S hf
    unfold X4_set_L48 at hf
    refine j_istore_n (lv2 := [(3, .int t0), (0, .ref (ad g 56)), (1, .int b1), (2, .int b2)]) C dX4_set_48 rfl (by decide) rfl 49 rfl ?_
    refine j_iload_n C dX4_set_49 rfl 0 rfl 50 rfl ?_
    refine j_if_eq C dX4_set_50 64 (by decide) 53 rfl (fun c4 => ?_) (fun c4 => ?_)
    · rw [if_pos c4] at hf
      refine j_aload_n C dX4_set_64 rfl 1 rfl 65 rfl ?_
      refine j_ldc C dX4_set_65 qk_X4_72 67 rfl ?_
      obtain ⟨⟨r6, S7⟩, hq5, hf⟩ := bnd hf
      dsimp only at hf
      refine j_callVi (As := [.int (-1000001)]) (rest := []) C (c_X4_finding l g sz x S  (-1000001) _ _ hq5) (j_cwV C qc_X4_finding qm_X4_99 qi_X4_finding qs_X4_finding qn_X4 hd_X4_finding ⟨rfl, rfl⟩ ⟨by decide, by decide⟩) (rcv_mo.cell C.2) rfl (Nat.le_of_ble_eq_true rfl) dX4_set_67 70 rfl ?_
      obtain ⟨rfl, rfl⟩ := Prod.mk.inj (Option.some.inj hf)
      exact j_iret C hr hlk dX4_set_70
    · rw [if_neg c4] at hf
      refine j_aload_n C dX4_set_53 rfl 1 rfl 54 rfl ?_
      refine j_iconst C dX4_set_54 (v := 1) c_iconst_1 55 rfl ?_
      refine j_iload_n C dX4_set_55 rfl 2 rfl 56 rfl ?_
      refine j_iadd C dX4_set_56 57 rfl ?_
      refine j_iload_n C dX4_set_57 rfl 3 rfl 58 rfl ?_
      obtain ⟨⟨r9, S10⟩, hq8, hf⟩ := bnd hf
      dsimp only at hf
      refine j_callVi (As := [.int (1 + b1), .int b2]) (rest := []) C (c_X4_become l g sz x S  (1 + b1) b2 _ _ hq8) (j_cwV C qc_X4_become qm_X4_131 qi_X4_become qs_X4_become qn_X4 hd_X4_become ⟨rfl, rfl⟩ ⟨by decide, by decide⟩) (rcv_mo.cell C.2) rfl (Nat.le_of_ble_eq_true rfl) dX4_set_58 61 rfl ?_
      refine j_goto C dX4_set_61 70 (by decide) ?_
      obtain ⟨rfl, rfl⟩ := Prod.mk.inj (Option.some.inj hf)
      exact j_iret C hr hlk dX4_set_70
  have hL47 : ∀ (b1 : Int32) (b2 : Int32) (S : St), X4_set_L47 b1 b2 S = some (r, S') → Wj p l e (rmJ 1 23) s m args below meth c (MQ below (QiJ g sz r x S') args s 0 0 (Ag sz)) 4 g sz x S 47 [(0, .ref (ad g 56)), (1, .int b1), (2, .int b2)] [] := by
    intro  b1 b2 S hf
    unfold X4_set_L47 at hf
    refine j_iconst C dX4_set_47 (v := 0) c_iconst_0 48 rfl ?_
    exact hL48 b1 b2 0 S hf
  have hL43 : ∀ (b1 : Int32) (b2 : Int32) (S : St), X4_set_L43 b1 b2 S = some (r, S') → Wj p l e (rmJ 1 23) s m args below meth c (MQ below (QiJ g sz r x S') args s 0 0 (Ag sz)) 4 g sz x S 43 [(0, .ref (ad g 56)), (1, .int b1), (2, .int b2)] [] := by
    intro  b1 b2 S hf
    unfold X4_set_L43 at hf
    refine j_iconst C dX4_set_43 (v := 1) c_iconst_1 44 rfl ?_
    refine j_goto C dX4_set_44 48 (by decide) ?_
    exact hL48 b1 b2 1 S hf
  have hL29 : ∀ (b1 : Int32) (b2 : Int32) (S : St), X4_set_L29 b1 b2 S = some (r, S') → Wj p l e (rmJ 1 23) s m args below meth c (MQ below (QiJ g sz r x S') args s 0 0 (Ag sz)) 4 g sz x S 29 [(0, .ref (ad g 56)), (1, .int b1), (2, .int b2)] [] := by
    intro  b1 b2 S hf
    unfold X4_set_L29 at hf
    refine j_iload_n C dX4_set_29 rfl 1 rfl 30 rfl ?_
    refine j_iconst C dX4_set_30 (v := 2) c_iconst_2 31 rfl ?_
    refine j_icmp_ne C dX4_set_31 47 (by decide) 34 rfl (fun c3 => ?_) (fun c3 => ?_)
    · rw [if_neg c3] at hf
      exact hL47 b1 b2 S hf
    · rw [if_pos c3] at hf
      refine j_iload_n C dX4_set_34 rfl 2 rfl 35 rfl ?_
      refine j_iconst C dX4_set_35 (v := 0) c_iconst_0 36 rfl ?_
      refine j_iconst C dX4_set_36 (v := 3) c_iconst_3 37 rfl ?_
      refine j_callSi (As := [.int b2, .int 0, .int 3]) (rest := []) C (c_X4_within l g sz x S b2 0 3 _ rfl) (j_cwS C qc_X4_within qm_X4_77 qs_X4_within qn_X4 hd_X4_within ⟨rfl, rfl⟩ ⟨by decide, by decide⟩)  rfl (Nat.le_of_ble_eq_true rfl) dX4_set_37 40 rfl ?_
      refine j_if_eq C dX4_set_40 47 (by decide) 43 rfl (fun c11 => ?_) (fun c11 => ?_)
      · rw [if_pos c11] at hf
        exact hL47 b1 b2 S hf
      · rw [if_neg c11] at hf
        exact hL43 b1 b2 S hf
  have hL14 : ∀ (b1 : Int32) (b2 : Int32) (S : St), X4_set_L14 b1 b2 S = some (r, S') → Wj p l e (rmJ 1 23) s m args below meth c (MQ below (QiJ g sz r x S') args s 0 0 (Ag sz)) 4 g sz x S 14 [(0, .ref (ad g 56)), (1, .int b1), (2, .int b2)] [] := by
    intro  b1 b2 S hf
    unfold X4_set_L14 at hf
    refine j_iload_n C dX4_set_14 rfl 1 rfl 15 rfl ?_
    refine j_iconst C dX4_set_15 (v := 1) c_iconst_1 16 rfl ?_
    refine j_icmp_ne C dX4_set_16 29 (by decide) 19 rfl (fun c2 => ?_) (fun c2 => ?_)
    · rw [if_neg c2] at hf
      exact hL29 b1 b2 S hf
    · rw [if_pos c2] at hf
      refine j_iload_n C dX4_set_19 rfl 2 rfl 20 rfl ?_
      refine j_iconst C dX4_set_20 (v := 1) c_iconst_1 21 rfl ?_
      refine j_bipush C dX4_set_21 (v := 6) c_bipush_6 23 rfl ?_
      refine j_callSi (As := [.int b2, .int 1, .int 6]) (rest := []) C (c_X4_within l g sz x S b2 1 6 _ rfl) (j_cwS C qc_X4_within qm_X4_77 qs_X4_within qn_X4 hd_X4_within ⟨rfl, rfl⟩ ⟨by decide, by decide⟩)  rfl (Nat.le_of_ble_eq_true rfl) dX4_set_23 26 rfl ?_
      refine j_if_ne C dX4_set_26 43 (by decide) 29 rfl (fun c12 => ?_) (fun c12 => ?_)
      · rw [if_neg c12] at hf
        exact hL43 b1 b2 S hf
      · rw [if_pos c12] at hf
        exact hL29 b1 b2 S hf
  unfold X4_set at hf
  refine j_iload_n C dX4_set_0 rfl 1 rfl 1 rfl ?_
  refine j_if_ne C dX4_set_1 14 (by decide) 4 rfl (fun c1 => ?_) (fun c1 => ?_)
  · rw [if_neg c1] at hf
    exact hL14 a1 a2 S hf
  · rw [if_pos c1] at hf
    refine j_iload_n C dX4_set_4 rfl 2 rfl 5 rfl ?_
    refine j_iconst C dX4_set_5 (v := 0) c_iconst_0 6 rfl ?_
    refine j_bipush C dX4_set_6 (v := 60) c_bipush_60 8 rfl ?_
    refine j_callSi (As := [.int a2, .int 0, .int 60]) (rest := []) C (c_X4_within l g sz x S a2 0 60 _ rfl) (j_cwS C qc_X4_within qm_X4_77 qs_X4_within qn_X4 hd_X4_within ⟨rfl, rfl⟩ ⟨by decide, by decide⟩)  rfl (Nat.le_of_ble_eq_true rfl) dX4_set_8 11 rfl ?_
    refine j_if_ne C dX4_set_11 43 (by decide) 14 rfl (fun c13 => ?_) (fun c13 => ?_)
    · rw [if_neg c13] at hf
      exact hL43 a1 a2 S hf
    · rw [if_pos c13] at hf
      exact hL14 a1 a2 S hf
set_option maxRecDepth 100000 in
set_option maxHeartbeats 4000000 in
theorem c_X4_goesOver (l : Launch) (g : GG) (sz : Nat) (x S : St) (a1 : Int32) (a2 : Int32) (S' : St) (hf : X4_goesOver a1 a2 S = some S') : Met l yX4_goesOver (.code yX4_goesOver cX4_goesOver 3 none :: ALLW) (rmJ 0 0) (PcJ g sz x S [.ref (ad g 56), .int a1, .int a2]) (QvJ g sz x S') 0 0 (Ag sz) := by
  refine j_met (own := RX4) (by decide) rfl (Nat.le_of_ble_eq_true rfl) rfl ?_
  intro p e s m args below meth c C hr hlk
  have hL31 : ∀ (t0 : Int32) (S : St), X4_goesOver_L31 t0 S = some S' → Wj p l e (rmJ 0 0) s m args below meth c (MQ below (QvJ g sz x S') args s 0 0 (Ag sz)) 3 g sz x S 31 [(0, .ref (ad g 56))] [.int t0, .ref (ad g 57)] := by
    intro  t0 S hf
    unfold X4_goesOver_L31 at hf
    refine j_bipush C dX4_goesOver_31 (v := 102) c_bipush_102 33 rfl ?_
    refine j_goto C dX4_goesOver_33 38 (by decide) ?_
    obtain ⟨S3, hS3, hf⟩ := bnd hf
    refine j4_ast 1 rfl C hS3 dX4_goesOver_38 39 rfl ?_
    refine j_aload_n C dX4_goesOver_39 rfl 0 rfl 40 rfl ?_
    refine j_dup C dX4_goesOver_40 rfl 41 rfl ?_
    refine j4_get C 5 (by decide) qf_X4_146 (v := .int (S3 0 5)) rfl dX4_goesOver_41 44 rfl ?_
    refine j_iconst C dX4_goesOver_44 (v := 1) c_iconst_1 45 rfl ?_
    refine j_iadd C dX4_goesOver_45 46 rfl ?_
    obtain ⟨S4, hS4, hf⟩ := bnd hf
    refine j4_put C 5 rfl rfl rfl qf_X4_146 dX4_goesOver_46 49 rfl ?_
    rw [Option.some.inj hS4]
    obtain rfl := Option.some.inj hf
    exact j_vret C hr hlk dX4_goesOver_49
  unfold X4_goesOver at hf
  refine j_aload_n C dX4_goesOver_0 rfl 0 rfl 1 rfl ?_
  refine j4_get C 0 (by decide) qf_X4_9 (v := .ref (ad g 57)) rfl dX4_goesOver_1 4 rfl ?_
  refine j_bipush C dX4_goesOver_4 (v := 41) c_bipush_41 6 rfl ?_
  refine j_iload_n C dX4_goesOver_6 rfl 1 rfl 7 rfl ?_
  refine j_iadd C dX4_goesOver_7 8 rfl ?_
  refine j_iload_n C dX4_goesOver_8 rfl 2 rfl 9 rfl ?_
  refine j_aload_n C dX4_goesOver_9 rfl 0 rfl 10 rfl ?_
  refine j4_get C 0 (by decide) qf_X4_9 (v := .ref (ad g 57)) rfl dX4_goesOver_10 13 rfl ?_
  refine j_iconst C dX4_goesOver_13 (v := 3) c_iconst_3 14 rfl ?_
  obtain ⟨v1, hv1, hf⟩ := bnd hf
  refine j4_ald 1 rfl C hv1 dX4_goesOver_14 15 rfl ?_
  refine j_icmp_lt C dX4_goesOver_15 31 (by decide) 18 rfl (fun c2 => ?_) (fun c2 => ?_)
  · rw [if_pos c2] at hf
    refine j_sub [0] rfl ?_
    exact hL31 (41 + a1) S hf
  · rw [if_neg c2] at hf
    refine j_iload_n C dX4_goesOver_18 rfl 2 rfl 19 rfl ?_
    refine j_bipush C dX4_goesOver_19 (v := 7) c_bipush_7 21 rfl ?_
    refine j_aload_n C dX4_goesOver_21 rfl 0 rfl 22 rfl ?_
    refine j4_get C 0 (by decide) qf_X4_9 (v := .ref (ad g 57)) rfl dX4_goesOver_22 25 rfl ?_
    refine j_iconst C dX4_goesOver_25 (v := 3) c_iconst_3 26 rfl ?_
    obtain ⟨v5, hv5, hf⟩ := bnd hf
    refine j4_ald 1 rfl C hv5 dX4_goesOver_26 27 rfl ?_
    refine j_isub C dX4_goesOver_27 28 rfl ?_
    refine j_icmp_lt C dX4_goesOver_28 36 (by decide) 31 rfl (fun c6 => ?_) (fun c6 => ?_)
    · rw [if_pos c6] at hf
      refine j_bipush C dX4_goesOver_36 (v := 101) c_bipush_101 38 rfl ?_
      obtain ⟨S7, hS7, hf⟩ := bnd hf
      refine j4_ast 1 rfl C hS7 dX4_goesOver_38 39 rfl ?_
      refine j_aload_n C dX4_goesOver_39 rfl 0 rfl 40 rfl ?_
      refine j_dup C dX4_goesOver_40 rfl 41 rfl ?_
      refine j4_get C 5 (by decide) qf_X4_146 (v := .int (S7 0 5)) rfl dX4_goesOver_41 44 rfl ?_
      refine j_iconst C dX4_goesOver_44 (v := 1) c_iconst_1 45 rfl ?_
      refine j_iadd C dX4_goesOver_45 46 rfl ?_
      obtain ⟨S8, hS8, hf⟩ := bnd hf
      refine j4_put C 5 rfl rfl rfl qf_X4_146 dX4_goesOver_46 49 rfl ?_
      rw [Option.some.inj hS8]
      obtain rfl := Option.some.inj hf
      exact j_vret C hr hlk dX4_goesOver_49
    · rw [if_neg c6] at hf
      refine j_sub [0] rfl ?_
      exact hL31 (41 + a1) S hf
set_option maxRecDepth 100000 in
set_option maxHeartbeats 4000000 in
theorem c_X4_runOf (l : Launch) (g : GG) (sz : Nat) (x S : St) (a1 : Int32) (r : Int32) (hf : X4_runOf a1 S = some r) : Met l yX4_runOf (.code yX4_runOf cX4_runOf 3 (some .int) :: ALLW) (rmJ 1 21) (PcJ g sz x S [.ref (ad g 56), .int a1]) (QiJ g sz r x S) 0 0 (Ag sz) := by
  refine j_met (own := RX4) (by decide) rfl (Nat.le_of_ble_eq_true rfl) rfl ?_
  intro p e s m args below meth c C hr hlk
  have hL2 : ∀ (n : Nat), ∀ (b1 : Int32) (b2 : Int32) (S : St), X4_runOf_L2 n b1 b2 S = some r → Wj p l e (rmJ 1 21) s m args below meth c (MQ below (QiJ g sz r x S) args s 0 0 (Ag sz)) 3 g sz x S 2 [(0, .ref (ad g 56)), (1, .int b1), (2, .int b2)] [] := by
    intro  n
    induction n with
    | zero =>
      intro b1 b2 S hf
      rw [X4_runOf_L2] at hf
      cases hf
    | succ n ih =>
      intro b1 b2 S hf
      rw [X4_runOf_L2] at hf
      refine j_iload_n C dX4_runOf_2 rfl 2 rfl 3 rfl ?_
      refine j_bipush C dX4_runOf_3 (v := 6) c_bipush_6 5 rfl ?_
      refine j_icmp_ge C dX4_runOf_5 26 (by decide) 8 rfl (fun c1 => ?_) (fun c1 => ?_)
      · rw [if_pos c1] at hf
        refine j_iload_n C dX4_runOf_26 rfl 2 rfl 27 rfl ?_
        obtain rfl := Option.some.inj hf
        exact j_iret C hr hlk dX4_runOf_27
      · rw [if_neg c1] at hf
        refine j_aload_n C dX4_runOf_8 rfl 0 rfl 9 rfl ?_
        refine j_iload_n C dX4_runOf_9 rfl 1 rfl 10 rfl ?_
        refine j_iload_n C dX4_runOf_10 rfl 2 rfl 11 rfl ?_
        refine j_callSi (As := [.int b1, .int b2]) (rest := [.ref (ad g 56)]) C (c_X4_cellOf l g sz x S b1 b2 _ rfl) (j_cwS C qc_X4_cellOf qm_X4_119 qs_X4_cellOf qn_X4 hd_X4_cellOf ⟨rfl, rfl⟩ ⟨by decide, by decide⟩)  rfl (Nat.le_of_ble_eq_true rfl) dX4_runOf_11 14 rfl ?_
        obtain ⟨r2, hr2, hf⟩ := bnd hf
        refine j_callVi (As := [.int (X4_cellOf b1 b2)]) (rest := []) C (c_X4_highOf l g sz x S  (X4_cellOf b1 b2) _ hr2) (j_cwV C qc_X4_highOf qm_X4_85 qi_X4_highOf qs_X4_highOf qn_X4 hd_X4_highOf ⟨rfl, rfl⟩ ⟨by decide, by decide⟩) (rcv_mo.cell C.2) rfl (Nat.le_of_ble_eq_true rfl) dX4_runOf_14 17 rfl ?_
        refine j_if_le C dX4_runOf_17 26 (by decide) 20 rfl (fun c3 => ?_) (fun c3 => ?_)
        · rw [if_pos c3] at hf
          refine j_iload_n C dX4_runOf_26 rfl 2 rfl 27 rfl ?_
          obtain rfl := Option.some.inj hf
          exact j_iret C hr hlk dX4_runOf_27
        · rw [if_neg c3] at hf
          refine j_iinc (lv2 := [(2, .int (b2 + 1)), (0, .ref (ad g 56)), (1, .int b1)]) C dX4_runOf_20 (k := 2) rfl (congrArg (HAdd.hAdd b2) c_oi_1) (by decide) rfl 23 rfl ?_
          refine j_goto C dX4_runOf_23 2 (by decide) ?_
          refine j_sub [1, 2, 0] rfl ?_
          exact ih b1 (b2 + 1) S hf
  unfold X4_runOf at hf
  refine j_iconst C dX4_runOf_0 (v := 0) c_iconst_0 1 rfl ?_
  refine j_istore_n (lv2 := [(2, .int 0), (0, .ref (ad g 56)), (1, .int a1)]) C dX4_runOf_1 rfl (by decide) rfl 2 rfl ?_
  refine j_sub [1, 2, 0] rfl ?_
  exact hL2 FU a1 0 S hf
set_option maxRecDepth 100000 in
set_option maxHeartbeats 4000000 in
theorem c_X4_weightOf (l : Launch) (g : GG) (sz : Nat) (x S : St) (a1 : Int32) (r : Int32) (hf : X4_weightOf a1 S = some r) : Met l yX4_weightOf (.code yX4_weightOf cX4_weightOf 6 (some .int) :: ALLW) (rmJ 3 64) (PcJ g sz x S [.ref (ad g 56), .int a1]) (QiJ g sz r x S) 0 0 (Ag sz) := by
  refine j_met (own := RX4) (by decide) rfl (Nat.le_of_ble_eq_true rfl) rfl ?_
  intro p e s m args below meth c C hr hlk
  have hL23 : ∀ (k4 : Int32 → Int32 → Int32 → St → Option Int32) (_ : ∀ (b1 : Int32) (b2 : Int32) (b3 : Int32) (S : St), k4 b1 b2 b3 S = some r → Wj p l e (rmJ 3 64) s m args below meth c (MQ below (QiJ g sz r x S) args s 0 0 (Ag sz)) 6 g sz x S 4 [(0, .ref (ad g 56)), (1, .int b1), (2, .int b2), (3, .int b3)] []), ∀ (n : Nat), ∀ (b1 : Int32) (b2 : Int32) (b3 : Int32) (b4 : Int32) (b5 : Int32) (S : St), X4_weightOf_L23 k4 n b1 b2 b3 b4 b5 S = some r → Wj p l e (rmJ 3 64) s m args below meth c (MQ below (QiJ g sz r x S) args s 0 0 (Ag sz)) 6 g sz x S 23 [(0, .ref (ad g 56)), (1, .int b1), (2, .int b2), (3, .int b3), (4, .int b4), (5, .int b5)] [] := by
    intro k4 hk4 n
    induction n with
    | zero =>
      intro b1 b2 b3 b4 b5 S hf
      rw [X4_weightOf_L23] at hf
      cases hf
    | succ n ih =>
      intro b1 b2 b3 b4 b5 S hf
      rw [X4_weightOf_L23] at hf
      refine j_iload C dX4_weightOf_23 5 rfl 25 rfl ?_
      refine j_aload_n C dX4_weightOf_25 rfl 0 rfl 26 rfl ?_
      refine j_iload C dX4_weightOf_26 4 rfl 28 rfl ?_
      obtain ⟨r3, hr3, hf⟩ := bnd hf
      refine j_callVi (As := [.int b4]) (rest := [.int b5]) C (c_X4_highOf l g sz x S  b4 _ hr3) (j_cwV C qc_X4_highOf qm_X4_85 qi_X4_highOf qs_X4_highOf qn_X4 hd_X4_highOf ⟨rfl, rfl⟩ ⟨by decide, by decide⟩) (rcv_mo.cell C.2) rfl (Nat.le_of_ble_eq_true rfl) dX4_weightOf_28 31 rfl ?_
      refine j_icmp_ge C dX4_weightOf_31 55 (by decide) 34 rfl (fun c4 => ?_) (fun c4 => ?_)
      · rw [if_pos c4] at hf
        refine j_iinc (lv2 := [(3, .int (b3 + 1)), (0, .ref (ad g 56)), (1, .int b1), (2, .int b2), (4, .int b4), (5, .int b5)]) C dX4_weightOf_55 (k := 3) rfl (congrArg (HAdd.hAdd b3) c_oi_1) (by decide) rfl 58 rfl ?_
        refine j_goto C dX4_weightOf_58 4 (by decide) ?_
        refine j_sub [1, 2, 3, 0] rfl ?_
        exact hk4 b1 b2 (b3 + 1) S hf
      · rw [if_neg c4] at hf
        refine j_iload_n C dX4_weightOf_34 rfl 2 rfl 35 rfl ?_
        refine j_aload_n C dX4_weightOf_35 rfl 0 rfl 36 rfl ?_
        refine j_aload_n C dX4_weightOf_36 rfl 0 rfl 37 rfl ?_
        refine j_iload C dX4_weightOf_37 4 rfl 39 rfl ?_
        refine j_iload C dX4_weightOf_39 5 rfl 41 rfl ?_
        obtain ⟨r5, hr5, hf⟩ := bnd hf
        refine j_callVi (As := [.int b4, .int b5]) (rest := [.ref (ad g 56), .int b2]) C (c_X4_coinAt l g sz x S  b4 b5 _ hr5) (j_cwV C qc_X4_coinAt qm_X4_89 qi_X4_coinAt qs_X4_coinAt qn_X4 hd_X4_coinAt ⟨rfl, rfl⟩ ⟨by decide, by decide⟩) (rcv_mo.cell C.2) rfl (Nat.le_of_ble_eq_true rfl) dX4_weightOf_41 44 rfl ?_
        obtain ⟨r6, hr6, hf⟩ := bnd hf
        refine j_callVi (As := [.int r5]) (rest := [.int b2]) C (c_X4_weighs l g sz x S  r5 _ hr6) (j_cwV C qc_X4_weighs qm_X4_125 qi_X4_weighs qs_X4_weighs qn_X4 hd_X4_weighs ⟨rfl, rfl⟩ ⟨by decide, by decide⟩) (rcv_mo.cell C.2) rfl (Nat.le_of_ble_eq_true rfl) dX4_weightOf_44 47 rfl ?_
        refine j_iadd C dX4_weightOf_47 48 rfl ?_
        refine j_istore_n (lv2 := [(2, .int (b2 + r6)), (0, .ref (ad g 56)), (1, .int b1), (3, .int b3), (4, .int b4), (5, .int b5)]) C dX4_weightOf_48 rfl (by decide) rfl 49 rfl ?_
        refine j_iinc (lv2 := [(5, .int (b5 + 1)), (2, .int (b2 + r6)), (0, .ref (ad g 56)), (1, .int b1), (3, .int b3), (4, .int b4)]) C dX4_weightOf_49 (k := 5) rfl (congrArg (HAdd.hAdd b5) c_oi_1) (by decide) rfl 52 rfl ?_
        refine j_goto C dX4_weightOf_52 23 (by decide) ?_
        refine j_sub [2, 3, 1, 4, 5, 0] rfl ?_
        exact ih b1 (b2 + r6) b3 b4 (b5 + 1) S hf
  have hL4 : ∀ (n : Nat), ∀ (b1 : Int32) (b2 : Int32) (b3 : Int32) (S : St), X4_weightOf_L4 n b1 b2 b3 S = some r → Wj p l e (rmJ 3 64) s m args below meth c (MQ below (QiJ g sz r x S) args s 0 0 (Ag sz)) 6 g sz x S 4 [(0, .ref (ad g 56)), (1, .int b1), (2, .int b2), (3, .int b3)] [] := by
    intro  n
    induction n with
    | zero =>
      intro b1 b2 b3 S hf
      rw [X4_weightOf_L4] at hf
      cases hf
    | succ n ih =>
      intro b1 b2 b3 S hf
      rw [X4_weightOf_L4] at hf
      refine j_iload_n C dX4_weightOf_4 rfl 3 rfl 5 rfl ?_
      refine j_aload_n C dX4_weightOf_5 rfl 0 rfl 6 rfl ?_
      refine j_iload_n C dX4_weightOf_6 rfl 1 rfl 7 rfl ?_
      obtain ⟨r1, hr1, hf⟩ := bnd hf
      refine j_callVi (As := [.int b1]) (rest := [.int b3]) C (c_X4_runOf l g sz x S  b1 _ hr1) (j_cwV C qc_X4_runOf qm_X4_150 qi_X4_runOf qs_X4_runOf qn_X4 hd_X4_runOf ⟨rfl, rfl⟩ ⟨by decide, by decide⟩) (rcv_mo.cell C.2) rfl (Nat.le_of_ble_eq_true rfl) dX4_weightOf_7 10 rfl ?_
      refine j_icmp_ge C dX4_weightOf_10 61 (by decide) 13 rfl (fun c2 => ?_) (fun c2 => ?_)
      · rw [if_pos c2] at hf
        refine j_iload_n C dX4_weightOf_61 rfl 2 rfl 62 rfl ?_
        obtain rfl := Option.some.inj hf
        exact j_iret C hr hlk dX4_weightOf_62
      · rw [if_neg c2] at hf
        refine j_iload_n C dX4_weightOf_13 rfl 1 rfl 14 rfl ?_
        refine j_iload_n C dX4_weightOf_14 rfl 3 rfl 15 rfl ?_
        refine j_callSi (As := [.int b1, .int b3]) (rest := []) C (c_X4_cellOf l g sz x S b1 b3 _ rfl) (j_cwS C qc_X4_cellOf qm_X4_119 qs_X4_cellOf qn_X4 hd_X4_cellOf ⟨rfl, rfl⟩ ⟨by decide, by decide⟩)  rfl (Nat.le_of_ble_eq_true rfl) dX4_weightOf_15 18 rfl ?_
        refine j_istore (lv2 := [(4, .int (X4_cellOf b1 b3)), (0, .ref (ad g 56)), (1, .int b1), (2, .int b2), (3, .int b3)]) C dX4_weightOf_18 (by decide) rfl 20 rfl ?_
        refine j_iconst C dX4_weightOf_20 (v := 0) c_iconst_0 21 rfl ?_
        refine j_istore (lv2 := [(5, .int 0), (4, .int (X4_cellOf b1 b3)), (0, .ref (ad g 56)), (1, .int b1), (2, .int b2), (3, .int b3)]) C dX4_weightOf_21 (by decide) rfl 23 rfl ?_
        refine j_sub [2, 3, 4, 5, 1, 0] rfl ?_
        exact hL23 _ ih FU b1 b2 b3 (X4_cellOf b1 b3) 0 S hf
  unfold X4_weightOf at hf
  refine j_iconst C dX4_weightOf_0 (v := 0) c_iconst_0 1 rfl ?_
  refine j_istore_n (lv2 := [(2, .int 0), (0, .ref (ad g 56)), (1, .int a1)]) C dX4_weightOf_1 rfl (by decide) rfl 2 rfl ?_
  refine j_iconst C dX4_weightOf_2 (v := 0) c_iconst_0 3 rfl ?_
  refine j_istore_n (lv2 := [(3, .int 0), (2, .int 0), (0, .ref (ad g 56)), (1, .int a1)]) C dX4_weightOf_3 rfl (by decide) rfl 4 rfl ?_
  refine j_sub [2, 3, 1, 0] rfl ?_
  exact hL4 FU a1 0 0 S hf
set_option maxRecDepth 100000 in
set_option maxHeartbeats 4000000 in
theorem c_X4_isMoved (l : Launch) (g : GG) (sz : Nat) (x S : St) (a1 : Int32) (r : Int32) (hf : X4_isMoved a1 S = some r) : Met l yX4_isMoved (.code yX4_isMoved cX4_isMoved 2 (some .boolean) :: ALLW) (rmJ 4 89) (PcJ g sz x S [.ref (ad g 56), .int a1]) (QiJ g sz r x S) 0 0 (Ag sz) := by
  refine j_met (own := RX4) (by decide) rfl (Nat.le_of_ble_eq_true rfl) rfl ?_
  intro p e s m args below meth c C hr hlk
  unfold X4_isMoved at hf
  refine j_aload_n C dX4_isMoved_0 rfl 0 rfl 1 rfl ?_
  refine j_iload_n C dX4_isMoved_1 rfl 1 rfl 2 rfl ?_
  obtain ⟨r1, hr1, hf⟩ := bnd hf
  refine j_callVi (As := [.int a1]) (rest := []) C (c_X4_runOf l g sz x S  a1 _ hr1) (j_cwV C qc_X4_runOf qm_X4_150 qi_X4_runOf qs_X4_runOf qn_X4 hd_X4_runOf ⟨rfl, rfl⟩ ⟨by decide, by decide⟩) (rcv_mo.cell C.2) rfl (Nat.le_of_ble_eq_true rfl) dX4_isMoved_2 5 rfl ?_
  refine j_if_le C dX4_isMoved_5 26 (by decide) 8 rfl (fun c2 => ?_) (fun c2 => ?_)
  · rw [if_pos c2] at hf
    refine j_iconst C dX4_isMoved_26 (v := 0) c_iconst_0 27 rfl ?_
    obtain rfl := Option.some.inj hf
    exact j_zret C hr hlk (Or.inl rfl) dX4_isMoved_27
  · rw [if_neg c2] at hf
    refine j_aload_n C dX4_isMoved_8 rfl 0 rfl 9 rfl ?_
    refine j_iload_n C dX4_isMoved_9 rfl 1 rfl 10 rfl ?_
    obtain ⟨r3, hr3, hf⟩ := bnd hf
    refine j_callVi (As := [.int a1]) (rest := []) C (c_X4_weightOf l g sz x S  a1 _ hr3) (j_cwV C qc_X4_weightOf qm_X4_153 qi_X4_weightOf qs_X4_weightOf qn_X4 hd_X4_weightOf ⟨rfl, rfl⟩ ⟨by decide, by decide⟩) (rcv_mo.cell C.2) rfl (Nat.le_of_ble_eq_true rfl) dX4_isMoved_10 13 rfl ?_
    refine j_aload_n C dX4_isMoved_13 rfl 0 rfl 14 rfl ?_
    refine j4_get C 0 (by decide) qf_X4_9 (v := .ref (ad g 57)) rfl dX4_isMoved_14 17 rfl ?_
    refine j_iconst C dX4_isMoved_17 (v := 1) c_iconst_1 18 rfl ?_
    obtain ⟨v4, hv4, hf⟩ := bnd hf
    refine j4_ald 1 rfl C hv4 dX4_isMoved_18 19 rfl ?_
    refine j_icmp_gt C dX4_isMoved_19 26 (by decide) 22 rfl (fun c5 => ?_) (fun c5 => ?_)
    · rw [if_pos c5] at hf
      refine j_iconst C dX4_isMoved_26 (v := 0) c_iconst_0 27 rfl ?_
      obtain rfl := Option.some.inj hf
      exact j_zret C hr hlk (Or.inl rfl) dX4_isMoved_27
    · rw [if_neg c5] at hf
      refine j_iconst C dX4_isMoved_22 (v := 1) c_iconst_1 23 rfl ?_
      refine j_goto C dX4_isMoved_23 27 (by decide) ?_
      obtain rfl := Option.some.inj hf
      exact j_zret C hr hlk (Or.inr rfl) dX4_isMoved_27
set_option maxRecDepth 100000 in
set_option maxHeartbeats 4000000 in
theorem c_X4_goesOn (l : Launch) (g : GG) (sz : Nat) (x S : St) (a1 : Int32) (a2 : Int32) (S' : St) (hf : X4_goesOn a1 a2 S = some S') : Met l yX4_goesOn (.code yX4_goesOn cX4_goesOn 7 none :: ALLW) (rmJ 2 43) (PcJ g sz x S [.ref (ad g 56), .int a1, .int a2]) (QvJ g sz x S') 0 0 (Ag sz) := by
  refine j_met (own := RX4) (by decide) rfl (Nat.le_of_ble_eq_true rfl) rfl ?_
  intro p e s m args below meth c C hr hlk
  have hL26 : ∀ (n : Nat), ∀ (b1 : Int32) (b2 : Int32) (b3 : Int32) (b4 : Int32) (b5 : Int32) (S : St), X4_goesOn_L26 n b1 b2 b3 b4 b5 S = some S' → Wj p l e (rmJ 2 43) s m args below meth c (MQ below (QvJ g sz x S') args s 0 0 (Ag sz)) 7 g sz x S 26 [(0, .ref (ad g 56)), (1, .int b1), (2, .int b2), (3, .int b3), (4, .int b4), (5, .int b5)] [] := by
    intro  n
    induction n with
    | zero =>
      intro b1 b2 b3 b4 b5 S hf
      rw [X4_goesOn_L26] at hf
      cases hf
    | succ n ih =>
      intro b1 b2 b3 b4 b5 S hf
      rw [X4_goesOn_L26] at hf
      refine j_iload C dX4_goesOn_26 5 rfl 28 rfl ?_
      refine j_iload C dX4_goesOn_28 4 rfl 30 rfl ?_
      refine j_icmp_ge C dX4_goesOn_30 72 (by decide) 33 rfl (fun c3 => ?_) (fun c3 => ?_)
      · rw [if_pos c3] at hf
        refine j_aload_n C dX4_goesOn_72 rfl 0 rfl 73 rfl ?_
        refine j_dup C dX4_goesOn_73 rfl 74 rfl ?_
        refine j4_get C 6 (by decide) qf_X4_159 (v := .int (S 0 6)) rfl dX4_goesOn_74 77 rfl ?_
        refine j_iload C dX4_goesOn_77 4 rfl 79 rfl ?_
        refine j_iadd C dX4_goesOn_79 80 rfl ?_
        obtain ⟨S4, hS4, hf⟩ := bnd hf
        refine j4_put C 6 rfl rfl rfl qf_X4_159 dX4_goesOn_80 83 rfl ?_
        rw [Option.some.inj hS4]
        obtain rfl := Option.some.inj hf
        exact j_vret C hr hlk dX4_goesOn_83
      · rw [if_neg c3] at hf
        refine j_aload_n C dX4_goesOn_33 rfl 0 rfl 34 rfl ?_
        refine j_iload_n C dX4_goesOn_34 rfl 3 rfl 35 rfl ?_
        refine j_iload C dX4_goesOn_35 5 rfl 37 rfl ?_
        obtain ⟨r5, hr5, hf⟩ := bnd hf
        refine j_callVi (As := [.int b3, .int b5]) (rest := []) C (c_X4_coinAt l g sz x S  b3 b5 _ hr5) (j_cwV C qc_X4_coinAt qm_X4_89 qi_X4_coinAt qs_X4_coinAt qn_X4 hd_X4_coinAt ⟨rfl, rfl⟩ ⟨by decide, by decide⟩) (rcv_mo.cell C.2) rfl (Nat.le_of_ble_eq_true rfl) dX4_goesOn_37 40 rfl ?_
        refine j_istore (lv2 := [(6, .int r5), (0, .ref (ad g 56)), (1, .int b1), (2, .int b2), (3, .int b3), (4, .int b4), (5, .int b5)]) C dX4_goesOn_40 (by decide) rfl 42 rfl ?_
        refine j_iload_n C dX4_goesOn_42 rfl 3 rfl 43 rfl ?_
        refine j_iconst C dX4_goesOn_43 (v := 5) c_iconst_5 44 rfl ?_
        refine j_icmp_ne C dX4_goesOn_44 57 (by decide) 47 rfl (fun c6 => ?_) (fun c6 => ?_)
        · rw [if_neg c6] at hf
          refine j_aload_n C dX4_goesOn_57 rfl 1 rfl 58 rfl ?_
          refine j_iload C dX4_goesOn_58 0 rfl 60 rfl ?_
          refine j_iload_n C dX4_goesOn_60 rfl 4 rfl 61 rfl ?_
          refine j_iconst C dX4_goesOn_61 (v := 1) c_iconst_1 62 rfl ?_
          refine j_iadd C dX4_goesOn_62 63 rfl ?_
          obtain ⟨S7, hS7, hf⟩ := bnd hf
          refine j_callVv (As := [.int r5, .int (b3 + 1)]) (rest := []) C (c_X4_comesOn l g sz x S  r5 (b3 + 1) _ hS7) (j_cwV C qc_X4_comesOn qm_X4_138 qi_X4_comesOn qs_X4_comesOn qn_X4 hd_X4_comesOn ⟨rfl, rfl⟩ ⟨by decide, by decide⟩) (rcv_mo.cell C.2) rfl (Nat.le_of_ble_eq_true rfl) dX4_goesOn_63 66 rfl ?_
          refine j_iinc (lv2 := [(5, .int (b5 + 1)), (6, .int r5), (0, .ref (ad g 56)), (1, .int b1), (2, .int b2), (3, .int b3), (4, .int b4)]) C dX4_goesOn_66 (k := 6) rfl (congrArg (HAdd.hAdd b5) c_oi_1) (by decide) rfl 69 rfl ?_
          refine j_goto C dX4_goesOn_69 26 (by decide) ?_
          refine j_sub [2, 3, 4, 5, 6, 0] rfl ?_
          exact ih b1 b2 b3 b4 (b5 + 1) S7 hf
        · rw [if_pos c6] at hf
          refine j_aload_n C dX4_goesOn_47 rfl 1 rfl 48 rfl ?_
          refine j_iload C dX4_goesOn_48 0 rfl 50 rfl ?_
          refine j_iload_n C dX4_goesOn_50 rfl 2 rfl 51 rfl ?_
          obtain ⟨S8, hS8, hf⟩ := bnd hf
          refine j_callVv (As := [.int r5, .int b1]) (rest := []) C (c_X4_goesOver l g sz x S  r5 b1 _ hS8) (j_cwV C qc_X4_goesOver qm_X4_156 qi_X4_goesOver qs_X4_goesOver qn_X4 hd_X4_goesOver ⟨rfl, rfl⟩ ⟨by decide, by decide⟩) (rcv_mo.cell C.2) rfl (Nat.le_of_ble_eq_true rfl) dX4_goesOn_51 54 rfl ?_
          refine j_goto C dX4_goesOn_54 66 (by decide) ?_
          refine j_iinc (lv2 := [(5, .int (b5 + 1)), (6, .int r5), (0, .ref (ad g 56)), (1, .int b1), (2, .int b2), (3, .int b3), (4, .int b4)]) C dX4_goesOn_66 (k := 6) rfl (congrArg (HAdd.hAdd b5) c_oi_1) (by decide) rfl 69 rfl ?_
          refine j_goto C dX4_goesOn_69 26 (by decide) ?_
          refine j_sub [2, 3, 4, 5, 6, 0] rfl ?_
          exact ih b1 b2 b3 b4 (b5 + 1) S8 hf
  unfold X4_goesOn at hf
  refine j_iload_n C dX4_goesOn_0 rfl 1 rfl 1 rfl ?_
  refine j_iload_n C dX4_goesOn_1 rfl 2 rfl 2 rfl ?_
  refine j_callSi (As := [.int a1, .int a2]) (rest := []) C (c_X4_cellOf l g sz x S a1 a2 _ rfl) (j_cwS C qc_X4_cellOf qm_X4_119 qs_X4_cellOf qn_X4 hd_X4_cellOf ⟨rfl, rfl⟩ ⟨by decide, by decide⟩)  rfl (Nat.le_of_ble_eq_true rfl) dX4_goesOn_2 5 rfl ?_
  refine j_istore_n (lv2 := [(3, .int (X4_cellOf a1 a2)), (0, .ref (ad g 56)), (1, .int a1), (2, .int a2)]) C dX4_goesOn_5 rfl (by decide) rfl 6 rfl ?_
  refine j_aload_n C dX4_goesOn_6 rfl 1 rfl 7 rfl ?_
  refine j_iload_n C dX4_goesOn_7 rfl 0 rfl 8 rfl ?_
  obtain ⟨r1, hr1, hf⟩ := bnd hf
  refine j_callVi (As := [.int (X4_cellOf a1 a2)]) (rest := []) C (c_X4_highOf l g sz x S  (X4_cellOf a1 a2) _ hr1) (j_cwV C qc_X4_highOf qm_X4_85 qi_X4_highOf qs_X4_highOf qn_X4 hd_X4_highOf ⟨rfl, rfl⟩ ⟨by decide, by decide⟩) (rcv_mo.cell C.2) rfl (Nat.le_of_ble_eq_true rfl) dX4_goesOn_8 11 rfl ?_
  refine j_istore (lv2 := [(4, .int r1), (3, .int (X4_cellOf a1 a2)), (0, .ref (ad g 56)), (1, .int a1), (2, .int a2)]) C dX4_goesOn_11 (by decide) rfl 13 rfl ?_
  refine j_aload_n C dX4_goesOn_13 rfl 2 rfl 14 rfl ?_
  refine j4_get C 0 (by decide) qf_X4_9 (v := .ref (ad g 57)) rfl dX4_goesOn_14 17 rfl ?_
  refine j_bipush C dX4_goesOn_17 (v := 65) c_bipush_65 19 rfl ?_
  refine j_iload_n C dX4_goesOn_19 rfl 1 rfl 20 rfl ?_
  refine j_iadd C dX4_goesOn_20 21 rfl ?_
  refine j_iconst C dX4_goesOn_21 (v := 0) c_iconst_0 22 rfl ?_
  obtain ⟨S2, hS2, hf⟩ := bnd hf
  refine j4_ast 1 rfl C hS2 dX4_goesOn_22 23 rfl ?_
  refine j_iconst C dX4_goesOn_23 (v := 0) c_iconst_0 24 rfl ?_
  refine j_istore (lv2 := [(5, .int 0), (4, .int r1), (3, .int (X4_cellOf a1 a2)), (0, .ref (ad g 56)), (1, .int a1), (2, .int a2)]) C dX4_goesOn_24 (by decide) rfl 26 rfl ?_
  refine j_sub [3, 4, 5, 2, 1, 0] rfl ?_
  exact hL26 FU a1 a2 (X4_cellOf a1 a2) r1 0 S2 hf
set_option maxRecDepth 100000 in
set_option maxHeartbeats 4000000 in
theorem c_X4_slidesOff (l : Launch) (g : GG) (sz : Nat) (x S : St) (a1 : Int32) (a2 : Int32) (S' : St) (hf : X4_slidesOff a1 a2 S = some S') : Met l yX4_slidesOff (.code yX4_slidesOff cX4_slidesOff 4 none :: ALLW) (rmJ 3 65) (PcJ g sz x S [.ref (ad g 56), .int a1, .int a2]) (QvJ g sz x S') 0 0 (Ag sz) := by
  refine j_met (own := RX4) (by decide) rfl (Nat.le_of_ble_eq_true rfl) rfl ?_
  intro p e s m args below meth c C hr hlk
  unfold X4_slidesOff at hf
  refine j_aload_n C dX4_slidesOff_0 rfl 0 rfl 1 rfl ?_
  refine j_iload_n C dX4_slidesOff_1 rfl 1 rfl 2 rfl ?_
  refine j_iload_n C dX4_slidesOff_2 rfl 2 rfl 3 rfl ?_
  refine j_callSi (As := [.int a1, .int a2]) (rest := [.ref (ad g 56)]) C (c_X4_cellOf l g sz x S a1 a2 _ rfl) (j_cwS C qc_X4_cellOf qm_X4_119 qs_X4_cellOf qn_X4 hd_X4_cellOf ⟨rfl, rfl⟩ ⟨by decide, by decide⟩)  rfl (Nat.le_of_ble_eq_true rfl) dX4_slidesOff_3 6 rfl ?_
  obtain ⟨⟨r2, S3⟩, hq1, hf⟩ := bnd hf
  dsimp only at hf
  refine j_callVi (As := [.int (X4_cellOf a1 a2)]) (rest := []) C (c_X4_taken l g sz x S  (X4_cellOf a1 a2) _ _ hq1) (j_cwV C qc_X4_taken qm_X4_143 qi_X4_taken qs_X4_taken qn_X4 hd_X4_taken ⟨rfl, rfl⟩ ⟨by decide, by decide⟩) (rcv_mo.cell C.2) rfl (Nat.le_of_ble_eq_true rfl) dX4_slidesOff_6 9 rfl ?_
  refine j_istore_n (lv2 := [(3, .int r2), (0, .ref (ad g 56)), (1, .int a1), (2, .int a2)]) C dX4_slidesOff_9 rfl (by decide) rfl 10 rfl ?_
  refine j_iload_n C dX4_slidesOff_10 rfl 3 rfl 11 rfl ?_
  refine j_iconst C dX4_slidesOff_11 (v := 5) c_iconst_5 12 rfl ?_
  refine j_icmp_ne C dX4_slidesOff_12 24 (by decide) 15 rfl (fun c4 => ?_) (fun c4 => ?_)
  · rw [if_neg c4] at hf
    refine j_aload_n C dX4_slidesOff_24 rfl 1 rfl 25 rfl ?_
    refine j_iload_n C dX4_slidesOff_25 rfl 0 rfl 26 rfl ?_
    refine j_iload_n C dX4_slidesOff_26 rfl 2 rfl 27 rfl ?_
    refine j_iload_n C dX4_slidesOff_27 rfl 3 rfl 28 rfl ?_
    refine j_iconst C dX4_slidesOff_28 (v := 1) c_iconst_1 29 rfl ?_
    refine j_iadd C dX4_slidesOff_29 30 rfl ?_
    refine j_callSi (As := [.int a1, .int (a2 + 1)]) (rest := [.int r2, .ref (ad g 56)]) C (c_X4_cellOf l g sz x S3 a1 (a2 + 1) _ rfl) (j_cwS C qc_X4_cellOf qm_X4_119 qs_X4_cellOf qn_X4 hd_X4_cellOf ⟨rfl, rfl⟩ ⟨by decide, by decide⟩)  rfl (Nat.le_of_ble_eq_true rfl) dX4_slidesOff_30 33 rfl ?_
    obtain ⟨S5, hS5, hf⟩ := bnd hf
    refine j_callVv (As := [.int r2, .int (X4_cellOf a1 (a2 + 1))]) (rest := []) C (c_X4_comesOn l g sz x S3  r2 (X4_cellOf a1 (a2 + 1)) _ hS5) (j_cwV C qc_X4_comesOn qm_X4_138 qi_X4_comesOn qs_X4_comesOn qn_X4 hd_X4_comesOn ⟨rfl, rfl⟩ ⟨by decide, by decide⟩) (rcv_mo.cell C.2) rfl (Nat.le_of_ble_eq_true rfl) dX4_slidesOff_33 36 rfl ?_
    refine j_aload_n C dX4_slidesOff_36 rfl 1 rfl 37 rfl ?_
    refine j_dup C dX4_slidesOff_37 rfl 38 rfl ?_
    refine j4_get C 6 (by decide) qf_X4_159 (v := .int (S5 0 6)) rfl dX4_slidesOff_38 41 rfl ?_
    refine j_iconst C dX4_slidesOff_41 (v := 1) c_iconst_1 42 rfl ?_
    refine j_iadd C dX4_slidesOff_42 43 rfl ?_
    obtain ⟨S6, hS6, hf⟩ := bnd hf
    refine j4_put C 6 rfl rfl rfl qf_X4_159 dX4_slidesOff_43 46 rfl ?_
    rw [Option.some.inj hS6]
    obtain rfl := Option.some.inj hf
    exact j_vret C hr hlk dX4_slidesOff_46
  · rw [if_pos c4] at hf
    refine j_aload_n C dX4_slidesOff_15 rfl 1 rfl 16 rfl ?_
    refine j_iload_n C dX4_slidesOff_16 rfl 0 rfl 17 rfl ?_
    refine j_iload_n C dX4_slidesOff_17 rfl 2 rfl 18 rfl ?_
    obtain ⟨S7, hS7, hf⟩ := bnd hf
    refine j_callVv (As := [.int r2, .int a1]) (rest := []) C (c_X4_goesOver l g sz x S3  r2 a1 _ hS7) (j_cwV C qc_X4_goesOver qm_X4_156 qi_X4_goesOver qs_X4_goesOver qn_X4 hd_X4_goesOver ⟨rfl, rfl⟩ ⟨by decide, by decide⟩) (rcv_mo.cell C.2) rfl (Nat.le_of_ble_eq_true rfl) dX4_slidesOff_18 21 rfl ?_
    refine j_goto C dX4_slidesOff_21 36 (by decide) ?_
    refine j_aload_n C dX4_slidesOff_36 rfl 1 rfl 37 rfl ?_
    refine j_dup C dX4_slidesOff_37 rfl 38 rfl ?_
    refine j4_get C 6 (by decide) qf_X4_159 (v := .int (S7 0 6)) rfl dX4_slidesOff_38 41 rfl ?_
    refine j_iconst C dX4_slidesOff_41 (v := 1) c_iconst_1 42 rfl ?_
    refine j_iadd C dX4_slidesOff_42 43 rfl ?_
    obtain ⟨S8, hS8, hf⟩ := bnd hf
    refine j4_put C 6 rfl rfl rfl qf_X4_159 dX4_slidesOff_43 46 rfl ?_
    rw [Option.some.inj hS8]
    obtain rfl := Option.some.inj hf
    exact j_vret C hr hlk dX4_slidesOff_46
set_option maxRecDepth 100000 in
set_option maxHeartbeats 4000000 in
theorem c_X4_isLeaning (l : Launch) (g : GG) (sz : Nat) (x S : St) (a1 : Int32) (a2 : Int32) (r : Int32) (hf : X4_isLeaning a1 a2 S = some r) : Met l yX4_isLeaning (.code yX4_isLeaning cX4_isLeaning 5 (some .boolean) :: ALLW) (rmJ 2 43) (PcJ g sz x S [.ref (ad g 56), .int a1, .int a2]) (QiJ g sz r x S) 0 0 (Ag sz) := by
  refine j_met (own := RX4) (by decide) rfl (Nat.le_of_ble_eq_true rfl) rfl ?_
  intro p e s m args below meth c C hr hlk
  have hL22 : ∀ (b3 : Int32) (t0 : Int32) (S : St), X4_isLeaning_L22 b3 t0 S = some r → Wj p l e (rmJ 2 43) s m args below meth c (MQ below (QiJ g sz r x S) args s 0 0 (Ag sz)) 5 g sz x S 22 [(0, .ref (ad g 56)), (3, .int b3)] [.int t0] := by
    intro  b3 t0 S hf
    unfold X4_isLeaning_L22 at hf
    refine j_istore (lv2 := [(4, .int t0), (0, .ref (ad g 56)), (3, .int b3)]) C dX4_isLeaning_22 (by decide) rfl 24 rfl ?_
    refine j_aload_n C dX4_isLeaning_24 rfl 1 rfl 25 rfl ?_
    refine j_iload_n C dX4_isLeaning_25 rfl 2 rfl 26 rfl ?_
    obtain ⟨r3, hr3, hf⟩ := bnd hf
    refine j_callVi (As := [.int b3]) (rest := []) C (c_X4_highOf l g sz x S  b3 _ hr3) (j_cwV C qc_X4_highOf qm_X4_85 qi_X4_highOf qs_X4_highOf qn_X4 hd_X4_highOf ⟨rfl, rfl⟩ ⟨by decide, by decide⟩) (rcv_mo.cell C.2) rfl (Nat.le_of_ble_eq_true rfl) dX4_isLeaning_26 29 rfl ?_
    refine j_iload C dX4_isLeaning_29 0 rfl 31 rfl ?_
    refine j_iconst C dX4_isLeaning_31 (v := 3) c_iconst_3 32 rfl ?_
    refine j_iadd C dX4_isLeaning_32 33 rfl ?_
    refine j_icmp_lt C dX4_isLeaning_33 52 (by decide) 36 rfl (fun c4 => ?_) (fun c4 => ?_)
    · rw [if_pos c4] at hf
      refine j_iconst C dX4_isLeaning_52 (v := 0) c_iconst_0 53 rfl ?_
      obtain rfl := Option.some.inj hf
      exact j_zret C hr hlk (Or.inl rfl) dX4_isLeaning_53
    · rw [if_neg c4] at hf
      refine j_aload_n C dX4_isLeaning_36 rfl 1 rfl 37 rfl ?_
      refine j_aload_n C dX4_isLeaning_37 rfl 1 rfl 38 rfl ?_
      refine j_iload_n C dX4_isLeaning_38 rfl 2 rfl 39 rfl ?_
      obtain ⟨r5, hr5, hf⟩ := bnd hf
      refine j_callVi (As := [.int b3]) (rest := [.ref (ad g 56)]) C (c_X4_topOf l g sz x S  b3 _ hr5) (j_cwV C qc_X4_topOf qm_X4_93 qi_X4_topOf qs_X4_topOf qn_X4 hd_X4_topOf ⟨rfl, rfl⟩ ⟨by decide, by decide⟩) (rcv_mo.cell C.2) rfl (Nat.le_of_ble_eq_true rfl) dX4_isLeaning_39 42 rfl ?_
      obtain ⟨r6, hr6, hf⟩ := bnd hf
      refine j_callVi (As := [.int r5]) (rest := []) C (c_X4_slides l g sz x S  r5 _ hr6) (j_cwV C qc_X4_slides qm_X4_128 qi_X4_slides qs_X4_slides qn_X4 hd_X4_slides ⟨rfl, rfl⟩ ⟨by decide, by decide⟩) (rcv_mo.cell C.2) rfl (Nat.le_of_ble_eq_true rfl) dX4_isLeaning_42 45 rfl ?_
      refine j_if_eq C dX4_isLeaning_45 52 (by decide) 48 rfl (fun c7 => ?_) (fun c7 => ?_)
      · rw [if_pos c7] at hf
        refine j_iconst C dX4_isLeaning_52 (v := 0) c_iconst_0 53 rfl ?_
        obtain rfl := Option.some.inj hf
        exact j_zret C hr hlk (Or.inl rfl) dX4_isLeaning_53
      · rw [if_neg c7] at hf
        refine j_iconst C dX4_isLeaning_48 (v := 1) c_iconst_1 49 rfl ?_
        refine j_goto C dX4_isLeaning_49 53 (by decide) ?_
        obtain rfl := Option.some.inj hf
        exact j_zret C hr hlk (Or.inr rfl) dX4_isLeaning_53
  unfold X4_isLeaning at hf
  refine j_iload_n C dX4_isLeaning_0 rfl 1 rfl 1 rfl ?_
  refine j_iload_n C dX4_isLeaning_1 rfl 2 rfl 2 rfl ?_
  refine j_callSi (As := [.int a1, .int a2]) (rest := []) C (c_X4_cellOf l g sz x S a1 a2 _ rfl) (j_cwS C qc_X4_cellOf qm_X4_119 qs_X4_cellOf qn_X4 hd_X4_cellOf ⟨rfl, rfl⟩ ⟨by decide, by decide⟩)  rfl (Nat.le_of_ble_eq_true rfl) dX4_isLeaning_2 5 rfl ?_
  refine j_istore_n (lv2 := [(3, .int (X4_cellOf a1 a2)), (0, .ref (ad g 56)), (1, .int a1), (2, .int a2)]) C dX4_isLeaning_5 rfl (by decide) rfl 6 rfl ?_
  refine j_iload_n C dX4_isLeaning_6 rfl 3 rfl 7 rfl ?_
  refine j_iconst C dX4_isLeaning_7 (v := 5) c_iconst_5 8 rfl ?_
  refine j_icmp_ne C dX4_isLeaning_8 15 (by decide) 11 rfl (fun c1 => ?_) (fun c1 => ?_)
  · rw [if_neg c1] at hf
    refine j_aload_n C dX4_isLeaning_15 rfl 1 rfl 16 rfl ?_
    refine j_iload_n C dX4_isLeaning_16 rfl 0 rfl 17 rfl ?_
    refine j_iconst C dX4_isLeaning_17 (v := 1) c_iconst_1 18 rfl ?_
    refine j_iadd C dX4_isLeaning_18 19 rfl ?_
    obtain ⟨r2, hr2, hf⟩ := bnd hf
    refine j_callVi (As := [.int ((X4_cellOf a1 a2) + 1)]) (rest := []) C (c_X4_highOf l g sz x S  ((X4_cellOf a1 a2) + 1) _ hr2) (j_cwV C qc_X4_highOf qm_X4_85 qi_X4_highOf qs_X4_highOf qn_X4 hd_X4_highOf ⟨rfl, rfl⟩ ⟨by decide, by decide⟩) (rcv_mo.cell C.2) rfl (Nat.le_of_ble_eq_true rfl) dX4_isLeaning_19 22 rfl ?_
    refine j_sub [1, 0] rfl ?_
    exact hL22 (X4_cellOf a1 a2) r2 S hf
  · rw [if_pos c1] at hf
    refine j_iconst C dX4_isLeaning_11 (v := 0) c_iconst_0 12 rfl ?_
    refine j_goto C dX4_isLeaning_12 22 (by decide) ?_
    refine j_sub [1, 0] rfl ?_
    exact hL22 (X4_cellOf a1 a2) 0 S hf
set_option maxRecDepth 100000 in
set_option maxHeartbeats 4000000 in
theorem c_X4_beat (l : Launch) (g : GG) (sz : Nat) (x S : St) (S' : St) (hf : X4_beat S = some S') : Met l yX4_beat (.code yX4_beat cX4_beat 3 none :: ALLW) (rmJ 5 110) (PcJ g sz x S [.ref (ad g 56)]) (QvJ g sz x S') 0 0 (Ag sz) := by
  refine j_met (own := RX4) (by decide) rfl (Nat.le_of_ble_eq_true rfl) rfl ?_
  intro p e s m args below meth c C hr hlk
  have hL70 : ∀ (k64 : Int32 → St → Option St) (_ : ∀ (b1 : Int32) (S : St), k64 b1 S = some S' → Wj p l e (rmJ 5 110) s m args below meth c (MQ below (QvJ g sz x S') args s 0 0 (Ag sz)) 3 g sz x S 64 [(0, .ref (ad g 56)), (1, .int b1)] []), ∀ (n : Nat), ∀ (b1 : Int32) (b2 : Int32) (S : St), X4_beat_L70 k64 n b1 b2 S = some S' → Wj p l e (rmJ 5 110) s m args below meth c (MQ below (QvJ g sz x S') args s 0 0 (Ag sz)) 3 g sz x S 70 [(0, .ref (ad g 56)), (1, .int b1), (2, .int b2)] [] := by
    intro k64 hk64 n
    induction n with
    | zero =>
      intro b1 b2 S hf
      rw [X4_beat_L70] at hf
      cases hf
    | succ n ih =>
      intro b1 b2 S hf
      rw [X4_beat_L70] at hf
      refine j_iload_n C dX4_beat_70 rfl 2 rfl 71 rfl ?_
      refine j_bipush C dX4_beat_71 (v := 7) c_bipush_7 73 rfl ?_
      refine j_icmp_ge C dX4_beat_73 97 (by decide) 76 rfl (fun c5 => ?_) (fun c5 => ?_)
      · rw [if_pos c5] at hf
        refine j_iinc (lv2 := [(1, .int (b1 + (-1))), (0, .ref (ad g 56)), (2, .int b2)]) C dX4_beat_97 (k := 1) rfl (congrArg (HAdd.hAdd b1) c_oi_m1) (by decide) rfl 100 rfl ?_
        refine j_goto C dX4_beat_100 64 (by decide) ?_
        refine j_sub [1, 0] rfl ?_
        exact hk64 (b1 + (-1)) S hf
      · rw [if_neg c5] at hf
        refine j_aload_n C dX4_beat_76 rfl 0 rfl 77 rfl ?_
        refine j_iload_n C dX4_beat_77 rfl 2 rfl 78 rfl ?_
        refine j_iload_n C dX4_beat_78 rfl 1 rfl 79 rfl ?_
        obtain ⟨r6, hr6, hf⟩ := bnd hf
        refine j_callVi (As := [.int b2, .int b1]) (rest := []) C (c_X4_isLeaning l g sz x S  b2 b1 _ hr6) (j_cwV C qc_X4_isLeaning qm_X4_168 qi_X4_isLeaning qs_X4_isLeaning qn_X4 hd_X4_isLeaning ⟨rfl, rfl⟩ ⟨by decide, by decide⟩) (rcv_mo.cell C.2) rfl (Nat.le_of_ble_eq_true rfl) dX4_beat_79 82 rfl ?_
        refine j_if_eq C dX4_beat_82 91 (by decide) 85 rfl (fun c7 => ?_) (fun c7 => ?_)
        · rw [if_pos c7] at hf
          refine j_iinc (lv2 := [(2, .int (b2 + 1)), (0, .ref (ad g 56)), (1, .int b1)]) C dX4_beat_91 (k := 2) rfl (congrArg (HAdd.hAdd b2) c_oi_1) (by decide) rfl 94 rfl ?_
          refine j_goto C dX4_beat_94 70 (by decide) ?_
          refine j_sub [1, 2, 0] rfl ?_
          exact ih b1 (b2 + 1) S hf
        · rw [if_neg c7] at hf
          refine j_aload_n C dX4_beat_85 rfl 0 rfl 86 rfl ?_
          refine j_iload_n C dX4_beat_86 rfl 2 rfl 87 rfl ?_
          refine j_iload_n C dX4_beat_87 rfl 1 rfl 88 rfl ?_
          obtain ⟨S8, hS8, hf⟩ := bnd hf
          refine j_callVv (As := [.int b2, .int b1]) (rest := []) C (c_X4_slidesOff l g sz x S  b2 b1 _ hS8) (j_cwV C qc_X4_slidesOff qm_X4_171 qi_X4_slidesOff qs_X4_slidesOff qn_X4 hd_X4_slidesOff ⟨rfl, rfl⟩ ⟨by decide, by decide⟩) (rcv_mo.cell C.2) rfl (Nat.le_of_ble_eq_true rfl) dX4_beat_88 91 rfl ?_
          refine j_iinc (lv2 := [(2, .int (b2 + 1)), (0, .ref (ad g 56)), (1, .int b1)]) C dX4_beat_91 (k := 2) rfl (congrArg (HAdd.hAdd b2) c_oi_1) (by decide) rfl 94 rfl ?_
          refine j_goto C dX4_beat_94 70 (by decide) ?_
          refine j_sub [1, 2, 0] rfl ?_
          exact ih b1 (b2 + 1) S8 hf
  have hL64 : ∀ (n : Nat), ∀ (b1 : Int32) (S : St), X4_beat_L64 n b1 S = some S' → Wj p l e (rmJ 5 110) s m args below meth c (MQ below (QvJ g sz x S') args s 0 0 (Ag sz)) 3 g sz x S 64 [(0, .ref (ad g 56)), (1, .int b1)] [] := by
    intro  n
    induction n with
    | zero =>
      intro b1 S hf
      rw [X4_beat_L64] at hf
      cases hf
    | succ n ih =>
      intro b1 S hf
      rw [X4_beat_L64] at hf
      refine j_iload_n C dX4_beat_64 rfl 1 rfl 65 rfl ?_
      refine j_if_lt C dX4_beat_65 103 (by decide) 68 rfl (fun c2 => ?_) (fun c2 => ?_)
      · rw [if_pos c2] at hf
        refine j_aload_n C dX4_beat_103 rfl 0 rfl 104 rfl ?_
        refine j4_get C 0 (by decide) qf_X4_9 (v := .ref (ad g 57)) rfl dX4_beat_104 107 rfl ?_
        refine j_iconst C dX4_beat_107 (v := 0) c_iconst_0 108 rfl ?_
        refine j_dup2 C dX4_beat_108 rfl rfl 109 rfl ?_
        obtain ⟨v3, hv3, hf⟩ := bnd hf
        refine j4_ald 1 rfl C hv3 dX4_beat_109 110 rfl ?_
        refine j_iconst C dX4_beat_110 (v := 1) c_iconst_1 111 rfl ?_
        refine j_iadd C dX4_beat_111 112 rfl ?_
        obtain ⟨S4, hS4, hf⟩ := bnd hf
        refine j4_ast 1 rfl C hS4 dX4_beat_112 113 rfl ?_
        obtain rfl := Option.some.inj hf
        exact j_vret C hr hlk dX4_beat_113
      · rw [if_neg c2] at hf
        refine j_iconst C dX4_beat_68 (v := 0) c_iconst_0 69 rfl ?_
        refine j_istore_n (lv2 := [(2, .int 0), (0, .ref (ad g 56)), (1, .int b1)]) C dX4_beat_69 rfl (by decide) rfl 70 rfl ?_
        refine j_sub [1, 2, 0] rfl ?_
        exact hL70 _ ih FU b1 0 S hf
  have hL40 : ∀ (k2 : Int32 → St → Option St) (_ : ∀ (b1 : Int32) (S : St), k2 b1 S = some S' → Wj p l e (rmJ 5 110) s m args below meth c (MQ below (QvJ g sz x S') args s 0 0 (Ag sz)) 3 g sz x S 2 [(0, .ref (ad g 56)), (1, .int b1)] []), ∀ (n : Nat), ∀ (b1 : Int32) (b2 : Int32) (S : St), X4_beat_L40 k2 n b1 b2 S = some S' → Wj p l e (rmJ 5 110) s m args below meth c (MQ below (QvJ g sz x S') args s 0 0 (Ag sz)) 3 g sz x S 40 [(0, .ref (ad g 56)), (1, .int b1), (2, .int b2)] [] := by
    intro k2 hk2 n
    induction n with
    | zero =>
      intro b1 b2 S hf
      rw [X4_beat_L40] at hf
      cases hf
    | succ n ih =>
      intro b1 b2 S hf
      rw [X4_beat_L40] at hf
      refine j_iload_n C dX4_beat_40 rfl 2 rfl 41 rfl ?_
      refine j_if_lt C dX4_beat_41 56 (by decide) 44 rfl (fun c16 => ?_) (fun c16 => ?_)
      · rw [if_pos c16] at hf
        refine j_iinc (lv2 := [(1, .int (b1 + 1)), (0, .ref (ad g 56)), (2, .int b2)]) C dX4_beat_56 (k := 1) rfl (congrArg (HAdd.hAdd b1) c_oi_1) (by decide) rfl 59 rfl ?_
        refine j_goto C dX4_beat_59 2 (by decide) ?_
        refine j_sub [1, 0] rfl ?_
        exact hk2 (b1 + 1) S hf
      · rw [if_neg c16] at hf
        refine j_aload_n C dX4_beat_44 rfl 0 rfl 45 rfl ?_
        refine j_iload_n C dX4_beat_45 rfl 1 rfl 46 rfl ?_
        refine j_iload_n C dX4_beat_46 rfl 2 rfl 47 rfl ?_
        obtain ⟨S17, hS17, hf⟩ := bnd hf
        refine j_callVv (As := [.int b1, .int b2]) (rest := []) C (c_X4_goesOn l g sz x S  b1 b2 _ hS17) (j_cwV C qc_X4_goesOn qm_X4_165 qi_X4_goesOn qs_X4_goesOn qn_X4 hd_X4_goesOn ⟨rfl, rfl⟩ ⟨by decide, by decide⟩) (rcv_mo.cell C.2) rfl (Nat.le_of_ble_eq_true rfl) dX4_beat_47 50 rfl ?_
        refine j_iinc (lv2 := [(2, .int (b2 + (-1))), (0, .ref (ad g 56)), (1, .int b1)]) C dX4_beat_50 (k := 2) rfl (congrArg (HAdd.hAdd b2) c_oi_m1) (by decide) rfl 53 rfl ?_
        refine j_goto C dX4_beat_53 40 (by decide) ?_
        refine j_sub [1, 2, 0] rfl ?_
        exact ih b1 (b2 + (-1)) S17 hf
  have hL2 : ∀ (n : Nat), ∀ (b1 : Int32) (S : St), X4_beat_L2 n b1 S = some S' → Wj p l e (rmJ 5 110) s m args below meth c (MQ below (QvJ g sz x S') args s 0 0 (Ag sz)) 3 g sz x S 2 [(0, .ref (ad g 56)), (1, .int b1)] [] := by
    intro  n
    induction n with
    | zero =>
      intro b1 S hf
      rw [X4_beat_L2] at hf
      cases hf
    | succ n ih =>
      intro b1 S hf
      rw [X4_beat_L2] at hf
      refine j_iload_n C dX4_beat_2 rfl 1 rfl 3 rfl ?_
      refine j_bipush C dX4_beat_3 (v := 7) c_bipush_7 5 rfl ?_
      refine j_icmp_ge C dX4_beat_5 62 (by decide) 8 rfl (fun c1 => ?_) (fun c1 => ?_)
      · rw [if_pos c1] at hf
        refine j_iconst C dX4_beat_62 (v := 5) c_iconst_5 63 rfl ?_
        refine j_istore_n (lv2 := [(1, .int 5), (0, .ref (ad g 56))]) C dX4_beat_63 rfl (by decide) rfl 64 rfl ?_
        refine j_sub [1, 0] rfl ?_
        exact hL64 FU 5 S hf
      · rw [if_neg c1] at hf
        refine j_aload_n C dX4_beat_8 rfl 0 rfl 9 rfl ?_
        refine j4_get C 0 (by decide) qf_X4_9 (v := .ref (ad g 57)) rfl dX4_beat_9 12 rfl ?_
        refine j_iconst C dX4_beat_12 (v := 0) c_iconst_0 13 rfl ?_
        obtain ⟨v9, hv9, hf⟩ := bnd hf
        refine j4_ald 1 rfl C hv9 dX4_beat_13 14 rfl ?_
        refine j_aload_n C dX4_beat_14 rfl 0 rfl 15 rfl ?_
        refine j4_get C 0 (by decide) qf_X4_9 (v := .ref (ad g 57)) rfl dX4_beat_15 18 rfl ?_
        refine j_iconst C dX4_beat_18 (v := 2) c_iconst_2 19 rfl ?_
        obtain ⟨v10, hv10, hf⟩ := bnd hf
        refine j4_ald 1 rfl C hv10 dX4_beat_19 20 rfl ?_
        obtain ⟨v11, hv11, hf⟩ := bnd hf
        refine j_irem C dX4_beat_20 hv11 21 rfl ?_
        refine j_if_ne C dX4_beat_21 62 (by decide) 24 rfl (fun c12 => ?_) (fun c12 => ?_)
        · rw [if_neg c12] at hf
          refine j_iconst C dX4_beat_62 (v := 5) c_iconst_5 63 rfl ?_
          refine j_istore_n (lv2 := [(1, .int 5), (0, .ref (ad g 56))]) C dX4_beat_63 rfl (by decide) rfl 64 rfl ?_
          refine j_sub [1, 0] rfl ?_
          exact hL64 FU 5 S hf
        · rw [if_pos c12] at hf
          refine j_aload_n C dX4_beat_24 rfl 0 rfl 25 rfl ?_
          refine j_iload_n C dX4_beat_25 rfl 1 rfl 26 rfl ?_
          obtain ⟨r13, hr13, hf⟩ := bnd hf
          refine j_callVi (As := [.int b1]) (rest := []) C (c_X4_isMoved l g sz x S  b1 _ hr13) (j_cwV C qc_X4_isMoved qm_X4_162 qi_X4_isMoved qs_X4_isMoved qn_X4 hd_X4_isMoved ⟨rfl, rfl⟩ ⟨by decide, by decide⟩) (rcv_mo.cell C.2) rfl (Nat.le_of_ble_eq_true rfl) dX4_beat_26 29 rfl ?_
          refine j_if_eq C dX4_beat_29 56 (by decide) 32 rfl (fun c14 => ?_) (fun c14 => ?_)
          · rw [if_pos c14] at hf
            refine j_iinc (lv2 := [(1, .int (b1 + 1)), (0, .ref (ad g 56))]) C dX4_beat_56 (k := 1) rfl (congrArg (HAdd.hAdd b1) c_oi_1) (by decide) rfl 59 rfl ?_
            refine j_goto C dX4_beat_59 2 (by decide) ?_
            refine j_sub [1, 0] rfl ?_
            exact ih (b1 + 1) S hf
          · rw [if_neg c14] at hf
            refine j_aload_n C dX4_beat_32 rfl 0 rfl 33 rfl ?_
            refine j_iload_n C dX4_beat_33 rfl 1 rfl 34 rfl ?_
            obtain ⟨r15, hr15, hf⟩ := bnd hf
            refine j_callVi (As := [.int b1]) (rest := []) C (c_X4_runOf l g sz x S  b1 _ hr15) (j_cwV C qc_X4_runOf qm_X4_150 qi_X4_runOf qs_X4_runOf qn_X4 hd_X4_runOf ⟨rfl, rfl⟩ ⟨by decide, by decide⟩) (rcv_mo.cell C.2) rfl (Nat.le_of_ble_eq_true rfl) dX4_beat_34 37 rfl ?_
            refine j_iconst C dX4_beat_37 (v := 1) c_iconst_1 38 rfl ?_
            refine j_isub C dX4_beat_38 39 rfl ?_
            refine j_istore_n (lv2 := [(2, .int (r15 - 1)), (0, .ref (ad g 56)), (1, .int b1)]) C dX4_beat_39 rfl (by decide) rfl 40 rfl ?_
            refine j_sub [1, 2, 0] rfl ?_
            exact hL40 _ ih FU b1 (r15 - 1) S hf
  unfold X4_beat at hf
  refine j_iconst C dX4_beat_0 (v := 0) c_iconst_0 1 rfl ?_
  refine j_istore_n (lv2 := [(1, .int 0), (0, .ref (ad g 56))]) C dX4_beat_1 rfl (by decide) rfl 2 rfl ?_
  refine j_sub [1, 0] rfl ?_
  exact hL2 FU 0 S hf
set_option maxRecDepth 100000 in
set_option maxHeartbeats 4000000 in
theorem c_X4_beatsGo (l : Launch) (g : GG) (sz : Nat) (x S : St) (a1 : Int32) (r : Int32) (S' : St) (hf : X4_beatsGo a1 S = some (r, S')) : Met l yX4_beatsGo (.code yX4_beatsGo cX4_beatsGo 4 (some .int) :: ALLW) (rmJ 6 132) (PcJ g sz x S [.ref (ad g 56), .int a1]) (QiJ g sz r x S') 0 0 (Ag sz) := by
  refine j_met (own := RX4) (by decide) rfl (Nat.le_of_ble_eq_true rfl) rfl ?_
  intro p e s m args below meth c C hr hlk
  have hL7 : ∀ (n : Nat), ∀ (b1 : Int32) (b2 : Int32) (b3 : Int32) (S : St), X4_beatsGo_L7 n b1 b2 b3 S = some (r, S') → Wj p l e (rmJ 6 132) s m args below meth c (MQ below (QiJ g sz r x S') args s 0 0 (Ag sz)) 4 g sz x S 7 [(0, .ref (ad g 56)), (1, .int b1), (2, .int b2), (3, .int b3)] [] := by
    intro  n
    induction n with
    | zero =>
      intro b1 b2 b3 S hf
      rw [X4_beatsGo_L7] at hf
      cases hf
    | succ n ih =>
      intro b1 b2 b3 S hf
      rw [X4_beatsGo_L7] at hf
      refine j_iload_n C dX4_beatsGo_7 rfl 3 rfl 8 rfl ?_
      refine j_iload_n C dX4_beatsGo_8 rfl 1 rfl 9 rfl ?_
      refine j_icmp_ge C dX4_beatsGo_9 22 (by decide) 12 rfl (fun c1 => ?_) (fun c1 => ?_)
      · rw [if_pos c1] at hf
        refine j_aload_n C dX4_beatsGo_22 rfl 0 rfl 23 rfl ?_
        refine j4_get C 5 (by decide) qf_X4_146 (v := .int (S 0 5)) rfl dX4_beatsGo_23 26 rfl ?_
        refine j_iload_n C dX4_beatsGo_26 rfl 2 rfl 27 rfl ?_
        refine j_isub C dX4_beatsGo_27 28 rfl ?_
        obtain ⟨rfl, rfl⟩ := Prod.mk.inj (Option.some.inj hf)
        exact j_iret C hr hlk dX4_beatsGo_28
      · rw [if_neg c1] at hf
        refine j_aload_n C dX4_beatsGo_12 rfl 0 rfl 13 rfl ?_
        obtain ⟨S2, hS2, hf⟩ := bnd hf
        refine j_callVv (As := []) (rest := []) C (c_X4_beat l g sz x S   _ hS2) (j_cwV C qc_X4_beat qm_X4_174 qi_X4_beat qs_X4_beat qn_X4 hd_X4_beat ⟨rfl, rfl⟩ ⟨by decide, by decide⟩) (rcv_mo.cell C.2) rfl (Nat.le_of_ble_eq_true rfl) dX4_beatsGo_13 16 rfl ?_
        refine j_iinc (lv2 := [(3, .int (b3 + 1)), (0, .ref (ad g 56)), (1, .int b1), (2, .int b2)]) C dX4_beatsGo_16 (k := 3) rfl (congrArg (HAdd.hAdd b3) c_oi_1) (by decide) rfl 19 rfl ?_
        refine j_goto C dX4_beatsGo_19 7 (by decide) ?_
        refine j_sub [1, 2, 3, 0] rfl ?_
        exact ih b1 b2 (b3 + 1) S2 hf
  unfold X4_beatsGo at hf
  refine j_aload_n C dX4_beatsGo_0 rfl 0 rfl 1 rfl ?_
  refine j4_get C 5 (by decide) qf_X4_146 (v := .int (S 0 5)) rfl dX4_beatsGo_1 4 rfl ?_
  refine j_istore_n (lv2 := [(2, .int (S 0 5)), (0, .ref (ad g 56)), (1, .int a1)]) C dX4_beatsGo_4 rfl (by decide) rfl 5 rfl ?_
  refine j_iconst C dX4_beatsGo_5 (v := 0) c_iconst_0 6 rfl ?_
  refine j_istore_n (lv2 := [(3, .int 0), (2, .int (S 0 5)), (0, .ref (ad g 56)), (1, .int a1)]) C dX4_beatsGo_6 rfl (by decide) rfl 7 rfl ?_
  refine j_sub [2, 3, 1, 0] rfl ?_
  exact hL7 FU a1 (S 0 5) 0 S hf
set_option maxRecDepth 100000 in
set_option maxHeartbeats 4000000 in
theorem c_X4_dropped (l : Launch) (g : GG) (sz : Nat) (x S : St) (a1 : Int32) (a2 : Int32) (S' : St) (hf : X4_dropped a1 a2 S = some S') : Met l yX4_dropped (.code yX4_dropped cX4_dropped 5 none :: ALLW) (rmJ 6 132) (PcJ g sz x S [.ref (ad g 56), .int a1, .int a2]) (QvJ g sz x S') 0 0 (Ag sz) := by
  refine j_met (own := RX4) (by decide) rfl (Nat.le_of_ble_eq_true rfl) rfl ?_
  intro p e s m args below meth c C hr hlk
  have hL39 : ∀ (b1 : Int32) (b3 : Int32) (b4 : Int32) (S : St), X4_dropped_L39 b1 b3 b4 S = some S' → Wj p l e (rmJ 6 132) s m args below meth c (MQ below (QvJ g sz x S') args s 0 0 (Ag sz)) 5 g sz x S 39 [(0, .ref (ad g 56)), (1, .int b1), (3, .int b3), (4, .int b4)] [] := by
    intro  b1 b3 b4 S hf
    unfold X4_dropped_L39 at hf
    refine j_aload_n C dX4_dropped_39 rfl 0 rfl 40 rfl ?_
    refine j4_get C 0 (by decide) qf_X4_9 (v := .ref (ad g 57)) rfl dX4_dropped_40 43 rfl ?_
    refine j_iconst C dX4_dropped_43 (v := 5) c_iconst_5 44 rfl ?_
    refine j_dup2 C dX4_dropped_44 rfl rfl 45 rfl ?_
    obtain ⟨v3, hv3, hf⟩ := bnd hf
    refine j4_ald 1 rfl C hv3 dX4_dropped_45 46 rfl ?_
    refine j_iconst C dX4_dropped_46 (v := 1) c_iconst_1 47 rfl ?_
    refine j_iadd C dX4_dropped_47 48 rfl ?_
    obtain ⟨S4, hS4, hf⟩ := bnd hf
    refine j4_ast 1 rfl C hS4 dX4_dropped_48 49 rfl ?_
    refine j_iload C dX4_dropped_49 3 rfl 51 rfl ?_
    refine j_bipush C dX4_dropped_51 (v := 7) c_bipush_7 53 rfl ?_
    refine j_icmp_ne C dX4_dropped_53 70 (by decide) 56 rfl (fun c5 => ?_) (fun c5 => ?_)
    · rw [if_neg c5] at hf
      refine j_aload_n C dX4_dropped_70 rfl 0 rfl 71 rfl ?_
      refine j_iload_n C dX4_dropped_71 rfl 1 rfl 72 rfl ?_
      refine j_iload C dX4_dropped_72 3 rfl 74 rfl ?_
      refine j_iload_n C dX4_dropped_74 rfl 2 rfl 75 rfl ?_
      refine j_callSi (As := [.int b4, .int b3]) (rest := [.int b1, .ref (ad g 56)]) C (c_X4_cellOf l g sz x S4 b4 b3 _ rfl) (j_cwS C qc_X4_cellOf qm_X4_119 qs_X4_cellOf qn_X4 hd_X4_cellOf ⟨rfl, rfl⟩ ⟨by decide, by decide⟩)  rfl (Nat.le_of_ble_eq_true rfl) dX4_dropped_75 78 rfl ?_
      obtain ⟨S6, hS6, hf⟩ := bnd hf
      refine j_callVv (As := [.int b1, .int (X4_cellOf b4 b3)]) (rest := []) C (c_X4_comesOn l g sz x S4  b1 (X4_cellOf b4 b3) _ hS6) (j_cwV C qc_X4_comesOn qm_X4_138 qi_X4_comesOn qs_X4_comesOn qn_X4 hd_X4_comesOn ⟨rfl, rfl⟩ ⟨by decide, by decide⟩) (rcv_mo.cell C.2) rfl (Nat.le_of_ble_eq_true rfl) dX4_dropped_78 81 rfl ?_
      refine j_aload_n C dX4_dropped_81 rfl 0 rfl 82 rfl ?_
      obtain ⟨S7, hS7, hf⟩ := bnd hf
      refine j_callVv (As := []) (rest := []) C (c_X4_beat l g sz x S6   _ hS7) (j_cwV C qc_X4_beat qm_X4_174 qi_X4_beat qs_X4_beat qn_X4 hd_X4_beat ⟨rfl, rfl⟩ ⟨by decide, by decide⟩) (rcv_mo.cell C.2) rfl (Nat.le_of_ble_eq_true rfl) dX4_dropped_82 85 rfl ?_
      obtain rfl := Option.some.inj hf
      exact j_vret C hr hlk dX4_dropped_85
    · rw [if_pos c5] at hf
      refine j_aload_n C dX4_dropped_56 rfl 0 rfl 57 rfl ?_
      refine j4_get C 0 (by decide) qf_X4_9 (v := .ref (ad g 57)) rfl dX4_dropped_57 60 rfl ?_
      refine j_bipush C dX4_dropped_60 (v := 41) c_bipush_41 62 rfl ?_
      refine j_iload_n C dX4_dropped_62 rfl 1 rfl 63 rfl ?_
      refine j_iadd C dX4_dropped_63 64 rfl ?_
      refine j_bipush C dX4_dropped_64 (v := 102) c_bipush_102 66 rfl ?_
      obtain ⟨S8, hS8, hf⟩ := bnd hf
      refine j4_ast 1 rfl C hS8 dX4_dropped_66 67 rfl ?_
      refine j_goto C dX4_dropped_67 81 (by decide) ?_
      refine j_aload_n C dX4_dropped_81 rfl 0 rfl 82 rfl ?_
      obtain ⟨S9, hS9, hf⟩ := bnd hf
      refine j_callVv (As := []) (rest := []) C (c_X4_beat l g sz x S8   _ hS9) (j_cwV C qc_X4_beat qm_X4_174 qi_X4_beat qs_X4_beat qn_X4 hd_X4_beat ⟨rfl, rfl⟩ ⟨by decide, by decide⟩) (rcv_mo.cell C.2) rfl (Nat.le_of_ble_eq_true rfl) dX4_dropped_82 85 rfl ?_
      obtain rfl := Option.some.inj hf
      exact j_vret C hr hlk dX4_dropped_85
  have hL12 : ∀ (n : Nat), ∀ (b1 : Int32) (b3 : Int32) (b4 : Int32) (S : St), X4_dropped_L12 n b1 b3 b4 S = some S' → Wj p l e (rmJ 6 132) s m args below meth c (MQ below (QvJ g sz x S') args s 0 0 (Ag sz)) 5 g sz x S 12 [(0, .ref (ad g 56)), (1, .int b1), (3, .int b3), (4, .int b4)] [] := by
    intro  n
    induction n with
    | zero =>
      intro b1 b3 b4 S hf
      rw [X4_dropped_L12] at hf
      cases hf
    | succ n ih =>
      intro b1 b3 b4 S hf
      rw [X4_dropped_L12] at hf
      refine j_iload C dX4_dropped_12 3 rfl 14 rfl ?_
      refine j_bipush C dX4_dropped_14 (v := 7) c_bipush_7 16 rfl ?_
      refine j_icmp_ge C dX4_dropped_16 39 (by decide) 19 rfl (fun c2 => ?_) (fun c2 => ?_)
      · rw [if_pos c2] at hf
        exact hL39 b1 b3 b4 S hf
      · rw [if_neg c2] at hf
        refine j_aload_n C dX4_dropped_19 rfl 0 rfl 20 rfl ?_
        refine j_iload C dX4_dropped_20 3 rfl 22 rfl ?_
        refine j_iload_n C dX4_dropped_22 rfl 2 rfl 23 rfl ?_
        refine j_callSi (As := [.int b4, .int b3]) (rest := [.ref (ad g 56)]) C (c_X4_cellOf l g sz x S b4 b3 _ rfl) (j_cwS C qc_X4_cellOf qm_X4_119 qs_X4_cellOf qn_X4 hd_X4_cellOf ⟨rfl, rfl⟩ ⟨by decide, by decide⟩)  rfl (Nat.le_of_ble_eq_true rfl) dX4_dropped_23 26 rfl ?_
        obtain ⟨r10, hr10, hf⟩ := bnd hf
        refine j_callVi (As := [.int (X4_cellOf b4 b3)]) (rest := []) C (c_X4_highOf l g sz x S  (X4_cellOf b4 b3) _ hr10) (j_cwV C qc_X4_highOf qm_X4_85 qi_X4_highOf qs_X4_highOf qn_X4 hd_X4_highOf ⟨rfl, rfl⟩ ⟨by decide, by decide⟩) (rcv_mo.cell C.2) rfl (Nat.le_of_ble_eq_true rfl) dX4_dropped_26 29 rfl ?_
        refine j_iconst C dX4_dropped_29 (v := 4) c_iconst_4 30 rfl ?_
        refine j_icmp_ne C dX4_dropped_30 39 (by decide) 33 rfl (fun c11 => ?_) (fun c11 => ?_)
        · rw [if_neg c11] at hf
          exact hL39 b1 b3 b4 S hf
        · rw [if_pos c11] at hf
          refine j_iinc (lv2 := [(4, .int (b4 + 1)), (0, .ref (ad g 56)), (1, .int b1), (3, .int b3)]) C dX4_dropped_33 (k := 3) rfl (congrArg (HAdd.hAdd b4) c_oi_1) (by decide) rfl 36 rfl ?_
          refine j_goto C dX4_dropped_36 12 (by decide) ?_
          refine j_sub [1, 2, 3, 0] rfl ?_
          exact ih b1 b3 (b4 + 1) S hf
  unfold X4_dropped at hf
  refine j_aload_n C dX4_dropped_0 rfl 0 rfl 1 rfl ?_
  refine j4_get C 0 (by decide) qf_X4_9 (v := .ref (ad g 57)) rfl dX4_dropped_1 4 rfl ?_
  refine j_iconst C dX4_dropped_4 (v := 0) c_iconst_0 5 rfl ?_
  obtain ⟨v1, hv1, hf⟩ := bnd hf
  refine j4_ald 1 rfl C hv1 dX4_dropped_5 6 rfl ?_
  refine j_iconst C dX4_dropped_6 (v := 2) c_iconst_2 7 rfl ?_
  refine j_iremc C dX4_dropped_7 (by decide) 8 rfl ?_
  refine j_istore_n (lv2 := [(3, .int (irm v1 2)), (0, .ref (ad g 56)), (1, .int a1), (2, .int a2)]) C dX4_dropped_8 rfl (by decide) rfl 9 rfl ?_
  refine j_iload_n C dX4_dropped_9 rfl 3 rfl 10 rfl ?_
  refine j_istore (lv2 := [(4, .int a2), (3, .int (irm v1 2)), (0, .ref (ad g 56)), (1, .int a1), (2, .int a2)]) C dX4_dropped_10 (by decide) rfl 12 rfl ?_
  refine j_sub [2, 3, 1, 0] rfl ?_
  exact hL12 FU a1 (irm v1 2) a2 S hf
set_option maxRecDepth 100000 in
set_option maxHeartbeats 4000000 in
theorem c_X4_setOf (l : Launch) (g : GG) (sz : Nat) (x S : St) (a1 : Int32) (r : Int32) (hf : X4_setOf a1 S = some r) : Met l yX4_setOf (.code yX4_setOf cX4_setOf 4 (some .int) :: ALLW) (rmJ 0 0) (PcJ g sz x S [.ref (ad g 56), .int a1]) (QiJ g sz r x S) 0 0 (Ag sz) := by
  refine j_met (own := RX4) (by decide) rfl (Nat.le_of_ble_eq_true rfl) rfl ?_
  intro p e s m args below meth c C hr hlk
  have hL4 : ∀ (n : Nat), ∀ (b1 : Int32) (b2 : Int32) (b3 : Int32) (S : St), X4_setOf_L4 n b1 b2 b3 S = some r → Wj p l e (rmJ 0 0) s m args below meth c (MQ below (QiJ g sz r x S) args s 0 0 (Ag sz)) 4 g sz x S 4 [(0, .ref (ad g 56)), (1, .int b1), (2, .int b2), (3, .int b3)] [] := by
    intro  n
    induction n with
    | zero =>
      intro b1 b2 b3 S hf
      rw [X4_setOf_L4] at hf
      cases hf
    | succ n ih =>
      intro b1 b2 b3 S hf
      rw [X4_setOf_L4] at hf
      refine j_iload_n C dX4_setOf_4 rfl 3 rfl 5 rfl ?_
      refine j_aload_n C dX4_setOf_5 rfl 0 rfl 6 rfl ?_
      refine j4_get C 0 (by decide) qf_X4_9 (v := .ref (ad g 57)) rfl dX4_setOf_6 9 rfl ?_
      refine j_iconst C dX4_setOf_9 (v := 4) c_iconst_4 10 rfl ?_
      obtain ⟨v1, hv1, hf⟩ := bnd hf
      refine j4_ald 1 rfl C hv1 dX4_setOf_10 11 rfl ?_
      refine j_icmp_ge C dX4_setOf_11 43 (by decide) 14 rfl (fun c2 => ?_) (fun c2 => ?_)
      · rw [if_pos c2] at hf
        refine j_iload_n C dX4_setOf_43 rfl 2 rfl 44 rfl ?_
        obtain rfl := Option.some.inj hf
        exact j_iret C hr hlk dX4_setOf_44
      · rw [if_neg c2] at hf
        refine j_iload_n C dX4_setOf_14 rfl 2 rfl 15 rfl ?_
        refine j_aload_n C dX4_setOf_15 rfl 0 rfl 16 rfl ?_
        refine j4_get C 0 (by decide) qf_X4_9 (v := .ref (ad g 57)) rfl dX4_setOf_16 19 rfl ?_
        refine j_bipush C dX4_setOf_19 (v := 41) c_bipush_41 21 rfl ?_
        refine j_iload_n C dX4_setOf_21 rfl 3 rfl 22 rfl ?_
        refine j_iadd C dX4_setOf_22 23 rfl ?_
        obtain ⟨v3, hv3, hf⟩ := bnd hf
        refine j4_ald 1 rfl C hv3 dX4_setOf_23 24 rfl ?_
        refine j_iload_n C dX4_setOf_24 rfl 1 rfl 25 rfl ?_
        refine j_icmp_ne C dX4_setOf_25 34 (by decide) 28 rfl (fun c4 => ?_) (fun c4 => ?_)
        · rw [if_neg c4] at hf
          refine j_iconst C dX4_setOf_34 (v := 0) c_iconst_0 35 rfl ?_
          refine j_ior C dX4_setOf_35 36 rfl ?_
          refine j_istore_n (lv2 := [(2, .int (b2 ||| 0)), (0, .ref (ad g 56)), (1, .int b1), (3, .int b3)]) C dX4_setOf_36 rfl (by decide) rfl 37 rfl ?_
          refine j_iinc (lv2 := [(3, .int (b3 + 1)), (2, .int (b2 ||| 0)), (0, .ref (ad g 56)), (1, .int b1)]) C dX4_setOf_37 (k := 3) rfl (congrArg (HAdd.hAdd b3) c_oi_1) (by decide) rfl 40 rfl ?_
          refine j_goto C dX4_setOf_40 4 (by decide) ?_
          refine j_sub [2, 3, 1, 0] rfl ?_
          exact ih b1 (b2 ||| 0) (b3 + 1) S hf
        · rw [if_pos c4] at hf
          refine j_iconst C dX4_setOf_28 (v := 1) c_iconst_1 29 rfl ?_
          refine j_iload_n C dX4_setOf_29 rfl 3 rfl 30 rfl ?_
          refine j_ishl C dX4_setOf_30 31 rfl ?_
          refine j_goto C dX4_setOf_31 35 (by decide) ?_
          refine j_ior C dX4_setOf_35 36 rfl ?_
          refine j_istore_n (lv2 := [(2, .int (b2 ||| (shl32 1 b3))), (0, .ref (ad g 56)), (1, .int b1), (3, .int b3)]) C dX4_setOf_36 rfl (by decide) rfl 37 rfl ?_
          refine j_iinc (lv2 := [(3, .int (b3 + 1)), (2, .int (b2 ||| (shl32 1 b3))), (0, .ref (ad g 56)), (1, .int b1)]) C dX4_setOf_37 (k := 3) rfl (congrArg (HAdd.hAdd b3) c_oi_1) (by decide) rfl 40 rfl ?_
          refine j_goto C dX4_setOf_40 4 (by decide) ?_
          refine j_sub [2, 3, 1, 0] rfl ?_
          exact ih b1 (b2 ||| (shl32 1 b3)) (b3 + 1) S hf
  unfold X4_setOf at hf
  refine j_iconst C dX4_setOf_0 (v := 0) c_iconst_0 1 rfl ?_
  refine j_istore_n (lv2 := [(2, .int 0), (0, .ref (ad g 56)), (1, .int a1)]) C dX4_setOf_1 rfl (by decide) rfl 2 rfl ?_
  refine j_iconst C dX4_setOf_2 (v := 0) c_iconst_0 3 rfl ?_
  refine j_istore_n (lv2 := [(3, .int 0), (2, .int 0), (0, .ref (ad g 56)), (1, .int a1)]) C dX4_setOf_3 rfl (by decide) rfl 4 rfl ?_
  refine j_sub [2, 3, 1, 0] rfl ?_
  exact hL4 FU a1 0 0 S hf
set_option maxRecDepth 100000 in
set_option maxHeartbeats 4000000 in
theorem c_X4_shelf (l : Launch) (g : GG) (sz : Nat) (x S : St) (r : Int32) (hf : X4_shelf S = some r) : Met l yX4_shelf (.code yX4_shelf cX4_shelf 1 (some .int) :: ALLW) (rmJ 1 23) (PcJ g sz x S [.ref (ad g 56)]) (QiJ g sz r x S) 0 0 (Ag sz) := by
  refine j_met (own := RX4) (by decide) rfl (Nat.le_of_ble_eq_true rfl) rfl ?_
  intro p e s m args below meth c C hr hlk
  unfold X4_shelf at hf
  refine j_iconst C dX4_shelf_0 (v := 1) c_iconst_1 1 rfl ?_
  refine j_aload_n C dX4_shelf_1 rfl 0 rfl 2 rfl ?_
  refine j4_get C 0 (by decide) qf_X4_9 (v := .ref (ad g 57)) rfl dX4_shelf_2 5 rfl ?_
  refine j_iconst C dX4_shelf_5 (v := 4) c_iconst_4 6 rfl ?_
  obtain ⟨v1, hv1, hf⟩ := bnd hf
  refine j4_ald 1 rfl C hv1 dX4_shelf_6 7 rfl ?_
  refine j_ishl C dX4_shelf_7 8 rfl ?_
  refine j_iconst C dX4_shelf_8 (v := 1) c_iconst_1 9 rfl ?_
  refine j_isub C dX4_shelf_9 10 rfl ?_
  refine j_aload_n C dX4_shelf_10 rfl 0 rfl 11 rfl ?_
  refine j_bipush C dX4_shelf_11 (v := 100) c_bipush_100 13 rfl ?_
  obtain ⟨r2, hr2, hf⟩ := bnd hf
  refine j_callVi (As := [.int 100]) (rest := [.int ((shl32 1 v1) - 1)]) C (c_X4_setOf l g sz x S  100 _ hr2) (j_cwV C qc_X4_setOf qm_X4_177 qi_X4_setOf qs_X4_setOf qn_X4 hd_X4_setOf ⟨rfl, rfl⟩ ⟨by decide, by decide⟩) (rcv_mo.cell C.2) rfl (Nat.le_of_ble_eq_true rfl) dX4_shelf_13 16 rfl ?_
  refine j_iconst C dX4_shelf_16 (v := (-1)) c_iconst_m1 17 rfl ?_
  refine j_ixor C dX4_shelf_17 18 rfl ?_
  refine j_iand C dX4_shelf_18 19 rfl ?_
  refine j_aload_n C dX4_shelf_19 rfl 0 rfl 20 rfl ?_
  refine j_bipush C dX4_shelf_20 (v := 101) c_bipush_101 22 rfl ?_
  obtain ⟨r3, hr3, hf⟩ := bnd hf
  refine j_callVi (As := [.int 101]) (rest := [.int (((shl32 1 v1) - 1) &&& (r2 ^^^ (-1)))]) C (c_X4_setOf l g sz x S  101 _ hr3) (j_cwV C qc_X4_setOf qm_X4_177 qi_X4_setOf qs_X4_setOf qn_X4 hd_X4_setOf ⟨rfl, rfl⟩ ⟨by decide, by decide⟩) (rcv_mo.cell C.2) rfl (Nat.le_of_ble_eq_true rfl) dX4_shelf_22 25 rfl ?_
  refine j_iconst C dX4_shelf_25 (v := (-1)) c_iconst_m1 26 rfl ?_
  refine j_ixor C dX4_shelf_26 27 rfl ?_
  refine j_iand C dX4_shelf_27 28 rfl ?_
  refine j_aload_n C dX4_shelf_28 rfl 0 rfl 29 rfl ?_
  refine j_bipush C dX4_shelf_29 (v := 102) c_bipush_102 31 rfl ?_
  obtain ⟨r4, hr4, hf⟩ := bnd hf
  refine j_callVi (As := [.int 102]) (rest := [.int ((((shl32 1 v1) - 1) &&& (r2 ^^^ (-1))) &&& (r3 ^^^ (-1)))]) C (c_X4_setOf l g sz x S  102 _ hr4) (j_cwV C qc_X4_setOf qm_X4_177 qi_X4_setOf qs_X4_setOf qn_X4 hd_X4_setOf ⟨rfl, rfl⟩ ⟨by decide, by decide⟩) (rcv_mo.cell C.2) rfl (Nat.le_of_ble_eq_true rfl) dX4_shelf_31 34 rfl ?_
  refine j_iconst C dX4_shelf_34 (v := (-1)) c_iconst_m1 35 rfl ?_
  refine j_ixor C dX4_shelf_35 36 rfl ?_
  refine j_iand C dX4_shelf_36 37 rfl ?_
  obtain rfl := Option.some.inj hf
  exact j_iret C hr hlk dX4_shelf_37
set_option maxRecDepth 100000 in
set_option maxHeartbeats 4000000 in
theorem c_X4_worthOf (l : Launch) (g : GG) (sz : Nat) (x S : St) (a1 : Int32) (r : Int32) (hf : X4_worthOf a1 S = some r) : Met l yX4_worthOf (.code yX4_worthOf cX4_worthOf 4 (some .int) :: ALLW) (rmJ 2 42) (PcJ g sz x S [.ref (ad g 56), .int a1]) (QiJ g sz r x S) 0 0 (Ag sz) := by
  refine j_met (own := RX4) (by decide) rfl (Nat.le_of_ble_eq_true rfl) rfl ?_
  intro p e s m args below meth c C hr hlk
  have hL4 : ∀ (n : Nat), ∀ (b1 : Int32) (b2 : Int32) (b3 : Int32) (S : St), X4_worthOf_L4 n b1 b2 b3 S = some r → Wj p l e (rmJ 2 42) s m args below meth c (MQ below (QiJ g sz r x S) args s 0 0 (Ag sz)) 4 g sz x S 4 [(0, .ref (ad g 56)), (1, .int b1), (2, .int b2), (3, .int b3)] [] := by
    intro  n
    induction n with
    | zero =>
      intro b1 b2 b3 S hf
      rw [X4_worthOf_L4] at hf
      cases hf
    | succ n ih =>
      intro b1 b2 b3 S hf
      rw [X4_worthOf_L4] at hf
      refine j_iload_n C dX4_worthOf_4 rfl 3 rfl 5 rfl ?_
      refine j_aload_n C dX4_worthOf_5 rfl 0 rfl 6 rfl ?_
      refine j4_get C 0 (by decide) qf_X4_9 (v := .ref (ad g 57)) rfl dX4_worthOf_6 9 rfl ?_
      refine j_iconst C dX4_worthOf_9 (v := 4) c_iconst_4 10 rfl ?_
      obtain ⟨v1, hv1, hf⟩ := bnd hf
      refine j4_ald 1 rfl C hv1 dX4_worthOf_10 11 rfl ?_
      refine j_icmp_ge C dX4_worthOf_11 41 (by decide) 14 rfl (fun c2 => ?_) (fun c2 => ?_)
      · rw [if_pos c2] at hf
        refine j_iload_n C dX4_worthOf_41 rfl 2 rfl 42 rfl ?_
        obtain rfl := Option.some.inj hf
        exact j_iret C hr hlk dX4_worthOf_42
      · rw [if_neg c2] at hf
        refine j_iload_n C dX4_worthOf_14 rfl 2 rfl 15 rfl ?_
        refine j_iload_n C dX4_worthOf_15 rfl 1 rfl 16 rfl ?_
        refine j_iload_n C dX4_worthOf_16 rfl 3 rfl 17 rfl ?_
        refine j_ishr C dX4_worthOf_17 18 rfl ?_
        refine j_iconst C dX4_worthOf_18 (v := 1) c_iconst_1 19 rfl ?_
        refine j_iand C dX4_worthOf_19 20 rfl ?_
        refine j_iconst C dX4_worthOf_20 (v := 1) c_iconst_1 21 rfl ?_
        refine j_icmp_ne C dX4_worthOf_21 32 (by decide) 24 rfl (fun c3 => ?_) (fun c3 => ?_)
        · rw [if_neg c3] at hf
          refine j_iconst C dX4_worthOf_32 (v := 0) c_iconst_0 33 rfl ?_
          refine j_iadd C dX4_worthOf_33 34 rfl ?_
          refine j_istore_n (lv2 := [(2, .int (b2 + 0)), (0, .ref (ad g 56)), (1, .int b1), (3, .int b3)]) C dX4_worthOf_34 rfl (by decide) rfl 35 rfl ?_
          refine j_iinc (lv2 := [(3, .int (b3 + 1)), (2, .int (b2 + 0)), (0, .ref (ad g 56)), (1, .int b1)]) C dX4_worthOf_35 (k := 3) rfl (congrArg (HAdd.hAdd b3) c_oi_1) (by decide) rfl 38 rfl ?_
          refine j_goto C dX4_worthOf_38 4 (by decide) ?_
          refine j_sub [2, 3, 1, 0] rfl ?_
          exact ih b1 (b2 + 0) (b3 + 1) S hf
        · rw [if_pos c3] at hf
          refine j_aload_n C dX4_worthOf_24 rfl 0 rfl 25 rfl ?_
          refine j_iload_n C dX4_worthOf_25 rfl 3 rfl 26 rfl ?_
          obtain ⟨r4, hr4, hf⟩ := bnd hf
          refine j_callVi (As := [.int b3]) (rest := [.int b2]) C (c_X4_worth l g sz x S  b3 _ hr4) (j_cwV C qc_X4_worth qm_X4_122 qi_X4_worth qs_X4_worth qn_X4 hd_X4_worth ⟨rfl, rfl⟩ ⟨by decide, by decide⟩) (rcv_mo.cell C.2) rfl (Nat.le_of_ble_eq_true rfl) dX4_worthOf_26 29 rfl ?_
          refine j_goto C dX4_worthOf_29 33 (by decide) ?_
          refine j_iadd C dX4_worthOf_33 34 rfl ?_
          refine j_istore_n (lv2 := [(2, .int (b2 + r4)), (0, .ref (ad g 56)), (1, .int b1), (3, .int b3)]) C dX4_worthOf_34 rfl (by decide) rfl 35 rfl ?_
          refine j_iinc (lv2 := [(3, .int (b3 + 1)), (2, .int (b2 + r4)), (0, .ref (ad g 56)), (1, .int b1)]) C dX4_worthOf_35 (k := 3) rfl (congrArg (HAdd.hAdd b3) c_oi_1) (by decide) rfl 38 rfl ?_
          refine j_goto C dX4_worthOf_38 4 (by decide) ?_
          refine j_sub [2, 3, 1, 0] rfl ?_
          exact ih b1 (b2 + r4) (b3 + 1) S hf
  unfold X4_worthOf at hf
  refine j_iconst C dX4_worthOf_0 (v := 0) c_iconst_0 1 rfl ?_
  refine j_istore_n (lv2 := [(2, .int 0), (0, .ref (ad g 56)), (1, .int a1)]) C dX4_worthOf_1 rfl (by decide) rfl 2 rfl ?_
  refine j_iconst C dX4_worthOf_2 (v := 0) c_iconst_0 3 rfl ?_
  refine j_istore_n (lv2 := [(3, .int 0), (2, .int 0), (0, .ref (ad g 56)), (1, .int a1)]) C dX4_worthOf_3 rfl (by decide) rfl 4 rfl ?_
  refine j_sub [2, 3, 1, 0] rfl ?_
  exact hL4 FU a1 0 0 S hf
set_option maxRecDepth 100000 in
set_option maxHeartbeats 4000000 in
theorem c_X4_gain (l : Launch) (g : GG) (sz : Nat) (x S : St) (r : Int32) (hf : X4_gain S = some r) : Met l yX4_gain (.code yX4_gain cX4_gain 1 (some .int) :: ALLW) (rmJ 3 65) (PcJ g sz x S [.ref (ad g 56)]) (QiJ g sz r x S) 0 0 (Ag sz) := by
  refine j_met (own := RX4) (by decide) rfl (Nat.le_of_ble_eq_true rfl) rfl ?_
  intro p e s m args below meth c C hr hlk
  unfold X4_gain at hf
  refine j_aload_n C dX4_gain_0 rfl 0 rfl 1 rfl ?_
  refine j_aload_n C dX4_gain_1 rfl 0 rfl 2 rfl ?_
  refine j_bipush C dX4_gain_2 (v := 101) c_bipush_101 4 rfl ?_
  obtain ⟨r1, hr1, hf⟩ := bnd hf
  refine j_callVi (As := [.int 101]) (rest := [.ref (ad g 56)]) C (c_X4_setOf l g sz x S  101 _ hr1) (j_cwV C qc_X4_setOf qm_X4_177 qi_X4_setOf qs_X4_setOf qn_X4 hd_X4_setOf ⟨rfl, rfl⟩ ⟨by decide, by decide⟩) (rcv_mo.cell C.2) rfl (Nat.le_of_ble_eq_true rfl) dX4_gain_4 7 rfl ?_
  obtain ⟨r2, hr2, hf⟩ := bnd hf
  refine j_callVi (As := [.int r1]) (rest := []) C (c_X4_worthOf l g sz x S  r1 _ hr2) (j_cwV C qc_X4_worthOf qm_X4_180 qi_X4_worthOf qs_X4_worthOf qn_X4 hd_X4_worthOf ⟨rfl, rfl⟩ ⟨by decide, by decide⟩) (rcv_mo.cell C.2) rfl (Nat.le_of_ble_eq_true rfl) dX4_gain_7 10 rfl ?_
  refine j_aload_n C dX4_gain_10 rfl 0 rfl 11 rfl ?_
  refine j4_get C 0 (by decide) qf_X4_9 (v := .ref (ad g 57)) rfl dX4_gain_11 14 rfl ?_
  refine j_iconst C dX4_gain_14 (v := 5) c_iconst_5 15 rfl ?_
  obtain ⟨v3, hv3, hf⟩ := bnd hf
  refine j4_ald 1 rfl C hv3 dX4_gain_15 16 rfl ?_
  refine j_isub C dX4_gain_16 17 rfl ?_
  obtain rfl := Option.some.inj hf
  exact j_iret C hr hlk dX4_gain_17
set_option maxRecDepth 100000 in
set_option maxHeartbeats 4000000 in
theorem c_X4_isInHand (l : Launch) (g : GG) (sz : Nat) (x S : St) (a1 : Int32) (r : Int32) (hf : X4_isInHand a1 S = some r) : Met l yX4_isInHand (.code yX4_isInHand cX4_isInHand 2 (some .boolean) :: ALLW) (rmJ 0 0) (PcJ g sz x S [.ref (ad g 56), .int a1]) (QiJ g sz r x S) 0 0 (Ag sz) := by
  refine j_met (own := RX4) (by decide) rfl (Nat.le_of_ble_eq_true rfl) rfl ?_
  intro p e s m args below meth c C hr hlk
  unfold X4_isInHand at hf
  refine j_aload_n C dX4_isInHand_0 rfl 0 rfl 1 rfl ?_
  refine j4_get C 0 (by decide) qf_X4_9 (v := .ref (ad g 57)) rfl dX4_isInHand_1 4 rfl ?_
  refine j_bipush C dX4_isInHand_4 (v := 41) c_bipush_41 6 rfl ?_
  refine j_iload_n C dX4_isInHand_6 rfl 1 rfl 7 rfl ?_
  refine j_iadd C dX4_isInHand_7 8 rfl ?_
  obtain ⟨v1, hv1, hf⟩ := bnd hf
  refine j4_ald 1 rfl C hv1 dX4_isInHand_8 9 rfl ?_
  refine j_bipush C dX4_isInHand_9 (v := 100) c_bipush_100 11 rfl ?_
  refine j_icmp_ne C dX4_isInHand_11 18 (by decide) 14 rfl (fun c2 => ?_) (fun c2 => ?_)
  · rw [if_neg c2] at hf
    refine j_iconst C dX4_isInHand_18 (v := 0) c_iconst_0 19 rfl ?_
    obtain rfl := Option.some.inj hf
    exact j_zret C hr hlk (Or.inl rfl) dX4_isInHand_19
  · rw [if_pos c2] at hf
    refine j_iconst C dX4_isInHand_14 (v := 1) c_iconst_1 15 rfl ?_
    refine j_goto C dX4_isInHand_15 19 (by decide) ?_
    obtain rfl := Option.some.inj hf
    exact j_zret C hr hlk (Or.inr rfl) dX4_isInHand_19
set_option maxRecDepth 100000 in
set_option maxHeartbeats 4000000 in
theorem c_X4_drop (l : Launch) (g : GG) (sz : Nat) (x S : St) (a1 : Int32) (a2 : Int32) (r : Int32) (S' : St) (hf : X4_drop a1 a2 S = some (r, S')) : Met l yX4_drop (.code yX4_drop cX4_drop 4 (some .int) :: ALLW) (rmJ 7 156) (PcJ g sz x S [.ref (ad g 56), .int a1, .int a2]) (QiJ g sz r x S') 0 0 (Ag sz) := by
  refine j_met (own := RX4) (by decide) rfl (Nat.le_of_ble_eq_true rfl) rfl ?_
  intro p e s m args below meth c C hr hlk
  unfold X4_drop at hf
  refine j_aload_n C dX4_drop_0 rfl 0 rfl 1 rfl ?_
  refine j_iload_n C dX4_drop_1 rfl 1 rfl 2 rfl ?_
  obtain ⟨r1, hr1, hf⟩ := bnd hf
  refine j_callVi (As := [.int a1]) (rest := []) C (c_X4_isCoin l g sz x S  a1 _ hr1) (j_cwV C qc_X4_isCoin qm_X4_116 qi_X4_isCoin qs_X4_isCoin qn_X4 hd_X4_isCoin ⟨rfl, rfl⟩ ⟨by decide, by decide⟩) (rcv_mo.cell C.2) rfl (Nat.le_of_ble_eq_true rfl) dX4_drop_2 5 rfl ?_
  refine j_if_eq C dX4_drop_5 15 (by decide) 8 rfl (fun c2 => ?_) (fun c2 => ?_)
  · rw [if_pos c2] at hf
    refine j_aload_n C dX4_drop_15 rfl 0 rfl 16 rfl ?_
    refine j_ldc C dX4_drop_16 qk_X4_72 18 rfl ?_
    obtain ⟨⟨r4, S5⟩, hq3, hf⟩ := bnd hf
    dsimp only at hf
    refine j_callVi (As := [.int (-1000001)]) (rest := []) C (c_X4_finding l g sz x S  (-1000001) _ _ hq3) (j_cwV C qc_X4_finding qm_X4_99 qi_X4_finding qs_X4_finding qn_X4 hd_X4_finding ⟨rfl, rfl⟩ ⟨by decide, by decide⟩) (rcv_mo.cell C.2) rfl (Nat.le_of_ble_eq_true rfl) dX4_drop_18 21 rfl ?_
    obtain ⟨rfl, rfl⟩ := Prod.mk.inj (Option.some.inj hf)
    exact j_iret C hr hlk dX4_drop_21
  · rw [if_neg c2] at hf
    refine j_iload_n C dX4_drop_8 rfl 2 rfl 9 rfl ?_
    refine j_callSi (As := [.int a2]) (rest := []) C (c_X4_isColumn l g sz x S a2 _ rfl) (j_cwS C qc_X4_isColumn qm_X4_81 qs_X4_isColumn qn_X4 hd_X4_isColumn ⟨rfl, rfl⟩ ⟨by decide, by decide⟩)  rfl (Nat.le_of_ble_eq_true rfl) dX4_drop_9 12 rfl ?_
    refine j_if_ne C dX4_drop_12 22 (by decide) 15 rfl (fun c6 => ?_) (fun c6 => ?_)
    · rw [if_neg c6] at hf
      refine j_aload_n C dX4_drop_22 rfl 0 rfl 23 rfl ?_
      refine j_iload_n C dX4_drop_23 rfl 1 rfl 24 rfl ?_
      obtain ⟨r7, hr7, hf⟩ := bnd hf
      refine j_callVi (As := [.int a1]) (rest := []) C (c_X4_isInHand l g sz x S  a1 _ hr7) (j_cwV C qc_X4_isInHand qm_X4_183 qi_X4_isInHand qs_X4_isInHand qn_X4 hd_X4_isInHand ⟨rfl, rfl⟩ ⟨by decide, by decide⟩) (rcv_mo.cell C.2) rfl (Nat.le_of_ble_eq_true rfl) dX4_drop_24 27 rfl ?_
      refine j_if_eq C dX4_drop_27 42 (by decide) 30 rfl (fun c8 => ?_) (fun c8 => ?_)
      · rw [if_pos c8] at hf
        refine j_aload_n C dX4_drop_42 rfl 0 rfl 43 rfl ?_
        refine j_ldc C dX4_drop_43 qk_X4_137 45 rfl ?_
        obtain ⟨⟨r10, S11⟩, hq9, hf⟩ := bnd hf
        dsimp only at hf
        refine j_callVi (As := [.int (-1000005)]) (rest := []) C (c_X4_finding l g sz x S  (-1000005) _ _ hq9) (j_cwV C qc_X4_finding qm_X4_99 qi_X4_finding qs_X4_finding qn_X4 hd_X4_finding ⟨rfl, rfl⟩ ⟨by decide, by decide⟩) (rcv_mo.cell C.2) rfl (Nat.le_of_ble_eq_true rfl) dX4_drop_45 48 rfl ?_
        obtain ⟨rfl, rfl⟩ := Prod.mk.inj (Option.some.inj hf)
        exact j_iret C hr hlk dX4_drop_48
      · rw [if_neg c8] at hf
        refine j_aload_n C dX4_drop_30 rfl 0 rfl 31 rfl ?_
        refine j4_get C 0 (by decide) qf_X4_9 (v := .ref (ad g 57)) rfl dX4_drop_31 34 rfl ?_
        refine j_iconst C dX4_drop_34 (v := 0) c_iconst_0 35 rfl ?_
        obtain ⟨v12, hv12, hf⟩ := bnd hf
        refine j4_ald 1 rfl C hv12 dX4_drop_35 36 rfl ?_
        refine j_sipush C dX4_drop_36 (v := 9999) c_sipush_9999 39 rfl ?_
        refine j_icmp_ne C dX4_drop_39 49 (by decide) 42 rfl (fun c13 => ?_) (fun c13 => ?_)
        · rw [if_neg c13] at hf
          refine j_aload_n C dX4_drop_49 rfl 0 rfl 50 rfl ?_
          obtain ⟨r14, hr14, hf⟩ := bnd hf
          refine j_callVi (As := []) (rest := []) C (c_X4_gain l g sz x S   _ hr14) (j_cwV C qc_X4_gain qm_X4_186 qi_X4_gain qs_X4_gain qn_X4 hd_X4_gain ⟨rfl, rfl⟩ ⟨by decide, by decide⟩) (rcv_mo.cell C.2) rfl (Nat.le_of_ble_eq_true rfl) dX4_drop_50 53 rfl ?_
          refine j_istore_n (lv2 := [(3, .int r14), (0, .ref (ad g 56)), (1, .int a1), (2, .int a2)]) C dX4_drop_53 rfl (by decide) rfl 54 rfl ?_
          refine j_aload_n C dX4_drop_54 rfl 1 rfl 55 rfl ?_
          refine j_iload_n C dX4_drop_55 rfl 2 rfl 56 rfl ?_
          refine j_iload_n C dX4_drop_56 rfl 3 rfl 57 rfl ?_
          obtain ⟨S15, hS15, hf⟩ := bnd hf
          refine j_callVv (As := [.int a1, .int a2]) (rest := []) C (c_X4_dropped l g sz x S  a1 a2 _ hS15) (j_cwV C qc_X4_dropped qm_X4_190 qi_X4_dropped qs_X4_dropped qn_X4 hd_X4_dropped ⟨rfl, rfl⟩ ⟨by decide, by decide⟩) (rcv_mo.cell C.2) rfl (Nat.le_of_ble_eq_true rfl) dX4_drop_57 60 rfl ?_
          refine j_aload_n C dX4_drop_60 rfl 1 rfl 61 rfl ?_
          obtain ⟨r16, hr16, hf⟩ := bnd hf
          refine j_callVi (As := []) (rest := []) C (c_X4_gain l g sz x S15   _ hr16) (j_cwV C qc_X4_gain qm_X4_186 qi_X4_gain qs_X4_gain qn_X4 hd_X4_gain ⟨rfl, rfl⟩ ⟨by decide, by decide⟩) (rcv_mo.cell C.2) rfl (Nat.le_of_ble_eq_true rfl) dX4_drop_61 64 rfl ?_
          refine j_iload_n C dX4_drop_64 rfl 0 rfl 65 rfl ?_
          refine j_isub C dX4_drop_65 66 rfl ?_
          obtain ⟨rfl, rfl⟩ := Prod.mk.inj (Option.some.inj hf)
          exact j_iret C hr hlk dX4_drop_66
        · rw [if_pos c13] at hf
          refine j_aload_n C dX4_drop_42 rfl 0 rfl 43 rfl ?_
          refine j_ldc C dX4_drop_43 qk_X4_137 45 rfl ?_
          obtain ⟨⟨r18, S19⟩, hq17, hf⟩ := bnd hf
          dsimp only at hf
          refine j_callVi (As := [.int (-1000005)]) (rest := []) C (c_X4_finding l g sz x S  (-1000005) _ _ hq17) (j_cwV C qc_X4_finding qm_X4_99 qi_X4_finding qs_X4_finding qn_X4 hd_X4_finding ⟨rfl, rfl⟩ ⟨by decide, by decide⟩) (rcv_mo.cell C.2) rfl (Nat.le_of_ble_eq_true rfl) dX4_drop_45 48 rfl ?_
          obtain ⟨rfl, rfl⟩ := Prod.mk.inj (Option.some.inj hf)
          exact j_iret C hr hlk dX4_drop_48
    · rw [if_pos c6] at hf
      refine j_aload_n C dX4_drop_15 rfl 0 rfl 16 rfl ?_
      refine j_ldc C dX4_drop_16 qk_X4_72 18 rfl ?_
      obtain ⟨⟨r21, S22⟩, hq20, hf⟩ := bnd hf
      dsimp only at hf
      refine j_callVi (As := [.int (-1000001)]) (rest := []) C (c_X4_finding l g sz x S  (-1000001) _ _ hq20) (j_cwV C qc_X4_finding qm_X4_99 qi_X4_finding qs_X4_finding qn_X4 hd_X4_finding ⟨rfl, rfl⟩ ⟨by decide, by decide⟩) (rcv_mo.cell C.2) rfl (Nat.le_of_ble_eq_true rfl) dX4_drop_18 21 rfl ?_
      obtain ⟨rfl, rfl⟩ := Prod.mk.inj (Option.some.inj hf)
      exact j_iret C hr hlk dX4_drop_21
set_option maxRecDepth 100000 in
set_option maxHeartbeats 4000000 in
theorem c_X4_isTooLate (l : Launch) (g : GG) (sz : Nat) (x S : St) (a1 : Int32) (r : Int32) (hf : X4_isTooLate a1 S = some r) : Met l yX4_isTooLate (.code yX4_isTooLate cX4_isTooLate 2 (some .boolean) :: ALLW) (rmJ 0 0) (PcJ g sz x S [.ref (ad g 56), .int a1]) (QiJ g sz r x S) 0 0 (Ag sz) := by
  refine j_met (own := RX4) (by decide) rfl (Nat.le_of_ble_eq_true rfl) rfl ?_
  intro p e s m args below meth c C hr hlk
  unfold X4_isTooLate at hf
  refine j_aload_n C dX4_isTooLate_0 rfl 0 rfl 1 rfl ?_
  refine j4_get C 0 (by decide) qf_X4_9 (v := .ref (ad g 57)) rfl dX4_isTooLate_1 4 rfl ?_
  refine j_iconst C dX4_isTooLate_4 (v := 0) c_iconst_0 5 rfl ?_
  obtain ⟨v1, hv1, hf⟩ := bnd hf
  refine j4_ald 1 rfl C hv1 dX4_isTooLate_5 6 rfl ?_
  refine j_iload_n C dX4_isTooLate_6 rfl 1 rfl 7 rfl ?_
  refine j_iadd C dX4_isTooLate_7 8 rfl ?_
  refine j_sipush C dX4_isTooLate_8 (v := 9999) c_sipush_9999 11 rfl ?_
  refine j_icmp_le C dX4_isTooLate_11 18 (by decide) 14 rfl (fun c2 => ?_) (fun c2 => ?_)
  · rw [if_pos c2] at hf
    refine j_iconst C dX4_isTooLate_18 (v := 0) c_iconst_0 19 rfl ?_
    obtain rfl := Option.some.inj hf
    exact j_zret C hr hlk (Or.inl rfl) dX4_isTooLate_19
  · rw [if_neg c2] at hf
    refine j_iconst C dX4_isTooLate_14 (v := 1) c_iconst_1 15 rfl ?_
    refine j_goto C dX4_isTooLate_15 19 (by decide) ?_
    obtain rfl := Option.some.inj hf
    exact j_zret C hr hlk (Or.inr rfl) dX4_isTooLate_19
set_option maxRecDepth 100000 in
set_option maxHeartbeats 4000000 in
theorem c_X4_beats (l : Launch) (g : GG) (sz : Nat) (x S : St) (a1 : Int32) (r : Int32) (S' : St) (hf : X4_beats a1 S = some (r, S')) : Met l yX4_beats (.code yX4_beats cX4_beats 2 (some .int) :: ALLW) (rmJ 7 155) (PcJ g sz x S [.ref (ad g 56), .int a1]) (QiJ g sz r x S') 0 0 (Ag sz) := by
  refine j_met (own := RX4) (by decide) rfl (Nat.le_of_ble_eq_true rfl) rfl ?_
  intro p e s m args below meth c C hr hlk
  unfold X4_beats at hf
  refine j_iload_n C dX4_beats_0 rfl 1 rfl 1 rfl ?_
  refine j_iconst C dX4_beats_1 (v := 1) c_iconst_1 2 rfl ?_
  refine j_bipush C dX4_beats_2 (v := 60) c_bipush_60 4 rfl ?_
  refine j_callSi (As := [.int a1, .int 1, .int 60]) (rest := []) C (c_X4_within l g sz x S a1 1 60 _ rfl) (j_cwS C qc_X4_within qm_X4_77 qs_X4_within qn_X4 hd_X4_within ⟨rfl, rfl⟩ ⟨by decide, by decide⟩)  rfl (Nat.le_of_ble_eq_true rfl) dX4_beats_4 7 rfl ?_
  refine j_if_ne C dX4_beats_7 17 (by decide) 10 rfl (fun c1 => ?_) (fun c1 => ?_)
  · rw [if_neg c1] at hf
    refine j_aload_n C dX4_beats_17 rfl 0 rfl 18 rfl ?_
    refine j_iload_n C dX4_beats_18 rfl 1 rfl 19 rfl ?_
    obtain ⟨r2, hr2, hf⟩ := bnd hf
    refine j_callVi (As := [.int a1]) (rest := []) C (c_X4_isTooLate l g sz x S  a1 _ hr2) (j_cwV C qc_X4_isTooLate qm_X4_193 qi_X4_isTooLate qs_X4_isTooLate qn_X4 hd_X4_isTooLate ⟨rfl, rfl⟩ ⟨by decide, by decide⟩) (rcv_mo.cell C.2) rfl (Nat.le_of_ble_eq_true rfl) dX4_beats_19 22 rfl ?_
    refine j_if_eq C dX4_beats_22 34 (by decide) 25 rfl (fun c3 => ?_) (fun c3 => ?_)
    · rw [if_pos c3] at hf
      refine j_aload_n C dX4_beats_34 rfl 0 rfl 35 rfl ?_
      refine j_iload_n C dX4_beats_35 rfl 1 rfl 36 rfl ?_
      obtain ⟨⟨r5, S6⟩, hq4, hf⟩ := bnd hf
      dsimp only at hf
      refine j_callVi (As := [.int a1]) (rest := []) C (c_X4_beatsGo l g sz x S  a1 _ _ hq4) (j_cwV C qc_X4_beatsGo qm_X4_196 qi_X4_beatsGo qs_X4_beatsGo qn_X4 hd_X4_beatsGo ⟨rfl, rfl⟩ ⟨by decide, by decide⟩) (rcv_mo.cell C.2) rfl (Nat.le_of_ble_eq_true rfl) dX4_beats_36 39 rfl ?_
      obtain ⟨rfl, rfl⟩ := Prod.mk.inj (Option.some.inj hf)
      exact j_iret C hr hlk dX4_beats_39
    · rw [if_neg c3] at hf
      refine j_aload_n C dX4_beats_25 rfl 0 rfl 26 rfl ?_
      refine j_ldc C dX4_beats_26 qk_X4_137 28 rfl ?_
      obtain ⟨⟨r8, S9⟩, hq7, hf⟩ := bnd hf
      dsimp only at hf
      refine j_callVi (As := [.int (-1000005)]) (rest := []) C (c_X4_finding l g sz x S  (-1000005) _ _ hq7) (j_cwV C qc_X4_finding qm_X4_99 qi_X4_finding qs_X4_finding qn_X4 hd_X4_finding ⟨rfl, rfl⟩ ⟨by decide, by decide⟩) (rcv_mo.cell C.2) rfl (Nat.le_of_ble_eq_true rfl) dX4_beats_28 31 rfl ?_
      refine j_goto C dX4_beats_31 39 (by decide) ?_
      obtain ⟨rfl, rfl⟩ := Prod.mk.inj (Option.some.inj hf)
      exact j_iret C hr hlk dX4_beats_39
  · rw [if_pos c1] at hf
    refine j_aload_n C dX4_beats_10 rfl 0 rfl 11 rfl ?_
    refine j_ldc C dX4_beats_11 qk_X4_72 13 rfl ?_
    obtain ⟨⟨r11, S12⟩, hq10, hf⟩ := bnd hf
    dsimp only at hf
    refine j_callVi (As := [.int (-1000001)]) (rest := []) C (c_X4_finding l g sz x S  (-1000001) _ _ hq10) (j_cwV C qc_X4_finding qm_X4_99 qi_X4_finding qs_X4_finding qn_X4 hd_X4_finding ⟨rfl, rfl⟩ ⟨by decide, by decide⟩) (rcv_mo.cell C.2) rfl (Nat.le_of_ble_eq_true rfl) dX4_beats_13 16 rfl ?_
    obtain ⟨rfl, rfl⟩ := Prod.mk.inj (Option.some.inj hf)
    exact j_iret C hr hlk dX4_beats_16
set_option maxRecDepth 100000 in
set_option maxHeartbeats 4000000 in
theorem c_X4_now (l : Launch) (g : GG) (sz : Nat) (x S : St) (a1 : Int32) (r : Int32) (S' : St) (hf : X4_now a1 S = some (r, S')) : Met l yX4_now (.code yX4_now cX4_now 2 (some .int) :: ALLW) (rmJ 4 85) (PcJ g sz x S [.ref (ad g 56), .int a1]) (QiJ g sz r x S') 0 0 (Ag sz) := by
  refine j_met (own := RX4) (by decide) rfl (Nat.le_of_ble_eq_true rfl) rfl ?_
  intro p e s m args below meth c C hr hlk
  unfold X4_now at hf
  refine j_iload_n C dX4_now_0 rfl 1 rfl 1 rfl ?_
  by_cases c1 : a1 = 0
  · rw [if_pos c1] at hf
    refine j_tableIn C dX4_now_1 (by rw [c1]; decide) (by rw [c1]; decide) (by rw [c1]; rfl) 44 (by decide) ?_
    refine j_aload_n C dX4_now_44 rfl 0 rfl 45 rfl ?_
    refine j4_get C 0 (by decide) qf_X4_9 (v := .ref (ad g 57)) rfl dX4_now_45 48 rfl ?_
    refine j_iconst C dX4_now_48 (v := 0) c_iconst_0 49 rfl ?_
    obtain ⟨v2, hv2, hf⟩ := bnd hf
    refine j4_ald 1 rfl C hv2 dX4_now_49 50 rfl ?_
    obtain ⟨rfl, rfl⟩ := Prod.mk.inj (Option.some.inj hf)
    exact j_iret C hr hlk dX4_now_50
  · rw [if_neg c1] at hf
    by_cases c3 : a1 = 1
    · rw [if_pos c3] at hf
      refine j_tableIn C dX4_now_1 (by rw [c3]; decide) (by rw [c3]; decide) (by rw [c3]; rfl) 51 (by decide) ?_
      refine j_aload_n C dX4_now_51 rfl 0 rfl 52 rfl ?_
      obtain ⟨r4, hr4, hf⟩ := bnd hf
      refine j_callVi (As := []) (rest := []) C (c_X4_gain l g sz x S   _ hr4) (j_cwV C qc_X4_gain qm_X4_186 qi_X4_gain qs_X4_gain qn_X4 hd_X4_gain ⟨rfl, rfl⟩ ⟨by decide, by decide⟩) (rcv_mo.cell C.2) rfl (Nat.le_of_ble_eq_true rfl) dX4_now_52 55 rfl ?_
      obtain ⟨rfl, rfl⟩ := Prod.mk.inj (Option.some.inj hf)
      exact j_iret C hr hlk dX4_now_55
    · rw [if_neg c3] at hf
      by_cases c5 : a1 = 2
      · rw [if_pos c5] at hf
        refine j_tableIn C dX4_now_1 (by rw [c5]; decide) (by rw [c5]; decide) (by rw [c5]; rfl) 56 (by decide) ?_
        refine j_aload_n C dX4_now_56 rfl 0 rfl 57 rfl ?_
        refine j_bipush C dX4_now_57 (v := 101) c_bipush_101 59 rfl ?_
        obtain ⟨r6, hr6, hf⟩ := bnd hf
        refine j_callVi (As := [.int 101]) (rest := []) C (c_X4_setOf l g sz x S  101 _ hr6) (j_cwV C qc_X4_setOf qm_X4_177 qi_X4_setOf qs_X4_setOf qn_X4 hd_X4_setOf ⟨rfl, rfl⟩ ⟨by decide, by decide⟩) (rcv_mo.cell C.2) rfl (Nat.le_of_ble_eq_true rfl) dX4_now_59 62 rfl ?_
        obtain ⟨rfl, rfl⟩ := Prod.mk.inj (Option.some.inj hf)
        exact j_iret C hr hlk dX4_now_62
      · rw [if_neg c5] at hf
        by_cases c7 : a1 = 3
        · rw [if_pos c7] at hf
          refine j_tableIn C dX4_now_1 (by rw [c7]; decide) (by rw [c7]; decide) (by rw [c7]; rfl) 63 (by decide) ?_
          refine j_aload_n C dX4_now_63 rfl 0 rfl 64 rfl ?_
          refine j_bipush C dX4_now_64 (v := 102) c_bipush_102 66 rfl ?_
          obtain ⟨r8, hr8, hf⟩ := bnd hf
          refine j_callVi (As := [.int 102]) (rest := []) C (c_X4_setOf l g sz x S  102 _ hr8) (j_cwV C qc_X4_setOf qm_X4_177 qi_X4_setOf qs_X4_setOf qn_X4 hd_X4_setOf ⟨rfl, rfl⟩ ⟨by decide, by decide⟩) (rcv_mo.cell C.2) rfl (Nat.le_of_ble_eq_true rfl) dX4_now_66 69 rfl ?_
          obtain ⟨rfl, rfl⟩ := Prod.mk.inj (Option.some.inj hf)
          exact j_iret C hr hlk dX4_now_69
        · rw [if_neg c7] at hf
          by_cases c9 : a1 = 4
          · rw [if_pos c9] at hf
            refine j_tableIn C dX4_now_1 (by rw [c9]; decide) (by rw [c9]; decide) (by rw [c9]; rfl) 70 (by decide) ?_
            refine j_aload_n C dX4_now_70 rfl 0 rfl 71 rfl ?_
            refine j_bipush C dX4_now_71 (v := 100) c_bipush_100 73 rfl ?_
            obtain ⟨r10, hr10, hf⟩ := bnd hf
            refine j_callVi (As := [.int 100]) (rest := []) C (c_X4_setOf l g sz x S  100 _ hr10) (j_cwV C qc_X4_setOf qm_X4_177 qi_X4_setOf qs_X4_setOf qn_X4 hd_X4_setOf ⟨rfl, rfl⟩ ⟨by decide, by decide⟩) (rcv_mo.cell C.2) rfl (Nat.le_of_ble_eq_true rfl) dX4_now_73 76 rfl ?_
            obtain ⟨rfl, rfl⟩ := Prod.mk.inj (Option.some.inj hf)
            exact j_iret C hr hlk dX4_now_76
          · rw [if_neg c9] at hf
            by_cases c11 : a1 = 5
            · rw [if_pos c11] at hf
              refine j_tableIn C dX4_now_1 (by rw [c11]; decide) (by rw [c11]; decide) (by rw [c11]; rfl) 77 (by decide) ?_
              refine j_aload_n C dX4_now_77 rfl 0 rfl 78 rfl ?_
              refine j4_get C 0 (by decide) qf_X4_9 (v := .ref (ad g 57)) rfl dX4_now_78 81 rfl ?_
              refine j_iconst C dX4_now_81 (v := 5) c_iconst_5 82 rfl ?_
              obtain ⟨v12, hv12, hf⟩ := bnd hf
              refine j4_ald 1 rfl C hv12 dX4_now_82 83 rfl ?_
              obtain ⟨rfl, rfl⟩ := Prod.mk.inj (Option.some.inj hf)
              exact j_iret C hr hlk dX4_now_83
            · rw [if_neg c11] at hf
              by_cases c13 : a1 = 6
              · rw [if_pos c13] at hf
                refine j_tableIn C dX4_now_1 (by rw [c13]; decide) (by rw [c13]; decide) (by rw [c13]; rfl) 84 (by decide) ?_
                refine j_aload_n C dX4_now_84 rfl 0 rfl 85 rfl ?_
                refine j_aload_n C dX4_now_85 rfl 0 rfl 86 rfl ?_
                refine j_bipush C dX4_now_86 (v := 102) c_bipush_102 88 rfl ?_
                obtain ⟨r14, hr14, hf⟩ := bnd hf
                refine j_callVi (As := [.int 102]) (rest := [.ref (ad g 56)]) C (c_X4_setOf l g sz x S  102 _ hr14) (j_cwV C qc_X4_setOf qm_X4_177 qi_X4_setOf qs_X4_setOf qn_X4 hd_X4_setOf ⟨rfl, rfl⟩ ⟨by decide, by decide⟩) (rcv_mo.cell C.2) rfl (Nat.le_of_ble_eq_true rfl) dX4_now_88 91 rfl ?_
                obtain ⟨r15, hr15, hf⟩ := bnd hf
                refine j_callVi (As := [.int r14]) (rest := []) C (c_X4_worthOf l g sz x S  r14 _ hr15) (j_cwV C qc_X4_worthOf qm_X4_180 qi_X4_worthOf qs_X4_worthOf qn_X4 hd_X4_worthOf ⟨rfl, rfl⟩ ⟨by decide, by decide⟩) (rcv_mo.cell C.2) rfl (Nat.le_of_ble_eq_true rfl) dX4_now_91 94 rfl ?_
                obtain ⟨rfl, rfl⟩ := Prod.mk.inj (Option.some.inj hf)
                exact j_iret C hr hlk dX4_now_94
              · rw [if_neg c13] at hf
                refine j_tableOut C dX4_now_1 (sw_out6 c1 c3 c5 c7 c9 c11 c13) 95 (by decide) ?_
                refine j_aload_n C dX4_now_95 rfl 0 rfl 96 rfl ?_
                refine j_ldc C dX4_now_96 qk_X4_72 98 rfl ?_
                obtain ⟨⟨r17, S18⟩, hq16, hf⟩ := bnd hf
                dsimp only at hf
                refine j_callVi (As := [.int (-1000001)]) (rest := []) C (c_X4_finding l g sz x S  (-1000001) _ _ hq16) (j_cwV C qc_X4_finding qm_X4_99 qi_X4_finding qs_X4_finding qn_X4 hd_X4_finding ⟨rfl, rfl⟩ ⟨by decide, by decide⟩) (rcv_mo.cell C.2) rfl (Nat.le_of_ble_eq_true rfl) dX4_now_98 101 rfl ?_
                obtain ⟨rfl, rfl⟩ := Prod.mk.inj (Option.some.inj hf)
                exact j_iret C hr hlk dX4_now_101
set_option maxRecDepth 100000 in
set_option maxHeartbeats 4000000 in
theorem c_X4_run (l : Launch) (g : GG) (sz : Nat) (x S : St) (a1 : Int32) (r : Int32) (S' : St) (hf : X4_run a1 S = some (r, S')) : Met l yX4_run (.code yX4_run cX4_run 2 (some .int) :: ALLW) (rmJ 2 43) (PcJ g sz x S [.ref (ad g 56), .int a1]) (QiJ g sz r x S') 0 0 (Ag sz) := by
  refine j_met (own := RX4) (by decide) rfl (Nat.le_of_ble_eq_true rfl) rfl ?_
  intro p e s m args below meth c C hr hlk
  unfold X4_run at hf
  refine j_iload_n C dX4_run_0 rfl 1 rfl 1 rfl ?_
  refine j_callSi (As := [.int a1]) (rest := []) C (c_X4_isColumn l g sz x S a1 _ rfl) (j_cwS C qc_X4_isColumn qm_X4_81 qs_X4_isColumn qn_X4 hd_X4_isColumn ⟨rfl, rfl⟩ ⟨by decide, by decide⟩)  rfl (Nat.le_of_ble_eq_true rfl) dX4_run_1 4 rfl ?_
  refine j_if_eq C dX4_run_4 15 (by decide) 7 rfl (fun c1 => ?_) (fun c1 => ?_)
  · rw [if_pos c1] at hf
    refine j_aload_n C dX4_run_15 rfl 0 rfl 16 rfl ?_
    refine j_ldc C dX4_run_16 qk_X4_72 18 rfl ?_
    obtain ⟨⟨r3, S4⟩, hq2, hf⟩ := bnd hf
    dsimp only at hf
    refine j_callVi (As := [.int (-1000001)]) (rest := []) C (c_X4_finding l g sz x S  (-1000001) _ _ hq2) (j_cwV C qc_X4_finding qm_X4_99 qi_X4_finding qs_X4_finding qn_X4 hd_X4_finding ⟨rfl, rfl⟩ ⟨by decide, by decide⟩) (rcv_mo.cell C.2) rfl (Nat.le_of_ble_eq_true rfl) dX4_run_18 21 rfl ?_
    obtain ⟨rfl, rfl⟩ := Prod.mk.inj (Option.some.inj hf)
    exact j_iret C hr hlk dX4_run_21
  · rw [if_neg c1] at hf
    refine j_aload_n C dX4_run_7 rfl 0 rfl 8 rfl ?_
    refine j_iload_n C dX4_run_8 rfl 1 rfl 9 rfl ?_
    obtain ⟨r5, hr5, hf⟩ := bnd hf
    refine j_callVi (As := [.int a1]) (rest := []) C (c_X4_runOf l g sz x S  a1 _ hr5) (j_cwV C qc_X4_runOf qm_X4_150 qi_X4_runOf qs_X4_runOf qn_X4 hd_X4_runOf ⟨rfl, rfl⟩ ⟨by decide, by decide⟩) (rcv_mo.cell C.2) rfl (Nat.le_of_ble_eq_true rfl) dX4_run_9 12 rfl ?_
    refine j_goto C dX4_run_12 21 (by decide) ?_
    obtain ⟨rfl, rfl⟩ := Prod.mk.inj (Option.some.inj hf)
    exact j_iret C hr hlk dX4_run_21
set_option maxRecDepth 100000 in
set_option maxHeartbeats 4000000 in
theorem c_X4_weight (l : Launch) (g : GG) (sz : Nat) (x S : St) (a1 : Int32) (r : Int32) (S' : St) (hf : X4_weight a1 S = some (r, S')) : Met l yX4_weight (.code yX4_weight cX4_weight 2 (some .int) :: ALLW) (rmJ 4 89) (PcJ g sz x S [.ref (ad g 56), .int a1]) (QiJ g sz r x S') 0 0 (Ag sz) := by
  refine j_met (own := RX4) (by decide) rfl (Nat.le_of_ble_eq_true rfl) rfl ?_
  intro p e s m args below meth c C hr hlk
  unfold X4_weight at hf
  refine j_iload_n C dX4_weight_0 rfl 1 rfl 1 rfl ?_
  refine j_callSi (As := [.int a1]) (rest := []) C (c_X4_isColumn l g sz x S a1 _ rfl) (j_cwS C qc_X4_isColumn qm_X4_81 qs_X4_isColumn qn_X4 hd_X4_isColumn ⟨rfl, rfl⟩ ⟨by decide, by decide⟩)  rfl (Nat.le_of_ble_eq_true rfl) dX4_weight_1 4 rfl ?_
  refine j_if_eq C dX4_weight_4 15 (by decide) 7 rfl (fun c1 => ?_) (fun c1 => ?_)
  · rw [if_pos c1] at hf
    refine j_aload_n C dX4_weight_15 rfl 0 rfl 16 rfl ?_
    refine j_ldc C dX4_weight_16 qk_X4_72 18 rfl ?_
    obtain ⟨⟨r3, S4⟩, hq2, hf⟩ := bnd hf
    dsimp only at hf
    refine j_callVi (As := [.int (-1000001)]) (rest := []) C (c_X4_finding l g sz x S  (-1000001) _ _ hq2) (j_cwV C qc_X4_finding qm_X4_99 qi_X4_finding qs_X4_finding qn_X4 hd_X4_finding ⟨rfl, rfl⟩ ⟨by decide, by decide⟩) (rcv_mo.cell C.2) rfl (Nat.le_of_ble_eq_true rfl) dX4_weight_18 21 rfl ?_
    obtain ⟨rfl, rfl⟩ := Prod.mk.inj (Option.some.inj hf)
    exact j_iret C hr hlk dX4_weight_21
  · rw [if_neg c1] at hf
    refine j_aload_n C dX4_weight_7 rfl 0 rfl 8 rfl ?_
    refine j_iload_n C dX4_weight_8 rfl 1 rfl 9 rfl ?_
    obtain ⟨r5, hr5, hf⟩ := bnd hf
    refine j_callVi (As := [.int a1]) (rest := []) C (c_X4_weightOf l g sz x S  a1 _ hr5) (j_cwV C qc_X4_weightOf qm_X4_153 qi_X4_weightOf qs_X4_weightOf qn_X4 hd_X4_weightOf ⟨rfl, rfl⟩ ⟨by decide, by decide⟩) (rcv_mo.cell C.2) rfl (Nat.le_of_ble_eq_true rfl) dX4_weight_9 12 rfl ?_
    refine j_goto C dX4_weight_12 21 (by decide) ?_
    obtain ⟨rfl, rfl⟩ := Prod.mk.inj (Option.some.inj hf)
    exact j_iret C hr hlk dX4_weight_21
set_option maxRecDepth 100000 in
set_option maxHeartbeats 4000000 in
theorem c_X4_moved (l : Launch) (g : GG) (sz : Nat) (x S : St) (r : Int32) (hf : X4_moved S = some r) : Met l yX4_moved (.code yX4_moved cX4_moved 3 (some .int) :: ALLW) (rmJ 5 110) (PcJ g sz x S [.ref (ad g 56)]) (QiJ g sz r x S) 0 0 (Ag sz) := by
  refine j_met (own := RX4) (by decide) rfl (Nat.le_of_ble_eq_true rfl) rfl ?_
  intro p e s m args below meth c C hr hlk
  have hL4 : ∀ (n : Nat), ∀ (b1 : Int32) (b2 : Int32) (S : St), X4_moved_L4 n b1 b2 S = some r → Wj p l e (rmJ 5 110) s m args below meth c (MQ below (QiJ g sz r x S) args s 0 0 (Ag sz)) 3 g sz x S 4 [(0, .ref (ad g 56)), (1, .int b1), (2, .int b2)] [] := by
    intro  n
    induction n with
    | zero =>
      intro b1 b2 S hf
      rw [X4_moved_L4] at hf
      cases hf
    | succ n ih =>
      intro b1 b2 S hf
      rw [X4_moved_L4] at hf
      refine j_iload_n C dX4_moved_4 rfl 2 rfl 5 rfl ?_
      refine j_bipush C dX4_moved_5 (v := 7) c_bipush_7 7 rfl ?_
      refine j_icmp_ge C dX4_moved_7 34 (by decide) 10 rfl (fun c1 => ?_) (fun c1 => ?_)
      · rw [if_pos c1] at hf
        refine j_iload_n C dX4_moved_34 rfl 1 rfl 35 rfl ?_
        obtain rfl := Option.some.inj hf
        exact j_iret C hr hlk dX4_moved_35
      · rw [if_neg c1] at hf
        refine j_iload_n C dX4_moved_10 rfl 1 rfl 11 rfl ?_
        refine j_aload_n C dX4_moved_11 rfl 0 rfl 12 rfl ?_
        refine j_iload_n C dX4_moved_12 rfl 2 rfl 13 rfl ?_
        obtain ⟨r2, hr2, hf⟩ := bnd hf
        refine j_callVi (As := [.int b2]) (rest := [.int b1]) C (c_X4_isMoved l g sz x S  b2 _ hr2) (j_cwV C qc_X4_isMoved qm_X4_162 qi_X4_isMoved qs_X4_isMoved qn_X4 hd_X4_isMoved ⟨rfl, rfl⟩ ⟨by decide, by decide⟩) (rcv_mo.cell C.2) rfl (Nat.le_of_ble_eq_true rfl) dX4_moved_13 16 rfl ?_
        refine j_if_eq C dX4_moved_16 25 (by decide) 19 rfl (fun c3 => ?_) (fun c3 => ?_)
        · rw [if_pos c3] at hf
          refine j_iconst C dX4_moved_25 (v := 0) c_iconst_0 26 rfl ?_
          refine j_ior C dX4_moved_26 27 rfl ?_
          refine j_istore_n (lv2 := [(1, .int (b1 ||| 0)), (0, .ref (ad g 56)), (2, .int b2)]) C dX4_moved_27 rfl (by decide) rfl 28 rfl ?_
          refine j_iinc (lv2 := [(2, .int (b2 + 1)), (1, .int (b1 ||| 0)), (0, .ref (ad g 56))]) C dX4_moved_28 (k := 2) rfl (congrArg (HAdd.hAdd b2) c_oi_1) (by decide) rfl 31 rfl ?_
          refine j_goto C dX4_moved_31 4 (by decide) ?_
          refine j_sub [2, 1, 0] rfl ?_
          exact ih (b1 ||| 0) (b2 + 1) S hf
        · rw [if_neg c3] at hf
          refine j_iconst C dX4_moved_19 (v := 1) c_iconst_1 20 rfl ?_
          refine j_iload_n C dX4_moved_20 rfl 2 rfl 21 rfl ?_
          refine j_ishl C dX4_moved_21 22 rfl ?_
          refine j_goto C dX4_moved_22 26 (by decide) ?_
          refine j_ior C dX4_moved_26 27 rfl ?_
          refine j_istore_n (lv2 := [(1, .int (b1 ||| (shl32 1 b2))), (0, .ref (ad g 56)), (2, .int b2)]) C dX4_moved_27 rfl (by decide) rfl 28 rfl ?_
          refine j_iinc (lv2 := [(2, .int (b2 + 1)), (1, .int (b1 ||| (shl32 1 b2))), (0, .ref (ad g 56))]) C dX4_moved_28 (k := 2) rfl (congrArg (HAdd.hAdd b2) c_oi_1) (by decide) rfl 31 rfl ?_
          refine j_goto C dX4_moved_31 4 (by decide) ?_
          refine j_sub [2, 1, 0] rfl ?_
          exact ih (b1 ||| (shl32 1 b2)) (b2 + 1) S hf
  unfold X4_moved at hf
  refine j_iconst C dX4_moved_0 (v := 0) c_iconst_0 1 rfl ?_
  refine j_istore_n (lv2 := [(1, .int 0), (0, .ref (ad g 56))]) C dX4_moved_1 rfl (by decide) rfl 2 rfl ?_
  refine j_iconst C dX4_moved_2 (v := 0) c_iconst_0 3 rfl ?_
  refine j_istore_n (lv2 := [(2, .int 0), (1, .int 0), (0, .ref (ad g 56))]) C dX4_moved_3 rfl (by decide) rfl 4 rfl ?_
  refine j_sub [2, 1, 0] rfl ?_
  exact hL4 FU 0 0 S hf
set_option maxRecDepth 100000 in
set_option maxHeartbeats 4000000 in
theorem c_X4_leaning (l : Launch) (g : GG) (sz : Nat) (x S : St) (r : Int32) (hf : X4_leaning S = some r) : Met l yX4_leaning (.code yX4_leaning cX4_leaning 4 (some .int) :: ALLW) (rmJ 3 67) (PcJ g sz x S [.ref (ad g 56)]) (QiJ g sz r x S) 0 0 (Ag sz) := by
  refine j_met (own := RX4) (by decide) rfl (Nat.le_of_ble_eq_true rfl) rfl ?_
  intro p e s m args below meth c C hr hlk
  have hL12 : ∀ (k4 : Int32 → Int32 → St → Option Int32) (_ : ∀ (b1 : Int32) (b2 : Int32) (S : St), k4 b1 b2 S = some r → Wj p l e (rmJ 3 67) s m args below meth c (MQ below (QiJ g sz r x S) args s 0 0 (Ag sz)) 4 g sz x S 4 [(0, .ref (ad g 56)), (1, .int b1), (2, .int b2)] []), ∀ (n : Nat), ∀ (b1 : Int32) (b2 : Int32) (b3 : Int32) (S : St), X4_leaning_L12 k4 n b1 b2 b3 S = some r → Wj p l e (rmJ 3 67) s m args below meth c (MQ below (QiJ g sz r x S) args s 0 0 (Ag sz)) 4 g sz x S 12 [(0, .ref (ad g 56)), (1, .int b1), (2, .int b2), (3, .int b3)] [] := by
    intro k4 hk4 n
    induction n with
    | zero =>
      intro b1 b2 b3 S hf
      rw [X4_leaning_L12] at hf
      cases hf
    | succ n ih =>
      intro b1 b2 b3 S hf
      rw [X4_leaning_L12] at hf
      refine j_iload_n C dX4_leaning_12 rfl 3 rfl 13 rfl ?_
      refine j_bipush C dX4_leaning_13 (v := 6) c_bipush_6 15 rfl ?_
      refine j_icmp_ge C dX4_leaning_15 41 (by decide) 18 rfl (fun c2 => ?_) (fun c2 => ?_)
      · rw [if_pos c2] at hf
        refine j_iinc (lv2 := [(2, .int (b2 + 1)), (0, .ref (ad g 56)), (1, .int b1), (3, .int b3)]) C dX4_leaning_41 (k := 2) rfl (congrArg (HAdd.hAdd b2) c_oi_1) (by decide) rfl 44 rfl ?_
        refine j_goto C dX4_leaning_44 4 (by decide) ?_
        refine j_sub [1, 2, 0] rfl ?_
        exact hk4 b1 (b2 + 1) S hf
      · rw [if_neg c2] at hf
        refine j_iload_n C dX4_leaning_18 rfl 1 rfl 19 rfl ?_
        refine j_aload_n C dX4_leaning_19 rfl 0 rfl 20 rfl ?_
        refine j_iload_n C dX4_leaning_20 rfl 2 rfl 21 rfl ?_
        refine j_iload_n C dX4_leaning_21 rfl 3 rfl 22 rfl ?_
        obtain ⟨r3, hr3, hf⟩ := bnd hf
        refine j_callVi (As := [.int b2, .int b3]) (rest := [.int b1]) C (c_X4_isLeaning l g sz x S  b2 b3 _ hr3) (j_cwV C qc_X4_isLeaning qm_X4_168 qi_X4_isLeaning qs_X4_isLeaning qn_X4 hd_X4_isLeaning ⟨rfl, rfl⟩ ⟨by decide, by decide⟩) (rcv_mo.cell C.2) rfl (Nat.le_of_ble_eq_true rfl) dX4_leaning_22 25 rfl ?_
        refine j_if_eq C dX4_leaning_25 32 (by decide) 28 rfl (fun c4 => ?_) (fun c4 => ?_)
        · rw [if_pos c4] at hf
          refine j_iconst C dX4_leaning_32 (v := 0) c_iconst_0 33 rfl ?_
          refine j_iadd C dX4_leaning_33 34 rfl ?_
          refine j_istore_n (lv2 := [(1, .int (b1 + 0)), (0, .ref (ad g 56)), (2, .int b2), (3, .int b3)]) C dX4_leaning_34 rfl (by decide) rfl 35 rfl ?_
          refine j_iinc (lv2 := [(3, .int (b3 + 1)), (1, .int (b1 + 0)), (0, .ref (ad g 56)), (2, .int b2)]) C dX4_leaning_35 (k := 3) rfl (congrArg (HAdd.hAdd b3) c_oi_1) (by decide) rfl 38 rfl ?_
          refine j_goto C dX4_leaning_38 12 (by decide) ?_
          refine j_sub [2, 1, 3, 0] rfl ?_
          exact ih (b1 + 0) b2 (b3 + 1) S hf
        · rw [if_neg c4] at hf
          refine j_iconst C dX4_leaning_28 (v := 1) c_iconst_1 29 rfl ?_
          refine j_goto C dX4_leaning_29 33 (by decide) ?_
          refine j_iadd C dX4_leaning_33 34 rfl ?_
          refine j_istore_n (lv2 := [(1, .int (b1 + 1)), (0, .ref (ad g 56)), (2, .int b2), (3, .int b3)]) C dX4_leaning_34 rfl (by decide) rfl 35 rfl ?_
          refine j_iinc (lv2 := [(3, .int (b3 + 1)), (1, .int (b1 + 1)), (0, .ref (ad g 56)), (2, .int b2)]) C dX4_leaning_35 (k := 3) rfl (congrArg (HAdd.hAdd b3) c_oi_1) (by decide) rfl 38 rfl ?_
          refine j_goto C dX4_leaning_38 12 (by decide) ?_
          refine j_sub [2, 1, 3, 0] rfl ?_
          exact ih (b1 + 1) b2 (b3 + 1) S hf
  have hL4 : ∀ (n : Nat), ∀ (b1 : Int32) (b2 : Int32) (S : St), X4_leaning_L4 n b1 b2 S = some r → Wj p l e (rmJ 3 67) s m args below meth c (MQ below (QiJ g sz r x S) args s 0 0 (Ag sz)) 4 g sz x S 4 [(0, .ref (ad g 56)), (1, .int b1), (2, .int b2)] [] := by
    intro  n
    induction n with
    | zero =>
      intro b1 b2 S hf
      rw [X4_leaning_L4] at hf
      cases hf
    | succ n ih =>
      intro b1 b2 S hf
      rw [X4_leaning_L4] at hf
      refine j_iload_n C dX4_leaning_4 rfl 2 rfl 5 rfl ?_
      refine j_bipush C dX4_leaning_5 (v := 7) c_bipush_7 7 rfl ?_
      refine j_icmp_ge C dX4_leaning_7 47 (by decide) 10 rfl (fun c1 => ?_) (fun c1 => ?_)
      · rw [if_pos c1] at hf
        refine j_iload_n C dX4_leaning_47 rfl 1 rfl 48 rfl ?_
        obtain rfl := Option.some.inj hf
        exact j_iret C hr hlk dX4_leaning_48
      · rw [if_neg c1] at hf
        refine j_iconst C dX4_leaning_10 (v := 0) c_iconst_0 11 rfl ?_
        refine j_istore_n (lv2 := [(3, .int 0), (0, .ref (ad g 56)), (1, .int b1), (2, .int b2)]) C dX4_leaning_11 rfl (by decide) rfl 12 rfl ?_
        refine j_sub [1, 2, 3, 0] rfl ?_
        exact hL12 _ ih FU b1 b2 0 S hf
  unfold X4_leaning at hf
  refine j_iconst C dX4_leaning_0 (v := 0) c_iconst_0 1 rfl ?_
  refine j_istore_n (lv2 := [(1, .int 0), (0, .ref (ad g 56))]) C dX4_leaning_1 rfl (by decide) rfl 2 rfl ?_
  refine j_iconst C dX4_leaning_2 (v := 0) c_iconst_0 3 rfl ?_
  refine j_istore_n (lv2 := [(2, .int 0), (1, .int 0), (0, .ref (ad g 56))]) C dX4_leaning_3 rfl (by decide) rfl 4 rfl ?_
  refine j_sub [2, 1, 0] rfl ?_
  exact hL4 FU 0 0 S hf
set_option maxRecDepth 100000 in
set_option maxHeartbeats 4000000 in
theorem c_X4_bits (l : Launch) (g : GG) (sz : Nat) (x mm : St) (a0 : Int32) (r : Int32) (hf : X4_bits a0 = some r) : Met l yX4_bits (.code yX4_bits cX4_bits 3 (some .int) :: ALLW) (rmJ 0 0) (PcJ g sz x mm [.int a0]) (QiJ g sz r x mm) 0 0 (Ag sz) := by
  refine j_met (own := RX4) (by decide) rfl (Nat.le_of_ble_eq_true rfl) rfl ?_
  intro p e s m args below meth c C hr hlk
  have hL4 : ∀ (n : Nat), ∀ (b1 : Int32) (b2 : Int32), X4_bits_L4 n b1 b2 = some r → Wj p l e (rmJ 0 0) s m args below meth c (MQ below (QiJ g sz r x mm) args s 0 0 (Ag sz)) 3 g sz x mm 4 [(1, .int b1), (2, .int b2)] [] := by
    intro  n
    induction n with
    | zero =>
      intro b1 b2 hf
      rw [X4_bits_L4] at hf
      cases hf
    | succ n ih =>
      intro b1 b2 hf
      rw [X4_bits_L4] at hf
      refine j_iload_n C dX4_bits_4 rfl 1 rfl 5 rfl ?_
      refine j_if_eq C dX4_bits_5 20 (by decide) 8 rfl (fun c1 => ?_) (fun c1 => ?_)
      · rw [if_pos c1] at hf
        refine j_iload_n C dX4_bits_20 rfl 0 rfl 21 rfl ?_
        obtain rfl := Option.some.inj hf
        exact j_iret C hr hlk dX4_bits_21
      · rw [if_neg c1] at hf
        refine j_iinc (lv2 := [(1, .int (b1 + 1)), (2, .int b2)]) C dX4_bits_8 (k := 0) rfl (congrArg (HAdd.hAdd b1) c_oi_1) (by decide) rfl 11 rfl ?_
        refine j_iload_n C dX4_bits_11 rfl 1 rfl 12 rfl ?_
        refine j_iload_n C dX4_bits_12 rfl 1 rfl 13 rfl ?_
        refine j_iconst C dX4_bits_13 (v := 1) c_iconst_1 14 rfl ?_
        refine j_isub C dX4_bits_14 15 rfl ?_
        refine j_iand C dX4_bits_15 16 rfl ?_
        refine j_istore_n (lv2 := [(2, .int (b2 &&& (b2 - 1))), (1, .int (b1 + 1))]) C dX4_bits_16 rfl (by decide) rfl 17 rfl ?_
        refine j_goto C dX4_bits_17 4 (by decide) ?_
        refine j_sub [1, 0] rfl ?_
        exact ih (b1 + 1) (b2 &&& (b2 - 1)) hf
  unfold X4_bits at hf
  refine j_iconst C dX4_bits_0 (v := 0) c_iconst_0 1 rfl ?_
  refine j_istore_n (lv2 := [(1, .int 0), (0, .int a0)]) C dX4_bits_1 rfl (by decide) rfl 2 rfl ?_
  refine j_iload_n C dX4_bits_2 rfl 1 rfl 3 rfl ?_
  refine j_istore_n (lv2 := [(2, .int a0), (1, .int 0), (0, .int a0)]) C dX4_bits_3 rfl (by decide) rfl 4 rfl ?_
  refine j_sub [1, 0] rfl ?_
  exact hL4 FU 0 a0 hf
set_option maxRecDepth 100000 in
set_option maxHeartbeats 4000000 in
theorem c_X4_highest (l : Launch) (g : GG) (sz : Nat) (x S : St) (r : Int32) (hf : X4_highest S = some r) : Met l yX4_highest (.code yX4_highest cX4_highest 3 (some .int) :: ALLW) (rmJ 1 21) (PcJ g sz x S [.ref (ad g 56)]) (QiJ g sz r x S) 0 0 (Ag sz) := by
  refine j_met (own := RX4) (by decide) rfl (Nat.le_of_ble_eq_true rfl) rfl ?_
  intro p e s m args below meth c C hr hlk
  have hL4 : ∀ (n : Nat), ∀ (b1 : Int32) (b2 : Int32) (S : St), X4_highest_L4 n b1 b2 S = some r → Wj p l e (rmJ 1 21) s m args below meth c (MQ below (QiJ g sz r x S) args s 0 0 (Ag sz)) 3 g sz x S 4 [(0, .ref (ad g 56)), (1, .int b1), (2, .int b2)] [] := by
    intro  n
    induction n with
    | zero =>
      intro b1 b2 S hf
      rw [X4_highest_L4] at hf
      cases hf
    | succ n ih =>
      intro b1 b2 S hf
      rw [X4_highest_L4] at hf
      refine j_iload_n C dX4_highest_4 rfl 2 rfl 5 rfl ?_
      refine j_bipush C dX4_highest_5 (v := 42) c_bipush_42 7 rfl ?_
      refine j_icmp_ge C dX4_highest_7 26 (by decide) 10 rfl (fun c1 => ?_) (fun c1 => ?_)
      · rw [if_pos c1] at hf
        refine j_iload_n C dX4_highest_26 rfl 1 rfl 27 rfl ?_
        obtain rfl := Option.some.inj hf
        exact j_iret C hr hlk dX4_highest_27
      · rw [if_neg c1] at hf
        refine j_iload_n C dX4_highest_10 rfl 1 rfl 11 rfl ?_
        refine j_aload_n C dX4_highest_11 rfl 0 rfl 12 rfl ?_
        refine j_iload_n C dX4_highest_12 rfl 2 rfl 13 rfl ?_
        obtain ⟨r2, hr2, hf⟩ := bnd hf
        refine j_callVi (As := [.int b2]) (rest := [.int b1]) C (c_X4_highOf l g sz x S  b2 _ hr2) (j_cwV C qc_X4_highOf qm_X4_85 qi_X4_highOf qs_X4_highOf qn_X4 hd_X4_highOf ⟨rfl, rfl⟩ ⟨by decide, by decide⟩) (rcv_mo.cell C.2) rfl (Nat.le_of_ble_eq_true rfl) dX4_highest_13 16 rfl ?_
        refine j_mmax C qm_X4_199 dX4_highest_16 (Nat.le_of_ble_eq_true rfl) (Nat.le_of_ble_eq_true rfl) 19 rfl ?_
        refine j_istore_n (lv2 := [(1, .int (mxI b1 r2)), (0, .ref (ad g 56)), (2, .int b2)]) C dX4_highest_19 rfl (by decide) rfl 20 rfl ?_
        refine j_iinc (lv2 := [(2, .int (b2 + 1)), (1, .int (mxI b1 r2)), (0, .ref (ad g 56))]) C dX4_highest_20 (k := 2) rfl (congrArg (HAdd.hAdd b2) c_oi_1) (by decide) rfl 23 rfl ?_
        refine j_goto C dX4_highest_23 4 (by decide) ?_
        refine j_sub [2, 1, 0] rfl ?_
        exact ih (mxI b1 r2) (b2 + 1) S hf
  unfold X4_highest at hf
  refine j_iconst C dX4_highest_0 (v := 0) c_iconst_0 1 rfl ?_
  refine j_istore_n (lv2 := [(1, .int 0), (0, .ref (ad g 56))]) C dX4_highest_1 rfl (by decide) rfl 2 rfl ?_
  refine j_iconst C dX4_highest_2 (v := 0) c_iconst_0 3 rfl ?_
  refine j_istore_n (lv2 := [(2, .int 0), (1, .int 0), (0, .ref (ad g 56))]) C dX4_highest_3 rfl (by decide) rfl 4 rfl ?_
  refine j_sub [2, 1, 0] rfl ?_
  exact hL4 FU 0 0 S hf
set_option maxRecDepth 100000 in
set_option maxHeartbeats 4000000 in
theorem c_X4_ahead (l : Launch) (g : GG) (sz : Nat) (x S : St) (a1 : Int32) (a2 : Int32) (r : Int32) (S' : St) (hf : X4_ahead a1 a2 S = some (r, S')) : Met l yX4_ahead (.code yX4_ahead cX4_ahead 5 (some .int) :: ALLW) (rmJ 7 155) (PcJ g sz x S [.ref (ad g 56), .int a1, .int a2]) (QiJ g sz r x S') 0 0 (Ag sz) := by
  refine j_met (own := RX4) (by decide) rfl (Nat.le_of_ble_eq_true rfl) rfl ?_
  intro p e s m args below meth c C hr hlk
  unfold X4_ahead at hf
  refine j_iload_n C dX4_ahead_0 rfl 1 rfl 1 rfl ?_
  refine j_iconst C dX4_ahead_1 (v := 0) c_iconst_0 2 rfl ?_
  refine j_bipush C dX4_ahead_2 (v := 60) c_bipush_60 4 rfl ?_
  refine j_callSi (As := [.int a1, .int 0, .int 60]) (rest := []) C (c_X4_within l g sz x S a1 0 60 _ rfl) (j_cwS C qc_X4_within qm_X4_77 qs_X4_within qn_X4 hd_X4_within ⟨rfl, rfl⟩ ⟨by decide, by decide⟩)  rfl (Nat.le_of_ble_eq_true rfl) dX4_ahead_4 7 rfl ?_
  refine j_if_eq C dX4_ahead_7 19 (by decide) 10 rfl (fun c1 => ?_) (fun c1 => ?_)
  · rw [if_pos c1] at hf
    refine j_aload_n C dX4_ahead_19 rfl 0 rfl 20 rfl ?_
    refine j_ldc C dX4_ahead_20 qk_X4_72 22 rfl ?_
    obtain ⟨⟨r3, S4⟩, hq2, hf⟩ := bnd hf
    dsimp only at hf
    refine j_callVi (As := [.int (-1000001)]) (rest := []) C (c_X4_finding l g sz x S  (-1000001) _ _ hq2) (j_cwV C qc_X4_finding qm_X4_99 qi_X4_finding qs_X4_finding qn_X4 hd_X4_finding ⟨rfl, rfl⟩ ⟨by decide, by decide⟩) (rcv_mo.cell C.2) rfl (Nat.le_of_ble_eq_true rfl) dX4_ahead_22 25 rfl ?_
    obtain ⟨rfl, rfl⟩ := Prod.mk.inj (Option.some.inj hf)
    exact j_iret C hr hlk dX4_ahead_25
  · rw [if_neg c1] at hf
    refine j_iload_n C dX4_ahead_10 rfl 2 rfl 11 rfl ?_
    refine j_iconst C dX4_ahead_11 (v := 0) c_iconst_0 12 rfl ?_
    refine j_iconst C dX4_ahead_12 (v := 3) c_iconst_3 13 rfl ?_
    refine j_callSi (As := [.int a2, .int 0, .int 3]) (rest := []) C (c_X4_within l g sz x S a2 0 3 _ rfl) (j_cwS C qc_X4_within qm_X4_77 qs_X4_within qn_X4 hd_X4_within ⟨rfl, rfl⟩ ⟨by decide, by decide⟩)  rfl (Nat.le_of_ble_eq_true rfl) dX4_ahead_13 16 rfl ?_
    refine j_if_ne C dX4_ahead_16 26 (by decide) 19 rfl (fun c5 => ?_) (fun c5 => ?_)
    · rw [if_neg c5] at hf
      refine j_aload_n C dX4_ahead_26 rfl 0 rfl 27 rfl ?_
      refine j_iload_n C dX4_ahead_27 rfl 1 rfl 28 rfl ?_
      obtain ⟨r6, hr6, hf⟩ := bnd hf
      refine j_callVi (As := [.int a1]) (rest := []) C (c_X4_isTooLate l g sz x S  a1 _ hr6) (j_cwV C qc_X4_isTooLate qm_X4_193 qi_X4_isTooLate qs_X4_isTooLate qn_X4 hd_X4_isTooLate ⟨rfl, rfl⟩ ⟨by decide, by decide⟩) (rcv_mo.cell C.2) rfl (Nat.le_of_ble_eq_true rfl) dX4_ahead_28 31 rfl ?_
      refine j_if_eq C dX4_ahead_31 41 (by decide) 34 rfl (fun c7 => ?_) (fun c7 => ?_)
      · rw [if_pos c7] at hf
        refine j_aload_n C dX4_ahead_41 rfl 0 rfl 42 rfl ?_
        refine j4_get C 0 (by decide) qf_X4_9 (v := .ref (ad g 57)) rfl dX4_ahead_42 45 rfl ?_
        refine j_aload_n C dX4_ahead_45 rfl 0 rfl 46 rfl ?_
        refine j4_get C 2 (by decide) qf_X4_16 (v := .ref (ad g 59)) rfl dX4_ahead_46 49 rfl ?_
        obtain ⟨S8, hS8, hf⟩ := bnd hf
        refine j_callSv (As := [.ref (ad g 57), .ref (ad g 59)]) (rest := []) C (c_X4_copyRow l g sz x S  1 rfl 3 rfl _ hS8) (j_cwS C qc_X4_copyRow qm_X4_73 qs_X4_copyRow qn_X4 hd_X4_copyRow ⟨rfl, rfl⟩ ⟨by decide, by decide⟩)  rfl (Nat.le_of_ble_eq_true rfl) dX4_ahead_49 52 rfl ?_
        refine j_aload_n C dX4_ahead_52 rfl 0 rfl 53 rfl ?_
        refine j_bipush C dX4_ahead_53 (v := 101) c_bipush_101 55 rfl ?_
        obtain ⟨r9, hr9, hf⟩ := bnd hf
        refine j_callVi (As := [.int 101]) (rest := []) C (c_X4_setOf l g sz x S8  101 _ hr9) (j_cwV C qc_X4_setOf qm_X4_177 qi_X4_setOf qs_X4_setOf qn_X4 hd_X4_setOf ⟨rfl, rfl⟩ ⟨by decide, by decide⟩) (rcv_mo.cell C.2) rfl (Nat.le_of_ble_eq_true rfl) dX4_ahead_55 58 rfl ?_
        refine j_istore_n (lv2 := [(3, .int r9), (0, .ref (ad g 56)), (1, .int a1), (2, .int a2)]) C dX4_ahead_58 rfl (by decide) rfl 59 rfl ?_
        refine j_aload_n C dX4_ahead_59 rfl 1 rfl 60 rfl ?_
        refine j_iload_n C dX4_ahead_60 rfl 2 rfl 61 rfl ?_
        obtain ⟨⟨r11, S12⟩, hq10, hf⟩ := bnd hf
        dsimp only at hf
        refine j_callVi (As := [.int a1]) (rest := []) C (c_X4_beatsGo l g sz x S8  a1 _ _ hq10) (j_cwV C qc_X4_beatsGo qm_X4_196 qi_X4_beatsGo qs_X4_beatsGo qn_X4 hd_X4_beatsGo ⟨rfl, rfl⟩ ⟨by decide, by decide⟩) (rcv_mo.cell C.2) rfl (Nat.le_of_ble_eq_true rfl) dX4_ahead_61 64 rfl ?_
        refine j_istore (lv2 := [(4, .int r11), (3, .int r9), (0, .ref (ad g 56)), (1, .int a1), (2, .int a2)]) C dX4_ahead_64 (by decide) rfl 66 rfl ?_
        refine j_aload_n C dX4_ahead_66 rfl 2 rfl 67 rfl ?_
        refine j_iload_n C dX4_ahead_67 rfl 4 rfl 68 rfl ?_
        refine j_if_ne C dX4_ahead_68 88 (by decide) 71 rfl (fun c13 => ?_) (fun c13 => ?_)
        · rw [if_neg c13] at hf
          refine j_iload_n C dX4_ahead_88 rfl 4 rfl 89 rfl ?_
          refine j_iconst C dX4_ahead_89 (v := 1) c_iconst_1 90 rfl ?_
          refine j_icmp_ne C dX4_ahead_90 98 (by decide) 93 rfl (fun c14 => ?_) (fun c14 => ?_)
          · rw [if_neg c14] at hf
            refine j_iload_n C dX4_ahead_98 rfl 4 rfl 99 rfl ?_
            refine j_iconst C dX4_ahead_99 (v := 2) c_iconst_2 100 rfl ?_
            refine j_icmp_ne C dX4_ahead_100 110 (by decide) 103 rfl (fun c15 => ?_) (fun c15 => ?_)
            · rw [if_neg c15] at hf
              refine j_aload_n C dX4_ahead_110 rfl 2 rfl 111 rfl ?_
              obtain ⟨r16, hr16, hf⟩ := bnd hf
              refine j_callVi (As := []) (rest := [.ref (ad g 56)]) C (c_X4_highest l g sz x S12   _ hr16) (j_cwV C qc_X4_highest qm_X4_207 qi_X4_highest qs_X4_highest qn_X4 hd_X4_highest ⟨rfl, rfl⟩ ⟨by decide, by decide⟩) (rcv_mo.cell C.2) rfl (Nat.le_of_ble_eq_true rfl) dX4_ahead_111 114 rfl ?_
              obtain ⟨⟨r18, S19⟩, hq17, hf⟩ := bnd hf
              dsimp only at hf
              refine j_callVi (As := [.int r16]) (rest := []) C (c_X4_putBack l g sz x S12  r16 _ _ hq17) (j_cwV C qc_X4_putBack qm_X4_210 qi_X4_putBack qs_X4_putBack qn_X4 hd_X4_putBack ⟨rfl, rfl⟩ ⟨by decide, by decide⟩) (rcv_mo.cell C.2) rfl (Nat.le_of_ble_eq_true rfl) dX4_ahead_114 117 rfl ?_
              obtain ⟨rfl, rfl⟩ := Prod.mk.inj (Option.some.inj hf)
              exact j_iret C hr hlk dX4_ahead_117
            · rw [if_pos c15] at hf
              refine j_aload_n C dX4_ahead_103 rfl 2 rfl 104 rfl ?_
              obtain ⟨r20, hr20, hf⟩ := bnd hf
              refine j_callVi (As := []) (rest := [.ref (ad g 56)]) C (c_X4_shelf l g sz x S12   _ hr20) (j_cwV C qc_X4_shelf qm_X4_204 qi_X4_shelf qs_X4_shelf qn_X4 hd_X4_shelf ⟨rfl, rfl⟩ ⟨by decide, by decide⟩) (rcv_mo.cell C.2) rfl (Nat.le_of_ble_eq_true rfl) dX4_ahead_104 107 rfl ?_
              refine j_goto C dX4_ahead_107 114 (by decide) ?_
              obtain ⟨⟨r22, S23⟩, hq21, hf⟩ := bnd hf
              dsimp only at hf
              refine j_callVi (As := [.int r20]) (rest := []) C (c_X4_putBack l g sz x S12  r20 _ _ hq21) (j_cwV C qc_X4_putBack qm_X4_210 qi_X4_putBack qs_X4_putBack qn_X4 hd_X4_putBack ⟨rfl, rfl⟩ ⟨by decide, by decide⟩) (rcv_mo.cell C.2) rfl (Nat.le_of_ble_eq_true rfl) dX4_ahead_114 117 rfl ?_
              obtain ⟨rfl, rfl⟩ := Prod.mk.inj (Option.some.inj hf)
              exact j_iret C hr hlk dX4_ahead_117
          · rw [if_pos c14] at hf
            refine j_iload C dX4_ahead_93 0 rfl 95 rfl ?_
            refine j_goto C dX4_ahead_95 114 (by decide) ?_
            obtain ⟨⟨r25, S26⟩, hq24, hf⟩ := bnd hf
            dsimp only at hf
            refine j_callVi (As := [.int r11]) (rest := []) C (c_X4_putBack l g sz x S12  r11 _ _ hq24) (j_cwV C qc_X4_putBack qm_X4_210 qi_X4_putBack qs_X4_putBack qn_X4 hd_X4_putBack ⟨rfl, rfl⟩ ⟨by decide, by decide⟩) (rcv_mo.cell C.2) rfl (Nat.le_of_ble_eq_true rfl) dX4_ahead_114 117 rfl ?_
            obtain ⟨rfl, rfl⟩ := Prod.mk.inj (Option.some.inj hf)
            exact j_iret C hr hlk dX4_ahead_117
        · rw [if_pos c13] at hf
          refine j_aload_n C dX4_ahead_71 rfl 2 rfl 72 rfl ?_
          refine j_aload_n C dX4_ahead_72 rfl 2 rfl 73 rfl ?_
          refine j_bipush C dX4_ahead_73 (v := 101) c_bipush_101 75 rfl ?_
          obtain ⟨r27, hr27, hf⟩ := bnd hf
          refine j_callVi (As := [.int 101]) (rest := [.ref (ad g 56), .ref (ad g 56)]) C (c_X4_setOf l g sz x S12  101 _ hr27) (j_cwV C qc_X4_setOf qm_X4_177 qi_X4_setOf qs_X4_setOf qn_X4 hd_X4_setOf ⟨rfl, rfl⟩ ⟨by decide, by decide⟩) (rcv_mo.cell C.2) rfl (Nat.le_of_ble_eq_true rfl) dX4_ahead_75 78 rfl ?_
          refine j_iload_n C dX4_ahead_78 rfl 1 rfl 79 rfl ?_
          refine j_iconst C dX4_ahead_79 (v := (-1)) c_iconst_m1 80 rfl ?_
          refine j_ixor C dX4_ahead_80 81 rfl ?_
          refine j_iand C dX4_ahead_81 82 rfl ?_
          obtain ⟨r28, hr28, hf⟩ := bnd hf
          refine j_callVi (As := [.int (r27 &&& (r9 ^^^ (-1)))]) (rest := [.ref (ad g 56)]) C (c_X4_worthOf l g sz x S12  (r27 &&& (r9 ^^^ (-1))) _ hr28) (j_cwV C qc_X4_worthOf qm_X4_180 qi_X4_worthOf qs_X4_worthOf qn_X4 hd_X4_worthOf ⟨rfl, rfl⟩ ⟨by decide, by decide⟩) (rcv_mo.cell C.2) rfl (Nat.le_of_ble_eq_true rfl) dX4_ahead_82 85 rfl ?_
          refine j_goto C dX4_ahead_85 114 (by decide) ?_
          obtain ⟨⟨r30, S31⟩, hq29, hf⟩ := bnd hf
          dsimp only at hf
          refine j_callVi (As := [.int r28]) (rest := []) C (c_X4_putBack l g sz x S12  r28 _ _ hq29) (j_cwV C qc_X4_putBack qm_X4_210 qi_X4_putBack qs_X4_putBack qn_X4 hd_X4_putBack ⟨rfl, rfl⟩ ⟨by decide, by decide⟩) (rcv_mo.cell C.2) rfl (Nat.le_of_ble_eq_true rfl) dX4_ahead_114 117 rfl ?_
          obtain ⟨rfl, rfl⟩ := Prod.mk.inj (Option.some.inj hf)
          exact j_iret C hr hlk dX4_ahead_117
      · rw [if_neg c7] at hf
        refine j_aload_n C dX4_ahead_34 rfl 0 rfl 35 rfl ?_
        refine j_ldc C dX4_ahead_35 qk_X4_137 37 rfl ?_
        obtain ⟨⟨r33, S34⟩, hq32, hf⟩ := bnd hf
        dsimp only at hf
        refine j_callVi (As := [.int (-1000005)]) (rest := []) C (c_X4_finding l g sz x S  (-1000005) _ _ hq32) (j_cwV C qc_X4_finding qm_X4_99 qi_X4_finding qs_X4_finding qn_X4 hd_X4_finding ⟨rfl, rfl⟩ ⟨by decide, by decide⟩) (rcv_mo.cell C.2) rfl (Nat.le_of_ble_eq_true rfl) dX4_ahead_37 40 rfl ?_
        obtain ⟨rfl, rfl⟩ := Prod.mk.inj (Option.some.inj hf)
        exact j_iret C hr hlk dX4_ahead_40
    · rw [if_pos c5] at hf
      refine j_aload_n C dX4_ahead_19 rfl 0 rfl 20 rfl ?_
      refine j_ldc C dX4_ahead_20 qk_X4_72 22 rfl ?_
      obtain ⟨⟨r36, S37⟩, hq35, hf⟩ := bnd hf
      dsimp only at hf
      refine j_callVi (As := [.int (-1000001)]) (rest := []) C (c_X4_finding l g sz x S  (-1000001) _ _ hq35) (j_cwV C qc_X4_finding qm_X4_99 qi_X4_finding qs_X4_finding qn_X4 hd_X4_finding ⟨rfl, rfl⟩ ⟨by decide, by decide⟩) (rcv_mo.cell C.2) rfl (Nat.le_of_ble_eq_true rfl) dX4_ahead_22 25 rfl ?_
      obtain ⟨rfl, rfl⟩ := Prod.mk.inj (Option.some.inj hf)
      exact j_iret C hr hlk dX4_ahead_25
set_option maxRecDepth 100000 in
set_option maxHeartbeats 4000000 in
theorem c_X4_falls (l : Launch) (g : GG) (sz : Nat) (x S : St) (a1 : Int32) (r : Int32) (S' : St) (hf : X4_falls a1 S = some (r, S')) : Met l yX4_falls (.code yX4_falls cX4_falls 3 (some .int) :: ALLW) (rmJ 6 132) (PcJ g sz x S [.ref (ad g 56), .int a1]) (QiJ g sz r x S') 0 0 (Ag sz) := by
  refine j_met (own := RX4) (by decide) rfl (Nat.le_of_ble_eq_true rfl) rfl ?_
  intro p e s m args below meth c C hr hlk
  have hL76 : ∀ (b2 : Int32) (S : St), X4_falls_L76 b2 S = some (r, S') → Wj p l e (rmJ 6 132) s m args below meth c (MQ below (QiJ g sz r x S') args s 0 0 (Ag sz)) 3 g sz x S 76 [(0, .ref (ad g 56)), (2, .int b2)] [] := by
    intro  b2 S hf
    unfold X4_falls_L76 at hf
    refine j_aload_n C dX4_falls_76 rfl 0 rfl 77 rfl ?_
    refine j_iload_n C dX4_falls_77 rfl 1 rfl 78 rfl ?_
    obtain ⟨⟨r13, S14⟩, hq12, hf⟩ := bnd hf
    dsimp only at hf
    refine j_callVi (As := [.int b2]) (rest := []) C (c_X4_putBack l g sz x S  b2 _ _ hq12) (j_cwV C qc_X4_putBack qm_X4_210 qi_X4_putBack qs_X4_putBack qn_X4 hd_X4_putBack ⟨rfl, rfl⟩ ⟨by decide, by decide⟩) (rcv_mo.cell C.2) rfl (Nat.le_of_ble_eq_true rfl) dX4_falls_78 81 rfl ?_
    refine j_bipush C dX4_falls_81 (v := 60) c_bipush_60 83 rfl ?_
    refine j_icmp_le C dX4_falls_83 95 (by decide) 86 rfl (fun c15 => ?_) (fun c15 => ?_)
    · rw [if_pos c15] at hf
      refine j_iload_n C dX4_falls_95 rfl 1 rfl 96 rfl ?_
      obtain ⟨rfl, rfl⟩ := Prod.mk.inj (Option.some.inj hf)
      exact j_iret C hr hlk dX4_falls_96
    · rw [if_neg c15] at hf
      refine j_aload_n C dX4_falls_86 rfl 0 rfl 87 rfl ?_
      refine j_ldc C dX4_falls_87 qk_X4_142 89 rfl ?_
      obtain ⟨⟨r17, S18⟩, hq16, hf⟩ := bnd hf
      dsimp only at hf
      refine j_callVi (As := [.int (-1000004)]) (rest := []) C (c_X4_finding l g sz x S14  (-1000004) _ _ hq16) (j_cwV C qc_X4_finding qm_X4_99 qi_X4_finding qs_X4_finding qn_X4 hd_X4_finding ⟨rfl, rfl⟩ ⟨by decide, by decide⟩) (rcv_mo.cell C.2) rfl (Nat.le_of_ble_eq_true rfl) dX4_falls_89 92 rfl ?_
      refine j_goto C dX4_falls_92 96 (by decide) ?_
      obtain ⟨rfl, rfl⟩ := Prod.mk.inj (Option.some.inj hf)
      exact j_iret C hr hlk dX4_falls_96
  have hL52 : ∀ (n : Nat), ∀ (b1 : Int32) (b2 : Int32) (S : St), X4_falls_L52 n b1 b2 S = some (r, S') → Wj p l e (rmJ 6 132) s m args below meth c (MQ below (QiJ g sz r x S') args s 0 0 (Ag sz)) 3 g sz x S 52 [(0, .ref (ad g 56)), (1, .int b1), (2, .int b2)] [] := by
    intro  n
    induction n with
    | zero =>
      intro b1 b2 S hf
      rw [X4_falls_L52] at hf
      cases hf
    | succ n ih =>
      intro b1 b2 S hf
      rw [X4_falls_L52] at hf
      refine j_iload_n C dX4_falls_52 rfl 2 rfl 53 rfl ?_
      refine j_bipush C dX4_falls_53 (v := 60) c_bipush_60 55 rfl ?_
      refine j_icmp_gt C dX4_falls_55 76 (by decide) 58 rfl (fun c11 => ?_) (fun c11 => ?_)
      · rw [if_pos c11] at hf
        refine j_sub [0, 2] rfl ?_
        exact hL76 b2 S hf
      · rw [if_neg c11] at hf
        refine j_aload_n C dX4_falls_58 rfl 0 rfl 59 rfl ?_
        refine j_iload_n C dX4_falls_59 rfl 1 rfl 60 rfl ?_
        obtain ⟨r19, hr19, hf⟩ := bnd hf
        refine j_callVi (As := [.int b1]) (rest := []) C (c_X4_isOnShelf l g sz x S  b1 _ hr19) (j_cwV C qc_X4_isOnShelf qm_X4_213 qi_X4_isOnShelf qs_X4_isOnShelf qn_X4 hd_X4_isOnShelf ⟨rfl, rfl⟩ ⟨by decide, by decide⟩) (rcv_mo.cell C.2) rfl (Nat.le_of_ble_eq_true rfl) dX4_falls_60 63 rfl ?_
        refine j_if_eq C dX4_falls_63 76 (by decide) 66 rfl (fun c20 => ?_) (fun c20 => ?_)
        · rw [if_pos c20] at hf
          refine j_sub [0, 2] rfl ?_
          exact hL76 b2 S hf
        · rw [if_neg c20] at hf
          refine j_aload_n C dX4_falls_66 rfl 0 rfl 67 rfl ?_
          obtain ⟨S21, hS21, hf⟩ := bnd hf
          refine j_callVv (As := []) (rest := []) C (c_X4_beat l g sz x S   _ hS21) (j_cwV C qc_X4_beat qm_X4_174 qi_X4_beat qs_X4_beat qn_X4 hd_X4_beat ⟨rfl, rfl⟩ ⟨by decide, by decide⟩) (rcv_mo.cell C.2) rfl (Nat.le_of_ble_eq_true rfl) dX4_falls_67 70 rfl ?_
          refine j_iinc (lv2 := [(2, .int (b2 + 1)), (0, .ref (ad g 56)), (1, .int b1)]) C dX4_falls_70 (k := 2) rfl (congrArg (HAdd.hAdd b2) c_oi_1) (by decide) rfl 73 rfl ?_
          refine j_goto C dX4_falls_73 52 (by decide) ?_
          refine j_sub [1, 2, 0] rfl ?_
          exact ih b1 (b2 + 1) S21 hf
  unfold X4_falls at hf
  refine j_aload_n C dX4_falls_0 rfl 0 rfl 1 rfl ?_
  refine j_iload_n C dX4_falls_1 rfl 1 rfl 2 rfl ?_
  obtain ⟨r1, hr1, hf⟩ := bnd hf
  refine j_callVi (As := [.int a1]) (rest := []) C (c_X4_isCoin l g sz x S  a1 _ hr1) (j_cwV C qc_X4_isCoin qm_X4_116 qi_X4_isCoin qs_X4_isCoin qn_X4 hd_X4_isCoin ⟨rfl, rfl⟩ ⟨by decide, by decide⟩) (rcv_mo.cell C.2) rfl (Nat.le_of_ble_eq_true rfl) dX4_falls_2 5 rfl ?_
  refine j_if_ne C dX4_falls_5 15 (by decide) 8 rfl (fun c2 => ?_) (fun c2 => ?_)
  · rw [if_neg c2] at hf
    refine j_aload_n C dX4_falls_15 rfl 0 rfl 16 rfl ?_
    refine j_iload_n C dX4_falls_16 rfl 1 rfl 17 rfl ?_
    obtain ⟨r3, hr3, hf⟩ := bnd hf
    refine j_callVi (As := [.int a1]) (rest := []) C (c_X4_isOnShelf l g sz x S  a1 _ hr3) (j_cwV C qc_X4_isOnShelf qm_X4_213 qi_X4_isOnShelf qs_X4_isOnShelf qn_X4 hd_X4_isOnShelf ⟨rfl, rfl⟩ ⟨by decide, by decide⟩) (rcv_mo.cell C.2) rfl (Nat.le_of_ble_eq_true rfl) dX4_falls_17 20 rfl ?_
    refine j_if_eq C dX4_falls_20 32 (by decide) 23 rfl (fun c4 => ?_) (fun c4 => ?_)
    · rw [if_pos c4] at hf
      refine j_aload_n C dX4_falls_32 rfl 0 rfl 33 rfl ?_
      refine j_ldc C dX4_falls_33 qk_X4_137 35 rfl ?_
      obtain ⟨⟨r6, S7⟩, hq5, hf⟩ := bnd hf
      dsimp only at hf
      refine j_callVi (As := [.int (-1000005)]) (rest := []) C (c_X4_finding l g sz x S  (-1000005) _ _ hq5) (j_cwV C qc_X4_finding qm_X4_99 qi_X4_finding qs_X4_finding qn_X4 hd_X4_finding ⟨rfl, rfl⟩ ⟨by decide, by decide⟩) (rcv_mo.cell C.2) rfl (Nat.le_of_ble_eq_true rfl) dX4_falls_35 38 rfl ?_
      obtain ⟨rfl, rfl⟩ := Prod.mk.inj (Option.some.inj hf)
      exact j_iret C hr hlk dX4_falls_38
    · rw [if_neg c4] at hf
      refine j_aload_n C dX4_falls_23 rfl 0 rfl 24 rfl ?_
      refine j_bipush C dX4_falls_24 (v := 60) c_bipush_60 26 rfl ?_
      obtain ⟨r8, hr8, hf⟩ := bnd hf
      refine j_callVi (As := [.int 60]) (rest := []) C (c_X4_isTooLate l g sz x S  60 _ hr8) (j_cwV C qc_X4_isTooLate qm_X4_193 qi_X4_isTooLate qs_X4_isTooLate qn_X4 hd_X4_isTooLate ⟨rfl, rfl⟩ ⟨by decide, by decide⟩) (rcv_mo.cell C.2) rfl (Nat.le_of_ble_eq_true rfl) dX4_falls_26 29 rfl ?_
      refine j_if_eq C dX4_falls_29 39 (by decide) 32 rfl (fun c9 => ?_) (fun c9 => ?_)
      · rw [if_pos c9] at hf
        refine j_aload_n C dX4_falls_39 rfl 0 rfl 40 rfl ?_
        refine j4_get C 0 (by decide) qf_X4_9 (v := .ref (ad g 57)) rfl dX4_falls_40 43 rfl ?_
        refine j_aload_n C dX4_falls_43 rfl 0 rfl 44 rfl ?_
        refine j4_get C 2 (by decide) qf_X4_16 (v := .ref (ad g 59)) rfl dX4_falls_44 47 rfl ?_
        obtain ⟨S10, hS10, hf⟩ := bnd hf
        refine j_callSv (As := [.ref (ad g 57), .ref (ad g 59)]) (rest := []) C (c_X4_copyRow l g sz x S  1 rfl 3 rfl _ hS10) (j_cwS C qc_X4_copyRow qm_X4_73 qs_X4_copyRow qn_X4 hd_X4_copyRow ⟨rfl, rfl⟩ ⟨by decide, by decide⟩)  rfl (Nat.le_of_ble_eq_true rfl) dX4_falls_47 50 rfl ?_
        refine j_iconst C dX4_falls_50 (v := 0) c_iconst_0 51 rfl ?_
        refine j_istore_n (lv2 := [(2, .int 0), (0, .ref (ad g 56)), (1, .int a1)]) C dX4_falls_51 rfl (by decide) rfl 52 rfl ?_
        refine j_sub [1, 2, 0] rfl ?_
        exact hL52 FU a1 0 S10 hf
      · rw [if_neg c9] at hf
        refine j_aload_n C dX4_falls_32 rfl 0 rfl 33 rfl ?_
        refine j_ldc C dX4_falls_33 qk_X4_137 35 rfl ?_
        obtain ⟨⟨r23, S24⟩, hq22, hf⟩ := bnd hf
        dsimp only at hf
        refine j_callVi (As := [.int (-1000005)]) (rest := []) C (c_X4_finding l g sz x S  (-1000005) _ _ hq22) (j_cwV C qc_X4_finding qm_X4_99 qi_X4_finding qs_X4_finding qn_X4 hd_X4_finding ⟨rfl, rfl⟩ ⟨by decide, by decide⟩) (rcv_mo.cell C.2) rfl (Nat.le_of_ble_eq_true rfl) dX4_falls_35 38 rfl ?_
        obtain ⟨rfl, rfl⟩ := Prod.mk.inj (Option.some.inj hf)
        exact j_iret C hr hlk dX4_falls_38
  · rw [if_pos c2] at hf
    refine j_aload_n C dX4_falls_8 rfl 0 rfl 9 rfl ?_
    refine j_ldc C dX4_falls_9 qk_X4_72 11 rfl ?_
    obtain ⟨⟨r26, S27⟩, hq25, hf⟩ := bnd hf
    dsimp only at hf
    refine j_callVi (As := [.int (-1000001)]) (rest := []) C (c_X4_finding l g sz x S  (-1000001) _ _ hq25) (j_cwV C qc_X4_finding qm_X4_99 qi_X4_finding qs_X4_finding qn_X4 hd_X4_finding ⟨rfl, rfl⟩ ⟨by decide, by decide⟩) (rcv_mo.cell C.2) rfl (Nat.le_of_ble_eq_true rfl) dX4_falls_11 14 rfl ?_
    obtain ⟨rfl, rfl⟩ := Prod.mk.inj (Option.some.inj hf)
    exact j_iret C hr hlk dX4_falls_14
set_option maxRecDepth 100000 in
set_option maxHeartbeats 4000000 in
theorem c_X4_rest (l : Launch) (g : GG) (sz : Nat) (x S : St) (r : Int32) (S' : St) (hf : X4_rest S = some (r, S')) : Met l yX4_rest (.code yX4_rest cX4_rest 4 (some .int) :: ALLW) (rmJ 6 132) (PcJ g sz x S [.ref (ad g 56)]) (QiJ g sz r x S') 0 0 (Ag sz) := by
  refine j_met (own := RX4) (by decide) rfl (Nat.le_of_ble_eq_true rfl) rfl ?_
  intro p e s m args below meth c C hr hlk
  have hL105 : ∀ (t0 : Int32) (S : St), X4_rest_L105 t0 S = some (r, S') → Wj p l e (rmJ 6 132) s m args below meth c (MQ below (QiJ g sz r x S') args s 0 0 (Ag sz)) 4 g sz x S 105 [(0, .ref (ad g 56))] [.int t0] := by
    intro  t0 S hf
    unfold X4_rest_L105 at hf
    refine j_istore_n (lv2 := [(3, .int t0), (0, .ref (ad g 56))]) C dX4_rest_105 rfl (by decide) rfl 106 rfl ?_
    refine j_aload_n C dX4_rest_106 rfl 1 rfl 107 rfl ?_
    refine j_iload_n C dX4_rest_107 rfl 0 rfl 108 rfl ?_
    obtain ⟨⟨r9, S10⟩, hq8, hf⟩ := bnd hf
    dsimp only at hf
    refine j_callVi (As := [.int t0]) (rest := []) C (c_X4_putBack l g sz x S  t0 _ _ hq8) (j_cwV C qc_X4_putBack qm_X4_210 qi_X4_putBack qs_X4_putBack qn_X4 hd_X4_putBack ⟨rfl, rfl⟩ ⟨by decide, by decide⟩) (rcv_mo.cell C.2) rfl (Nat.le_of_ble_eq_true rfl) dX4_rest_108 111 rfl ?_
    refine j_if_ge C dX4_rest_111 123 (by decide) 114 rfl (fun c11 => ?_) (fun c11 => ?_)
    · rw [if_pos c11] at hf
      refine j_iload_n C dX4_rest_123 rfl 0 rfl 124 rfl ?_
      obtain ⟨rfl, rfl⟩ := Prod.mk.inj (Option.some.inj hf)
      exact j_iret C hr hlk dX4_rest_124
    · rw [if_neg c11] at hf
      refine j_aload_n C dX4_rest_114 rfl 1 rfl 115 rfl ?_
      refine j_ldc C dX4_rest_115 qk_X4_142 117 rfl ?_
      obtain ⟨⟨r13, S14⟩, hq12, hf⟩ := bnd hf
      dsimp only at hf
      refine j_callVi (As := [.int (-1000004)]) (rest := []) C (c_X4_finding l g sz x S10  (-1000004) _ _ hq12) (j_cwV C qc_X4_finding qm_X4_99 qi_X4_finding qs_X4_finding qn_X4 hd_X4_finding ⟨rfl, rfl⟩ ⟨by decide, by decide⟩) (rcv_mo.cell C.2) rfl (Nat.le_of_ble_eq_true rfl) dX4_rest_117 120 rfl ?_
      refine j_goto C dX4_rest_120 124 (by decide) ?_
      obtain ⟨rfl, rfl⟩ := Prod.mk.inj (Option.some.inj hf)
      exact j_iret C hr hlk dX4_rest_124
  have hL88 : ∀ (b1 : Int32) (b2 : Int32) (S : St), X4_rest_L88 b1 b2 S = some (r, S') → Wj p l e (rmJ 6 132) s m args below meth c (MQ below (QiJ g sz r x S') args s 0 0 (Ag sz)) 4 g sz x S 88 [(0, .ref (ad g 56)), (1, .int b1), (2, .int b2)] [] := by
    intro  b1 b2 S hf
    unfold X4_rest_L88 at hf
    refine j_iload_n C dX4_rest_88 rfl 1 rfl 89 rfl ?_
    refine j_aload_n C dX4_rest_89 rfl 0 rfl 90 rfl ?_
    refine j4_get C 0 (by decide) qf_X4_9 (v := .ref (ad g 57)) rfl dX4_rest_90 93 rfl ?_
    refine j_iconst C dX4_rest_93 (v := 2) c_iconst_2 94 rfl ?_
    obtain ⟨v6, hv6, hf⟩ := bnd hf
    refine j4_ald 1 rfl C hv6 dX4_rest_94 95 rfl ?_
    refine j_icmp_ge C dX4_rest_95 102 (by decide) 98 rfl (fun c7 => ?_) (fun c7 => ?_)
    · rw [if_pos c7] at hf
      refine j_iload_n C dX4_rest_102 rfl 2 rfl 103 rfl ?_
      refine j_iload_n C dX4_rest_103 rfl 1 rfl 104 rfl ?_
      refine j_isub C dX4_rest_104 105 rfl ?_
      refine j_sub [0] rfl ?_
      exact hL105 (b2 - b1) S hf
    · rw [if_neg c7] at hf
      refine j_iconst C dX4_rest_98 (v := (-1)) c_iconst_m1 99 rfl ?_
      refine j_goto C dX4_rest_99 105 (by decide) ?_
      refine j_sub [0] rfl ?_
      exact hL105 (-1) S hf
  have hL34 : ∀ (n : Nat), ∀ (b1 : Int32) (b2 : Int32) (S : St), X4_rest_L34 n b1 b2 S = some (r, S') → Wj p l e (rmJ 6 132) s m args below meth c (MQ below (QiJ g sz r x S') args s 0 0 (Ag sz)) 4 g sz x S 34 [(0, .ref (ad g 56)), (1, .int b1), (2, .int b2)] [] := by
    intro  n
    induction n with
    | zero =>
      intro b1 b2 S hf
      rw [X4_rest_L34] at hf
      cases hf
    | succ n ih =>
      intro b1 b2 S hf
      rw [X4_rest_L34] at hf
      refine j_iload_n C dX4_rest_34 rfl 2 rfl 35 rfl ?_
      refine j_bipush C dX4_rest_35 (v := 60) c_bipush_60 37 rfl ?_
      refine j_aload_n C dX4_rest_37 rfl 0 rfl 38 rfl ?_
      refine j4_get C 0 (by decide) qf_X4_9 (v := .ref (ad g 57)) rfl dX4_rest_38 41 rfl ?_
      refine j_iconst C dX4_rest_41 (v := 2) c_iconst_2 42 rfl ?_
      obtain ⟨v4, hv4, hf⟩ := bnd hf
      refine j4_ald 1 rfl C hv4 dX4_rest_42 43 rfl ?_
      refine j_iadd C dX4_rest_43 44 rfl ?_
      refine j_icmp_ge C dX4_rest_44 88 (by decide) 47 rfl (fun c5 => ?_) (fun c5 => ?_)
      · rw [if_pos c5] at hf
        exact hL88 b1 b2 S hf
      · rw [if_neg c5] at hf
        refine j_iload_n C dX4_rest_47 rfl 1 rfl 48 rfl ?_
        refine j_aload_n C dX4_rest_48 rfl 0 rfl 49 rfl ?_
        refine j4_get C 0 (by decide) qf_X4_9 (v := .ref (ad g 57)) rfl dX4_rest_49 52 rfl ?_
        refine j_iconst C dX4_rest_52 (v := 2) c_iconst_2 53 rfl ?_
        obtain ⟨v15, hv15, hf⟩ := bnd hf
        refine j4_ald 1 rfl C hv15 dX4_rest_53 54 rfl ?_
        refine j_icmp_ge C dX4_rest_54 88 (by decide) 57 rfl (fun c16 => ?_) (fun c16 => ?_)
        · rw [if_pos c16] at hf
          exact hL88 b1 b2 S hf
        · rw [if_neg c16] at hf
          refine j_aload_n C dX4_rest_57 rfl 0 rfl 58 rfl ?_
          refine j4_get C 6 (by decide) qf_X4_159 (v := .int (S 0 6)) rfl dX4_rest_58 61 rfl ?_
          refine j_istore_n (lv2 := [(3, .int (S 0 6)), (0, .ref (ad g 56)), (1, .int b1), (2, .int b2)]) C dX4_rest_61 rfl (by decide) rfl 62 rfl ?_
          refine j_aload_n C dX4_rest_62 rfl 1 rfl 63 rfl ?_
          obtain ⟨S17, hS17, hf⟩ := bnd hf
          refine j_callVv (As := []) (rest := []) C (c_X4_beat l g sz x S   _ hS17) (j_cwV C qc_X4_beat qm_X4_174 qi_X4_beat qs_X4_beat qn_X4 hd_X4_beat ⟨rfl, rfl⟩ ⟨by decide, by decide⟩) (rcv_mo.cell C.2) rfl (Nat.le_of_ble_eq_true rfl) dX4_rest_63 66 rfl ?_
          refine j_iinc (lv2 := [(2, .int (b2 + 1)), (3, .int (S 0 6)), (0, .ref (ad g 56)), (1, .int b1)]) C dX4_rest_66 (k := 3) rfl (congrArg (HAdd.hAdd b2) c_oi_1) (by decide) rfl 69 rfl ?_
          refine j_aload_n C dX4_rest_69 rfl 2 rfl 70 rfl ?_
          refine j4_get C 6 (by decide) qf_X4_159 (v := .int (S17 0 6)) rfl dX4_rest_70 73 rfl ?_
          refine j_iload_n C dX4_rest_73 rfl 1 rfl 74 rfl ?_
          refine j_icmp_ne C dX4_rest_74 83 (by decide) 77 rfl (fun c18 => ?_) (fun c18 => ?_)
          · rw [if_neg c18] at hf
            refine j_iconst C dX4_rest_83 (v := 0) c_iconst_0 84 rfl ?_
            refine j_istore_n (lv2 := [(1, .int 0), (2, .int (b2 + 1)), (3, .int (S 0 6)), (0, .ref (ad g 56))]) C dX4_rest_84 rfl (by decide) rfl 85 rfl ?_
            refine j_goto C dX4_rest_85 34 (by decide) ?_
            refine j_sub [3, 0, 1] rfl ?_
            exact ih 0 (b2 + 1) S17 hf
          · rw [if_pos c18] at hf
            refine j_iload_n C dX4_rest_77 rfl 3 rfl 78 rfl ?_
            refine j_iconst C dX4_rest_78 (v := 1) c_iconst_1 79 rfl ?_
            refine j_iadd C dX4_rest_79 80 rfl ?_
            refine j_goto C dX4_rest_80 84 (by decide) ?_
            refine j_istore_n (lv2 := [(1, .int (b1 + 1)), (2, .int (b2 + 1)), (3, .int (S 0 6)), (0, .ref (ad g 56))]) C dX4_rest_84 rfl (by decide) rfl 85 rfl ?_
            refine j_goto C dX4_rest_85 34 (by decide) ?_
            refine j_sub [3, 0, 1] rfl ?_
            exact ih (b1 + 1) (b2 + 1) S17 hf
  unfold X4_rest at hf
  refine j_aload_n C dX4_rest_0 rfl 0 rfl 1 rfl ?_
  refine j4_get C 0 (by decide) qf_X4_9 (v := .ref (ad g 57)) rfl dX4_rest_1 4 rfl ?_
  refine j_iconst C dX4_rest_4 (v := 0) c_iconst_0 5 rfl ?_
  obtain ⟨v1, hv1, hf⟩ := bnd hf
  refine j4_ald 1 rfl C hv1 dX4_rest_5 6 rfl ?_
  refine j_sipush C dX4_rest_6 (v := 9930) c_sipush_9930 9 rfl ?_
  refine j_icmp_le C dX4_rest_9 19 (by decide) 12 rfl (fun c2 => ?_) (fun c2 => ?_)
  · rw [if_pos c2] at hf
    refine j_aload_n C dX4_rest_19 rfl 0 rfl 20 rfl ?_
    refine j4_get C 0 (by decide) qf_X4_9 (v := .ref (ad g 57)) rfl dX4_rest_20 23 rfl ?_
    refine j_aload_n C dX4_rest_23 rfl 0 rfl 24 rfl ?_
    refine j4_get C 2 (by decide) qf_X4_16 (v := .ref (ad g 59)) rfl dX4_rest_24 27 rfl ?_
    obtain ⟨S3, hS3, hf⟩ := bnd hf
    refine j_callSv (As := [.ref (ad g 57), .ref (ad g 59)]) (rest := []) C (c_X4_copyRow l g sz x S  1 rfl 3 rfl _ hS3) (j_cwS C qc_X4_copyRow qm_X4_73 qs_X4_copyRow qn_X4 hd_X4_copyRow ⟨rfl, rfl⟩ ⟨by decide, by decide⟩)  rfl (Nat.le_of_ble_eq_true rfl) dX4_rest_27 30 rfl ?_
    refine j_iconst C dX4_rest_30 (v := 0) c_iconst_0 31 rfl ?_
    refine j_istore_n (lv2 := [(1, .int 0), (0, .ref (ad g 56))]) C dX4_rest_31 rfl (by decide) rfl 32 rfl ?_
    refine j_iconst C dX4_rest_32 (v := 0) c_iconst_0 33 rfl ?_
    refine j_istore_n (lv2 := [(2, .int 0), (1, .int 0), (0, .ref (ad g 56))]) C dX4_rest_33 rfl (by decide) rfl 34 rfl ?_
    refine j_sub [2, 1, 0] rfl ?_
    exact hL34 FU 0 0 S3 hf
  · rw [if_neg c2] at hf
    refine j_aload_n C dX4_rest_12 rfl 0 rfl 13 rfl ?_
    refine j_ldc C dX4_rest_13 qk_X4_137 15 rfl ?_
    obtain ⟨⟨r20, S21⟩, hq19, hf⟩ := bnd hf
    dsimp only at hf
    refine j_callVi (As := [.int (-1000005)]) (rest := []) C (c_X4_finding l g sz x S  (-1000005) _ _ hq19) (j_cwV C qc_X4_finding qm_X4_99 qi_X4_finding qs_X4_finding qn_X4 hd_X4_finding ⟨rfl, rfl⟩ ⟨by decide, by decide⟩) (rcv_mo.cell C.2) rfl (Nat.le_of_ble_eq_true rfl) dX4_rest_15 18 rfl ?_
    obtain ⟨rfl, rfl⟩ := Prod.mk.inj (Option.some.inj hf)
    exact j_iret C hr hlk dX4_rest_18
set_option maxRecDepth 100000 in
set_option maxHeartbeats 4000000 in
theorem c_X4_refuses (l : Launch) (g : GG) (sz : Nat) (x S : St) (a1 : Int32) (a2 : Int32) (r : Int32) (hf : X4_refuses a1 a2 S = some r) : Met l yX4_refuses (.code yX4_refuses cX4_refuses 3 (some .int) :: ALLW) (rmJ 2 43) (PcJ g sz x S [.ref (ad g 56), .int a1, .int a2]) (QiJ g sz r x S) 0 0 (Ag sz) := by
  refine j_met (own := RX4) (by decide) rfl (Nat.le_of_ble_eq_true rfl) rfl ?_
  intro p e s m args below meth c C hr hlk
  unfold X4_refuses at hf
  refine j_aload_n C dX4_refuses_0 rfl 0 rfl 1 rfl ?_
  refine j_iload_n C dX4_refuses_1 rfl 1 rfl 2 rfl ?_
  obtain ⟨r1, hr1, hf⟩ := bnd hf
  refine j_callVi (As := [.int a1]) (rest := []) C (c_X4_isCoin l g sz x S  a1 _ hr1) (j_cwV C qc_X4_isCoin qm_X4_116 qi_X4_isCoin qs_X4_isCoin qn_X4 hd_X4_isCoin ⟨rfl, rfl⟩ ⟨by decide, by decide⟩) (rcv_mo.cell C.2) rfl (Nat.le_of_ble_eq_true rfl) dX4_refuses_2 5 rfl ?_
  refine j_if_eq C dX4_refuses_5 18 (by decide) 8 rfl (fun c2 => ?_) (fun c2 => ?_)
  · rw [if_pos c2] at hf
    refine j_ldc C dX4_refuses_18 qk_X4_72 20 rfl ?_
    refine j_goto C dX4_refuses_20 49 (by decide) ?_
    obtain rfl := Option.some.inj hf
    exact j_iret C hr hlk dX4_refuses_49
  · rw [if_neg c2] at hf
    refine j_iload_n C dX4_refuses_8 rfl 2 rfl 9 rfl ?_
    refine j_iconst C dX4_refuses_9 (v := 0) c_iconst_0 10 rfl ?_
    refine j_bipush C dX4_refuses_10 (v := 20) c_bipush_20 12 rfl ?_
    refine j_callSi (As := [.int a2, .int 0, .int 20]) (rest := []) C (c_X4_within l g sz x S a2 0 20 _ rfl) (j_cwS C qc_X4_within qm_X4_77 qs_X4_within qn_X4 hd_X4_within ⟨rfl, rfl⟩ ⟨by decide, by decide⟩)  rfl (Nat.le_of_ble_eq_true rfl) dX4_refuses_12 15 rfl ?_
    refine j_if_ne C dX4_refuses_15 23 (by decide) 18 rfl (fun c3 => ?_) (fun c3 => ?_)
    · rw [if_neg c3] at hf
      refine j_aload_n C dX4_refuses_23 rfl 0 rfl 24 rfl ?_
      refine j_iload_n C dX4_refuses_24 rfl 1 rfl 25 rfl ?_
      obtain ⟨r4, hr4, hf⟩ := bnd hf
      refine j_callVi (As := [.int a1]) (rest := []) C (c_X4_isInHand l g sz x S  a1 _ hr4) (j_cwV C qc_X4_isInHand qm_X4_183 qi_X4_isInHand qs_X4_isInHand qn_X4 hd_X4_isInHand ⟨rfl, rfl⟩ ⟨by decide, by decide⟩) (rcv_mo.cell C.2) rfl (Nat.le_of_ble_eq_true rfl) dX4_refuses_25 28 rfl ?_
      refine j_if_eq C dX4_refuses_28 43 (by decide) 31 rfl (fun c5 => ?_) (fun c5 => ?_)
      · rw [if_pos c5] at hf
        refine j_ldc C dX4_refuses_43 qk_X4_137 45 rfl ?_
        refine j_goto C dX4_refuses_45 49 (by decide) ?_
        obtain rfl := Option.some.inj hf
        exact j_iret C hr hlk dX4_refuses_49
      · rw [if_neg c5] at hf
        refine j_aload_n C dX4_refuses_31 rfl 0 rfl 32 rfl ?_
        refine j4_get C 0 (by decide) qf_X4_9 (v := .ref (ad g 57)) rfl dX4_refuses_32 35 rfl ?_
        refine j_iconst C dX4_refuses_35 (v := 0) c_iconst_0 36 rfl ?_
        obtain ⟨v6, hv6, hf⟩ := bnd hf
        refine j4_ald 1 rfl C hv6 dX4_refuses_36 37 rfl ?_
        refine j_sipush C dX4_refuses_37 (v := 9900) c_sipush_9900 40 rfl ?_
        refine j_icmp_le C dX4_refuses_40 48 (by decide) 43 rfl (fun c7 => ?_) (fun c7 => ?_)
        · rw [if_pos c7] at hf
          refine j_iconst C dX4_refuses_48 (v := 0) c_iconst_0 49 rfl ?_
          obtain rfl := Option.some.inj hf
          exact j_iret C hr hlk dX4_refuses_49
        · rw [if_neg c7] at hf
          refine j_ldc C dX4_refuses_43 qk_X4_137 45 rfl ?_
          refine j_goto C dX4_refuses_45 49 (by decide) ?_
          obtain rfl := Option.some.inj hf
          exact j_iret C hr hlk dX4_refuses_49
    · rw [if_pos c3] at hf
      refine j_ldc C dX4_refuses_18 qk_X4_72 20 rfl ?_
      refine j_goto C dX4_refuses_20 49 (by decide) ?_
      obtain rfl := Option.some.inj hf
      exact j_iret C hr hlk dX4_refuses_49
set_option maxRecDepth 100000 in
set_option maxHeartbeats 4000000 in
theorem c_X4_gainBy (l : Launch) (g : GG) (sz : Nat) (x S : St) (a1 : Int32) (a2 : Int32) (a3 : Int32) (a4 : Int32) (r : Int32) (S' : St) (hf : X4_gainBy a1 a2 a3 a4 S = some (r, S')) : Met l yX4_gainBy (.code yX4_gainBy cX4_gainBy 6 (some .int) :: ALLW) (rmJ 7 156) (PcJ g sz x S [.ref (ad g 56), .int a1, .int a2, .int a3, .int a4]) (QiJ g sz r x S') 0 0 (Ag sz) := by
  refine j_met (own := RX4) (by decide) rfl (Nat.le_of_ble_eq_true rfl) rfl ?_
  intro p e s m args below meth c C hr hlk
  unfold X4_gainBy at hf
  refine j_aload_n C dX4_gainBy_0 rfl 0 rfl 1 rfl ?_
  refine j_iload_n C dX4_gainBy_1 rfl 1 rfl 2 rfl ?_
  obtain ⟨⟨r2, S3⟩, hq1, hf⟩ := bnd hf
  dsimp only at hf
  refine j_callVi (As := [.int a1]) (rest := []) C (c_X4_beatsGo l g sz x S  a1 _ _ hq1) (j_cwV C qc_X4_beatsGo qm_X4_196 qi_X4_beatsGo qs_X4_beatsGo qn_X4 hd_X4_beatsGo ⟨rfl, rfl⟩ ⟨by decide, by decide⟩) (rcv_mo.cell C.2) rfl (Nat.le_of_ble_eq_true rfl) dX4_gainBy_2 5 rfl ?_
  refine j_istore (lv2 := [(5, .int r2), (0, .ref (ad g 56)), (1, .int a1), (2, .int a2), (3, .int a3), (4, .int a4)]) C dX4_gainBy_5 (by decide) rfl 7 rfl ?_
  refine j_aload_n C dX4_gainBy_7 rfl 1 rfl 8 rfl ?_
  refine j_iload_n C dX4_gainBy_8 rfl 3 rfl 9 rfl ?_
  refine j_iload_n C dX4_gainBy_9 rfl 4 rfl 10 rfl ?_
  obtain ⟨S4, hS4, hf⟩ := bnd hf
  refine j_callVv (As := [.int a2, .int a3]) (rest := []) C (c_X4_dropped l g sz x S3  a2 a3 _ hS4) (j_cwV C qc_X4_dropped qm_X4_190 qi_X4_dropped qs_X4_dropped qn_X4 hd_X4_dropped ⟨rfl, rfl⟩ ⟨by decide, by decide⟩) (rcv_mo.cell C.2) rfl (Nat.le_of_ble_eq_true rfl) dX4_gainBy_10 13 rfl ?_
  refine j_iload C dX4_gainBy_13 0 rfl 15 rfl ?_
  refine j_aload_n C dX4_gainBy_15 rfl 1 rfl 16 rfl ?_
  refine j_iload C dX4_gainBy_16 5 rfl 18 rfl ?_
  obtain ⟨⟨r6, S7⟩, hq5, hf⟩ := bnd hf
  dsimp only at hf
  refine j_callVi (As := [.int a4]) (rest := [.int r2]) C (c_X4_beatsGo l g sz x S4  a4 _ _ hq5) (j_cwV C qc_X4_beatsGo qm_X4_196 qi_X4_beatsGo qs_X4_beatsGo qn_X4 hd_X4_beatsGo ⟨rfl, rfl⟩ ⟨by decide, by decide⟩) (rcv_mo.cell C.2) rfl (Nat.le_of_ble_eq_true rfl) dX4_gainBy_18 21 rfl ?_
  refine j_iadd C dX4_gainBy_21 22 rfl ?_
  refine j_istore (lv2 := [(5, .int (r2 + r6)), (0, .ref (ad g 56)), (1, .int a1), (2, .int a2), (3, .int a3), (4, .int a4)]) C dX4_gainBy_22 (by decide) rfl 24 rfl ?_
  refine j_aload_n C dX4_gainBy_24 rfl 1 rfl 25 rfl ?_
  refine j_iload C dX4_gainBy_25 0 rfl 27 rfl ?_
  refine j_if_ge C dX4_gainBy_27 35 (by decide) 30 rfl (fun c8 => ?_) (fun c8 => ?_)
  · rw [if_pos c8] at hf
    refine j_aload_n C dX4_gainBy_35 rfl 1 rfl 36 rfl ?_
    obtain ⟨r9, hr9, hf⟩ := bnd hf
    refine j_callVi (As := []) (rest := [.ref (ad g 56)]) C (c_X4_gain l g sz x S7   _ hr9) (j_cwV C qc_X4_gain qm_X4_186 qi_X4_gain qs_X4_gain qn_X4 hd_X4_gain ⟨rfl, rfl⟩ ⟨by decide, by decide⟩) (rcv_mo.cell C.2) rfl (Nat.le_of_ble_eq_true rfl) dX4_gainBy_36 39 rfl ?_
    obtain ⟨⟨r11, S12⟩, hq10, hf⟩ := bnd hf
    dsimp only at hf
    refine j_callVi (As := [.int r9]) (rest := []) C (c_X4_putBack l g sz x S7  r9 _ _ hq10) (j_cwV C qc_X4_putBack qm_X4_210 qi_X4_putBack qs_X4_putBack qn_X4 hd_X4_putBack ⟨rfl, rfl⟩ ⟨by decide, by decide⟩) (rcv_mo.cell C.2) rfl (Nat.le_of_ble_eq_true rfl) dX4_gainBy_39 42 rfl ?_
    obtain ⟨rfl, rfl⟩ := Prod.mk.inj (Option.some.inj hf)
    exact j_iret C hr hlk dX4_gainBy_42
  · rw [if_neg c8] at hf
    refine j_iload C dX4_gainBy_30 0 rfl 32 rfl ?_
    refine j_goto C dX4_gainBy_32 39 (by decide) ?_
    obtain ⟨⟨r14, S15⟩, hq13, hf⟩ := bnd hf
    dsimp only at hf
    refine j_callVi (As := [.int (r2 + r6)]) (rest := []) C (c_X4_putBack l g sz x S7  (r2 + r6) _ _ hq13) (j_cwV C qc_X4_putBack qm_X4_210 qi_X4_putBack qs_X4_putBack qn_X4 hd_X4_putBack ⟨rfl, rfl⟩ ⟨by decide, by decide⟩) (rcv_mo.cell C.2) rfl (Nat.le_of_ble_eq_true rfl) dX4_gainBy_39 42 rfl ?_
    obtain ⟨rfl, rfl⟩ := Prod.mk.inj (Option.some.inj hf)
    exact j_iret C hr hlk dX4_gainBy_42
set_option maxRecDepth 100000 in
set_option maxHeartbeats 4000000 in
theorem c_X4_brings (l : Launch) (g : GG) (sz : Nat) (x S : St) (a1 : Int32) (a2 : Int32) (a3 : Int32) (r : Int32) (S' : St) (hf : X4_brings a1 a2 a3 S = some (r, S')) : Met l yX4_brings (.code yX4_brings cX4_brings 5 (some .int) :: ALLW) (rmJ 8 181) (PcJ g sz x S [.ref (ad g 56), .int a1, .int a2, .int a3]) (QiJ g sz r x S') 0 0 (Ag sz) := by
  refine j_met (own := RX4) (by decide) rfl (Nat.le_of_ble_eq_true rfl) rfl ?_
  intro p e s m args below meth c C hr hlk
  unfold X4_brings at hf
  refine j_aload_n C dX4_brings_0 rfl 0 rfl 1 rfl ?_
  refine j_iload_n C dX4_brings_1 rfl 1 rfl 2 rfl ?_
  refine j_iload_n C dX4_brings_2 rfl 3 rfl 3 rfl ?_
  obtain ⟨r1, hr1, hf⟩ := bnd hf
  refine j_callVi (As := [.int a1, .int a3]) (rest := []) C (c_X4_refuses l g sz x S  a1 a3 _ hr1) (j_cwV C qc_X4_refuses qm_X4_216 qi_X4_refuses qs_X4_refuses qn_X4 hd_X4_refuses ⟨rfl, rfl⟩ ⟨by decide, by decide⟩) (rcv_mo.cell C.2) rfl (Nat.le_of_ble_eq_true rfl) dX4_brings_3 6 rfl ?_
  refine j_istore (lv2 := [(4, .int r1), (0, .ref (ad g 56)), (1, .int a1), (2, .int a2), (3, .int a3)]) C dX4_brings_6 (by decide) rfl 8 rfl ?_
  refine j_iload C dX4_brings_8 0 rfl 10 rfl ?_
  refine j_ldc C dX4_brings_10 qk_X4_72 12 rfl ?_
  refine j_icmp_eq C dX4_brings_12 22 (by decide) 15 rfl (fun c2 => ?_) (fun c2 => ?_)
  · rw [if_pos c2] at hf
    refine j_aload_n C dX4_brings_22 rfl 1 rfl 23 rfl ?_
    refine j_ldc C dX4_brings_23 qk_X4_72 25 rfl ?_
    obtain ⟨⟨r4, S5⟩, hq3, hf⟩ := bnd hf
    dsimp only at hf
    refine j_callVi (As := [.int (-1000001)]) (rest := []) C (c_X4_finding l g sz x S  (-1000001) _ _ hq3) (j_cwV C qc_X4_finding qm_X4_99 qi_X4_finding qs_X4_finding qn_X4 hd_X4_finding ⟨rfl, rfl⟩ ⟨by decide, by decide⟩) (rcv_mo.cell C.2) rfl (Nat.le_of_ble_eq_true rfl) dX4_brings_25 28 rfl ?_
    obtain ⟨rfl, rfl⟩ := Prod.mk.inj (Option.some.inj hf)
    exact j_iret C hr hlk dX4_brings_28
  · rw [if_neg c2] at hf
    refine j_iload_n C dX4_brings_15 rfl 3 rfl 16 rfl ?_
    refine j_callSi (As := [.int a2]) (rest := []) C (c_X4_isColumn l g sz x S a2 _ rfl) (j_cwS C qc_X4_isColumn qm_X4_81 qs_X4_isColumn qn_X4 hd_X4_isColumn ⟨rfl, rfl⟩ ⟨by decide, by decide⟩)  rfl (Nat.le_of_ble_eq_true rfl) dX4_brings_16 19 rfl ?_
    refine j_if_ne C dX4_brings_19 29 (by decide) 22 rfl (fun c6 => ?_) (fun c6 => ?_)
    · rw [if_neg c6] at hf
      refine j_iload C dX4_brings_29 0 rfl 31 rfl ?_
      refine j_if_eq C dX4_brings_31 41 (by decide) 34 rfl (fun c7 => ?_) (fun c7 => ?_)
      · rw [if_pos c7] at hf
        refine j_aload_n C dX4_brings_41 rfl 1 rfl 42 rfl ?_
        refine j4_get C 0 (by decide) qf_X4_9 (v := .ref (ad g 57)) rfl dX4_brings_42 45 rfl ?_
        refine j_aload_n C dX4_brings_45 rfl 1 rfl 46 rfl ?_
        refine j4_get C 2 (by decide) qf_X4_16 (v := .ref (ad g 59)) rfl dX4_brings_46 49 rfl ?_
        obtain ⟨S8, hS8, hf⟩ := bnd hf
        refine j_callSv (As := [.ref (ad g 57), .ref (ad g 59)]) (rest := []) C (c_X4_copyRow l g sz x S  1 rfl 3 rfl _ hS8) (j_cwS C qc_X4_copyRow qm_X4_73 qs_X4_copyRow qn_X4 hd_X4_copyRow ⟨rfl, rfl⟩ ⟨by decide, by decide⟩)  rfl (Nat.le_of_ble_eq_true rfl) dX4_brings_49 52 rfl ?_
        refine j_aload_n C dX4_brings_52 rfl 1 rfl 53 rfl ?_
        refine j_iconst C dX4_brings_53 (v := 0) c_iconst_0 54 rfl ?_
        refine j_iload_n C dX4_brings_54 rfl 2 rfl 55 rfl ?_
        refine j_iload_n C dX4_brings_55 rfl 3 rfl 56 rfl ?_
        refine j_iload_n C dX4_brings_56 rfl 4 rfl 57 rfl ?_
        obtain ⟨⟨r10, S11⟩, hq9, hf⟩ := bnd hf
        dsimp only at hf
        refine j_callVi (As := [.int 0, .int a1, .int a2, .int a3]) (rest := []) C (c_X4_gainBy l g sz x S8  0 a1 a2 a3 _ _ hq9) (j_cwV C qc_X4_gainBy qm_X4_219 qi_X4_gainBy qs_X4_gainBy qn_X4 hd_X4_gainBy ⟨rfl, rfl⟩ ⟨by decide, by decide⟩) (rcv_mo.cell C.2) rfl (Nat.le_of_ble_eq_true rfl) dX4_brings_57 60 rfl ?_
        refine j_aload_n C dX4_brings_60 rfl 1 rfl 61 rfl ?_
        obtain ⟨r12, hr12, hf⟩ := bnd hf
        refine j_callVi (As := []) (rest := [.int r10]) C (c_X4_gain l g sz x S11   _ hr12) (j_cwV C qc_X4_gain qm_X4_186 qi_X4_gain qs_X4_gain qn_X4 hd_X4_gain ⟨rfl, rfl⟩ ⟨by decide, by decide⟩) (rcv_mo.cell C.2) rfl (Nat.le_of_ble_eq_true rfl) dX4_brings_61 64 rfl ?_
        refine j_isub C dX4_brings_64 65 rfl ?_
        obtain ⟨rfl, rfl⟩ := Prod.mk.inj (Option.some.inj hf)
        exact j_iret C hr hlk dX4_brings_65
      · rw [if_neg c7] at hf
        refine j_aload_n C dX4_brings_34 rfl 1 rfl 35 rfl ?_
        refine j_iload C dX4_brings_35 0 rfl 37 rfl ?_
        obtain ⟨⟨r14, S15⟩, hq13, hf⟩ := bnd hf
        dsimp only at hf
        refine j_callVi (As := [.int r1]) (rest := []) C (c_X4_finding l g sz x S  r1 _ _ hq13) (j_cwV C qc_X4_finding qm_X4_99 qi_X4_finding qs_X4_finding qn_X4 hd_X4_finding ⟨rfl, rfl⟩ ⟨by decide, by decide⟩) (rcv_mo.cell C.2) rfl (Nat.le_of_ble_eq_true rfl) dX4_brings_37 40 rfl ?_
        obtain ⟨rfl, rfl⟩ := Prod.mk.inj (Option.some.inj hf)
        exact j_iret C hr hlk dX4_brings_40
    · rw [if_pos c6] at hf
      refine j_aload_n C dX4_brings_22 rfl 1 rfl 23 rfl ?_
      refine j_ldc C dX4_brings_23 qk_X4_72 25 rfl ?_
      obtain ⟨⟨r17, S18⟩, hq16, hf⟩ := bnd hf
      dsimp only at hf
      refine j_callVi (As := [.int (-1000001)]) (rest := []) C (c_X4_finding l g sz x S  (-1000001) _ _ hq16) (j_cwV C qc_X4_finding qm_X4_99 qi_X4_finding qs_X4_finding qn_X4 hd_X4_finding ⟨rfl, rfl⟩ ⟨by decide, by decide⟩) (rcv_mo.cell C.2) rfl (Nat.le_of_ble_eq_true rfl) dX4_brings_25 28 rfl ?_
      obtain ⟨rfl, rfl⟩ := Prod.mk.inj (Option.some.inj hf)
      exact j_iret C hr hlk dX4_brings_28
set_option maxRecDepth 100000 in
set_option maxHeartbeats 4000000 in
theorem c_X4_bestWay (l : Launch) (g : GG) (sz : Nat) (x S : St) (a1 : Int32) (a2 : Int32) (a3 : Int32) (r : Int32) (S' : St) (hf : X4_bestWay a1 a2 a3 S = some (r, S')) : Met l yX4_bestWay (.code yX4_bestWay cX4_bestWay 9 (some .int) :: ALLW) (rmJ 8 181) (PcJ g sz x S [.ref (ad g 56), .int a1, .int a2, .int a3]) (QiJ g sz r x S') 0 0 (Ag sz) := by
  refine j_met (own := RX4) (by decide) rfl (Nat.le_of_ble_eq_true rfl) rfl ?_
  intro p e s m args below meth c C hr hlk
  have hL60 : ∀ (k20 : Int32 → Int32 → Int32 → Int32 → Int32 → Int32 → St → Option (Int32 × St)) (_ : ∀ (b1 : Int32) (b2 : Int32) (b3 : Int32) (b4 : Int32) (b5 : Int32) (b6 : Int32) (S : St), k20 b1 b2 b3 b4 b5 b6 S = some (r, S') → Wj p l e (rmJ 8 181) s m args below meth c (MQ below (QiJ g sz r x S') args s 0 0 (Ag sz)) 9 g sz x S 20 [(0, .ref (ad g 56)), (1, .int b1), (2, .int b2), (3, .int b3), (4, .int b4), (5, .int b5), (6, .int b6)] []) (k29 : Int32 → Int32 → Int32 → Int32 → Int32 → Int32 → Int32 → St → Option (Int32 × St)) (_ : ∀ (b1 : Int32) (b2 : Int32) (b3 : Int32) (b4 : Int32) (b5 : Int32) (b6 : Int32) (b7 : Int32) (S : St), k29 b1 b2 b3 b4 b5 b6 b7 S = some (r, S') → Wj p l e (rmJ 8 181) s m args below meth c (MQ below (QiJ g sz r x S') args s 0 0 (Ag sz)) 9 g sz x S 29 [(0, .ref (ad g 56)), (1, .int b1), (2, .int b2), (3, .int b3), (4, .int b4), (5, .int b5), (6, .int b6), (7, .int b7)] []), ∀ (b1 : Int32) (b2 : Int32) (b3 : Int32) (b6 : Int32) (b7 : Int32) (b8 : Int32) (S : St), X4_bestWay_L60 k20 k29 b1 b2 b3 b6 b7 b8 S = some (r, S') → Wj p l e (rmJ 8 181) s m args below meth c (MQ below (QiJ g sz r x S') args s 0 0 (Ag sz)) 9 g sz x S 60 [(0, .ref (ad g 56)), (1, .int b1), (2, .int b2), (3, .int b3), (6, .int b6), (7, .int b7), (8, .int b8)] [] := by
    intro k20 hk20 k29 hk29 b1 b2 b3 b6 b7 b8 S hf
    unfold X4_bestWay_L60 at hf
    refine j_bipush C dX4_bestWay_60 (v := 10) c_bipush_10 62 rfl ?_
    refine j_iload C dX4_bestWay_62 4 rfl 64 rfl ?_
    refine j_imul C dX4_bestWay_64 65 rfl ?_
    refine j_iload C dX4_bestWay_65 5 rfl 67 rfl ?_
    refine j_iadd C dX4_bestWay_67 68 rfl ?_
    refine j_istore (lv2 := [(4, .int ((10 * b6) + b7)), (0, .ref (ad g 56)), (1, .int b1), (2, .int b2), (3, .int b3), (6, .int b6), (7, .int b7), (8, .int b8)]) C dX4_bestWay_68 (by decide) rfl 70 rfl ?_
    refine j_iload C dX4_bestWay_70 7 rfl 72 rfl ?_
    refine j_istore (lv2 := [(5, .int b8), (4, .int ((10 * b6) + b7)), (0, .ref (ad g 56)), (1, .int b1), (2, .int b2), (3, .int b3), (6, .int b6), (7, .int b7), (8, .int b8)]) C dX4_bestWay_72 (by decide) rfl 74 rfl ?_
    refine j_iinc (lv2 := [(7, .int (b7 + 1)), (5, .int b8), (4, .int ((10 * b6) + b7)), (0, .ref (ad g 56)), (1, .int b1), (2, .int b2), (3, .int b3), (6, .int b6), (8, .int b8)]) C dX4_bestWay_74 (k := 7) rfl (congrArg (HAdd.hAdd b7) c_oi_1) (by decide) rfl 77 rfl ?_
    refine j_goto C dX4_bestWay_77 29 (by decide) ?_
    refine j_sub [3, 4, 5, 6, 2, 1, 7, 0] rfl ?_
    exact hk29 b1 b2 b3 ((10 * b6) + b7) b8 b6 (b7 + 1) S hf
  have hL29 : ∀ (k20 : Int32 → Int32 → Int32 → Int32 → Int32 → Int32 → St → Option (Int32 × St)) (_ : ∀ (b1 : Int32) (b2 : Int32) (b3 : Int32) (b4 : Int32) (b5 : Int32) (b6 : Int32) (S : St), k20 b1 b2 b3 b4 b5 b6 S = some (r, S') → Wj p l e (rmJ 8 181) s m args below meth c (MQ below (QiJ g sz r x S') args s 0 0 (Ag sz)) 9 g sz x S 20 [(0, .ref (ad g 56)), (1, .int b1), (2, .int b2), (3, .int b3), (4, .int b4), (5, .int b5), (6, .int b6)] []), ∀ (n : Nat), ∀ (b1 : Int32) (b2 : Int32) (b3 : Int32) (b4 : Int32) (b5 : Int32) (b6 : Int32) (b7 : Int32) (S : St), X4_bestWay_L29 k20 n b1 b2 b3 b4 b5 b6 b7 S = some (r, S') → Wj p l e (rmJ 8 181) s m args below meth c (MQ below (QiJ g sz r x S') args s 0 0 (Ag sz)) 9 g sz x S 29 [(0, .ref (ad g 56)), (1, .int b1), (2, .int b2), (3, .int b3), (4, .int b4), (5, .int b5), (6, .int b6), (7, .int b7)] [] := by
    intro k20 hk20 n
    induction n with
    | zero =>
      intro b1 b2 b3 b4 b5 b6 b7 S hf
      rw [X4_bestWay_L29] at hf
      cases hf
    | succ n ih =>
      intro b1 b2 b3 b4 b5 b6 b7 S hf
      rw [X4_bestWay_L29] at hf
      refine j_iload C dX4_bestWay_29 7 rfl 31 rfl ?_
      refine j_bipush C dX4_bestWay_31 (v := 7) c_bipush_7 33 rfl ?_
      refine j_icmp_ge C dX4_bestWay_33 80 (by decide) 36 rfl (fun c3 => ?_) (fun c3 => ?_)
      · rw [if_pos c3] at hf
        refine j_iinc (lv2 := [(6, .int (b6 + 1)), (0, .ref (ad g 56)), (1, .int b1), (2, .int b2), (3, .int b3), (4, .int b4), (5, .int b5), (7, .int b7)]) C dX4_bestWay_80 (k := 6) rfl (congrArg (HAdd.hAdd b6) c_oi_1) (by decide) rfl 83 rfl ?_
        refine j_goto C dX4_bestWay_83 20 (by decide) ?_
        refine j_sub [1, 2, 3, 4, 5, 6, 0] rfl ?_
        exact hk20 b1 b2 b3 b4 b5 (b6 + 1) S hf
      · rw [if_neg c3] at hf
        refine j_aload_n C dX4_bestWay_36 rfl 0 rfl 37 rfl ?_
        refine j_iload C dX4_bestWay_37 6 rfl 39 rfl ?_
        refine j_iload_n C dX4_bestWay_39 rfl 1 rfl 40 rfl ?_
        refine j_iload C dX4_bestWay_40 7 rfl 42 rfl ?_
        refine j_iload_n C dX4_bestWay_42 rfl 2 rfl 43 rfl ?_
        obtain ⟨⟨r5, S6⟩, hq4, hf⟩ := bnd hf
        dsimp only at hf
        refine j_callVi (As := [.int b6, .int b1, .int b7, .int b2]) (rest := []) C (c_X4_gainBy l g sz x S  b6 b1 b7 b2 _ _ hq4) (j_cwV C qc_X4_gainBy qm_X4_219 qi_X4_gainBy qs_X4_gainBy qn_X4 hd_X4_gainBy ⟨rfl, rfl⟩ ⟨by decide, by decide⟩) (rcv_mo.cell C.2) rfl (Nat.le_of_ble_eq_true rfl) dX4_bestWay_43 46 rfl ?_
        refine j_istore (lv2 := [(8, .int r5), (0, .ref (ad g 56)), (1, .int b1), (2, .int b2), (3, .int b3), (4, .int b4), (5, .int b5), (6, .int b6), (7, .int b7)]) C dX4_bestWay_46 (by decide) rfl 48 rfl ?_
        refine j_iload C dX4_bestWay_48 5 rfl 50 rfl ?_
        refine j_if_lt C dX4_bestWay_50 60 (by decide) 53 rfl (fun c7 => ?_) (fun c7 => ?_)
        · rw [if_pos c7] at hf
          refine j_sub [1, 2, 3, 4, 7, 8, 0] rfl ?_
          exact hL60 k20 hk20 _ ih b1 b2 b3 b6 b7 r5 S6 hf
        · rw [if_neg c7] at hf
          refine j_iload C dX4_bestWay_53 0 rfl 55 rfl ?_
          refine j_iload C dX4_bestWay_55 6 rfl 57 rfl ?_
          refine j_icmp_le C dX4_bestWay_57 74 (by decide) 60 rfl (fun c8 => ?_) (fun c8 => ?_)
          · rw [if_pos c8] at hf
            refine j_iinc (lv2 := [(7, .int (b7 + 1)), (8, .int r5), (0, .ref (ad g 56)), (1, .int b1), (2, .int b2), (3, .int b3), (4, .int b4), (5, .int b5), (6, .int b6)]) C dX4_bestWay_74 (k := 8) rfl (congrArg (HAdd.hAdd b7) c_oi_1) (by decide) rfl 77 rfl ?_
            refine j_goto C dX4_bestWay_77 29 (by decide) ?_
            refine j_sub [2, 3, 4, 5, 6, 7, 8, 0] rfl ?_
            exact ih b1 b2 b3 b4 b5 b6 (b7 + 1) S6 hf
          · rw [if_neg c8] at hf
            refine j_sub [1, 2, 3, 4, 7, 8, 0] rfl ?_
            exact hL60 k20 hk20 _ ih b1 b2 b3 b6 b7 r5 S6 hf
  have hL20 : ∀ (n : Nat), ∀ (b1 : Int32) (b2 : Int32) (b3 : Int32) (b4 : Int32) (b5 : Int32) (b6 : Int32) (S : St), X4_bestWay_L20 n b1 b2 b3 b4 b5 b6 S = some (r, S') → Wj p l e (rmJ 8 181) s m args below meth c (MQ below (QiJ g sz r x S') args s 0 0 (Ag sz)) 9 g sz x S 20 [(0, .ref (ad g 56)), (1, .int b1), (2, .int b2), (3, .int b3), (4, .int b4), (5, .int b5), (6, .int b6)] [] := by
    intro  n
    induction n with
    | zero =>
      intro b1 b2 b3 b4 b5 b6 S hf
      rw [X4_bestWay_L20] at hf
      cases hf
    | succ n ih =>
      intro b1 b2 b3 b4 b5 b6 S hf
      rw [X4_bestWay_L20] at hf
      refine j_iload C dX4_bestWay_20 6 rfl 22 rfl ?_
      refine j_iload_n C dX4_bestWay_22 rfl 3 rfl 23 rfl ?_
      refine j_icmp_ge C dX4_bestWay_23 86 (by decide) 26 rfl (fun c2 => ?_) (fun c2 => ?_)
      · rw [if_pos c2] at hf
        refine j_iload C dX4_bestWay_86 4 rfl 88 rfl ?_
        obtain ⟨rfl, rfl⟩ := Prod.mk.inj (Option.some.inj hf)
        exact j_iret C hr hlk dX4_bestWay_88
      · rw [if_neg c2] at hf
        refine j_iconst C dX4_bestWay_26 (v := 0) c_iconst_0 27 rfl ?_
        refine j_istore (lv2 := [(7, .int 0), (0, .ref (ad g 56)), (1, .int b1), (2, .int b2), (3, .int b3), (4, .int b4), (5, .int b5), (6, .int b6)]) C dX4_bestWay_27 (by decide) rfl 29 rfl ?_
        refine j_sub [1, 2, 3, 4, 5, 6, 7, 0] rfl ?_
        exact hL29 _ ih FU b1 b2 b3 b4 b5 b6 0 S hf
  unfold X4_bestWay at hf
  refine j_aload_n C dX4_bestWay_0 rfl 0 rfl 1 rfl ?_
  refine j4_get C 0 (by decide) qf_X4_9 (v := .ref (ad g 57)) rfl dX4_bestWay_1 4 rfl ?_
  refine j_aload_n C dX4_bestWay_4 rfl 0 rfl 5 rfl ?_
  refine j4_get C 2 (by decide) qf_X4_16 (v := .ref (ad g 59)) rfl dX4_bestWay_5 8 rfl ?_
  obtain ⟨S1, hS1, hf⟩ := bnd hf
  refine j_callSv (As := [.ref (ad g 57), .ref (ad g 59)]) (rest := []) C (c_X4_copyRow l g sz x S  1 rfl 3 rfl _ hS1) (j_cwS C qc_X4_copyRow qm_X4_73 qs_X4_copyRow qn_X4 hd_X4_copyRow ⟨rfl, rfl⟩ ⟨by decide, by decide⟩)  rfl (Nat.le_of_ble_eq_true rfl) dX4_bestWay_8 11 rfl ?_
  refine j_iconst C dX4_bestWay_11 (v := (-1)) c_iconst_m1 12 rfl ?_
  refine j_istore (lv2 := [(4, .int (-1)), (0, .ref (ad g 56)), (1, .int a1), (2, .int a2), (3, .int a3)]) C dX4_bestWay_12 (by decide) rfl 14 rfl ?_
  refine j_iconst C dX4_bestWay_14 (v := 0) c_iconst_0 15 rfl ?_
  refine j_istore (lv2 := [(5, .int 0), (4, .int (-1)), (0, .ref (ad g 56)), (1, .int a1), (2, .int a2), (3, .int a3)]) C dX4_bestWay_15 (by decide) rfl 17 rfl ?_
  refine j_iconst C dX4_bestWay_17 (v := 0) c_iconst_0 18 rfl ?_
  refine j_istore (lv2 := [(6, .int 0), (5, .int 0), (4, .int (-1)), (0, .ref (ad g 56)), (1, .int a1), (2, .int a2), (3, .int a3)]) C dX4_bestWay_18 (by decide) rfl 20 rfl ?_
  refine j_sub [3, 4, 5, 6, 2, 1, 0] rfl ?_
  exact hL20 FU a1 a2 a3 (-1) 0 0 S1 hf
set_option maxRecDepth 100000 in
set_option maxHeartbeats 4000000 in
theorem c_X4_best (l : Launch) (g : GG) (sz : Nat) (x S : St) (a1 : Int32) (a2 : Int32) (r : Int32) (S' : St) (hf : X4_best a1 a2 S = some (r, S')) : Met l yX4_best (.code yX4_best cX4_best 4 (some .int) :: ALLW) (rmJ 9 209) (PcJ g sz x S [.ref (ad g 56), .int a1, .int a2]) (QiJ g sz r x S') 0 0 (Ag sz) := by
  refine j_met (own := RX4) (by decide) rfl (Nat.le_of_ble_eq_true rfl) rfl ?_
  intro p e s m args below meth c C hr hlk
  unfold X4_best at hf
  refine j_aload_n C dX4_best_0 rfl 0 rfl 1 rfl ?_
  refine j_iload_n C dX4_best_1 rfl 1 rfl 2 rfl ?_
  refine j_iload_n C dX4_best_2 rfl 2 rfl 3 rfl ?_
  obtain ⟨r1, hr1, hf⟩ := bnd hf
  refine j_callVi (As := [.int a1, .int a2]) (rest := []) C (c_X4_refuses l g sz x S  a1 a2 _ hr1) (j_cwV C qc_X4_refuses qm_X4_216 qi_X4_refuses qs_X4_refuses qn_X4 hd_X4_refuses ⟨rfl, rfl⟩ ⟨by decide, by decide⟩) (rcv_mo.cell C.2) rfl (Nat.le_of_ble_eq_true rfl) dX4_best_3 6 rfl ?_
  refine j_istore_n (lv2 := [(3, .int r1), (0, .ref (ad g 56)), (1, .int a1), (2, .int a2)]) C dX4_best_6 rfl (by decide) rfl 7 rfl ?_
  refine j_iload_n C dX4_best_7 rfl 0 rfl 8 rfl ?_
  refine j_if_eq C dX4_best_8 19 (by decide) 11 rfl (fun c2 => ?_) (fun c2 => ?_)
  · rw [if_pos c2] at hf
    refine j_aload_n C dX4_best_19 rfl 1 rfl 20 rfl ?_
    refine j_iload_n C dX4_best_20 rfl 2 rfl 21 rfl ?_
    refine j_iload_n C dX4_best_21 rfl 3 rfl 22 rfl ?_
    refine j_iconst C dX4_best_22 (v := 1) c_iconst_1 23 rfl ?_
    obtain ⟨⟨r4, S5⟩, hq3, hf⟩ := bnd hf
    dsimp only at hf
    refine j_callVi (As := [.int a1, .int a2, .int 1]) (rest := []) C (c_X4_bestWay l g sz x S  a1 a2 1 _ _ hq3) (j_cwV C qc_X4_bestWay qm_X4_223 qi_X4_bestWay qs_X4_bestWay qn_X4 hd_X4_bestWay ⟨rfl, rfl⟩ ⟨by decide, by decide⟩) (rcv_mo.cell C.2) rfl (Nat.le_of_ble_eq_true rfl) dX4_best_23 26 rfl ?_
    obtain ⟨rfl, rfl⟩ := Prod.mk.inj (Option.some.inj hf)
    exact j_iret C hr hlk dX4_best_26
  · rw [if_neg c2] at hf
    refine j_aload_n C dX4_best_11 rfl 1 rfl 12 rfl ?_
    refine j_iload_n C dX4_best_12 rfl 0 rfl 13 rfl ?_
    obtain ⟨⟨r7, S8⟩, hq6, hf⟩ := bnd hf
    dsimp only at hf
    refine j_callVi (As := [.int r1]) (rest := []) C (c_X4_finding l g sz x S  r1 _ _ hq6) (j_cwV C qc_X4_finding qm_X4_99 qi_X4_finding qs_X4_finding qn_X4 hd_X4_finding ⟨rfl, rfl⟩ ⟨by decide, by decide⟩) (rcv_mo.cell C.2) rfl (Nat.le_of_ble_eq_true rfl) dX4_best_13 16 rfl ?_
    refine j_goto C dX4_best_16 26 (by decide) ?_
    obtain ⟨rfl, rfl⟩ := Prod.mk.inj (Option.some.inj hf)
    exact j_iret C hr hlk dX4_best_26
set_option maxRecDepth 100000 in
set_option maxHeartbeats 4000000 in
theorem c_X4_wait (l : Launch) (g : GG) (sz : Nat) (x S : St) (a1 : Int32) (a2 : Int32) (r : Int32) (S' : St) (hf : X4_wait a1 a2 S = some (r, S')) : Met l yX4_wait (.code yX4_wait cX4_wait 4 (some .int) :: ALLW) (rmJ 9 209) (PcJ g sz x S [.ref (ad g 56), .int a1, .int a2]) (QiJ g sz r x S') 0 0 (Ag sz) := by
  refine j_met (own := RX4) (by decide) rfl (Nat.le_of_ble_eq_true rfl) rfl ?_
  intro p e s m args below meth c C hr hlk
  unfold X4_wait at hf
  refine j_aload_n C dX4_wait_0 rfl 0 rfl 1 rfl ?_
  refine j_iload_n C dX4_wait_1 rfl 1 rfl 2 rfl ?_
  refine j_iload_n C dX4_wait_2 rfl 2 rfl 3 rfl ?_
  obtain ⟨r1, hr1, hf⟩ := bnd hf
  refine j_callVi (As := [.int a1, .int a2]) (rest := []) C (c_X4_refuses l g sz x S  a1 a2 _ hr1) (j_cwV C qc_X4_refuses qm_X4_216 qi_X4_refuses qs_X4_refuses qn_X4 hd_X4_refuses ⟨rfl, rfl⟩ ⟨by decide, by decide⟩) (rcv_mo.cell C.2) rfl (Nat.le_of_ble_eq_true rfl) dX4_wait_3 6 rfl ?_
  refine j_istore_n (lv2 := [(3, .int r1), (0, .ref (ad g 56)), (1, .int a1), (2, .int a2)]) C dX4_wait_6 rfl (by decide) rfl 7 rfl ?_
  refine j_iload_n C dX4_wait_7 rfl 0 rfl 8 rfl ?_
  refine j_if_eq C dX4_wait_8 19 (by decide) 11 rfl (fun c2 => ?_) (fun c2 => ?_)
  · rw [if_pos c2] at hf
    refine j_aload_n C dX4_wait_19 rfl 1 rfl 20 rfl ?_
    refine j_iload_n C dX4_wait_20 rfl 2 rfl 21 rfl ?_
    refine j_iload_n C dX4_wait_21 rfl 3 rfl 22 rfl ?_
    refine j_bipush C dX4_wait_22 (v := 12) c_bipush_12 24 rfl ?_
    obtain ⟨⟨r4, S5⟩, hq3, hf⟩ := bnd hf
    dsimp only at hf
    refine j_callVi (As := [.int a1, .int a2, .int 12]) (rest := []) C (c_X4_bestWay l g sz x S  a1 a2 12 _ _ hq3) (j_cwV C qc_X4_bestWay qm_X4_223 qi_X4_bestWay qs_X4_bestWay qn_X4 hd_X4_bestWay ⟨rfl, rfl⟩ ⟨by decide, by decide⟩) (rcv_mo.cell C.2) rfl (Nat.le_of_ble_eq_true rfl) dX4_wait_24 27 rfl ?_
    obtain ⟨rfl, rfl⟩ := Prod.mk.inj (Option.some.inj hf)
    exact j_iret C hr hlk dX4_wait_27
  · rw [if_neg c2] at hf
    refine j_aload_n C dX4_wait_11 rfl 1 rfl 12 rfl ?_
    refine j_iload_n C dX4_wait_12 rfl 0 rfl 13 rfl ?_
    obtain ⟨⟨r7, S8⟩, hq6, hf⟩ := bnd hf
    dsimp only at hf
    refine j_callVi (As := [.int r1]) (rest := []) C (c_X4_finding l g sz x S  r1 _ _ hq6) (j_cwV C qc_X4_finding qm_X4_99 qi_X4_finding qs_X4_finding qn_X4 hd_X4_finding ⟨rfl, rfl⟩ ⟨by decide, by decide⟩) (rcv_mo.cell C.2) rfl (Nat.le_of_ble_eq_true rfl) dX4_wait_13 16 rfl ?_
    refine j_goto C dX4_wait_16 27 (by decide) ?_
    obtain ⟨rfl, rfl⟩ := Prod.mk.inj (Option.some.inj hf)
    exact j_iret C hr hlk dX4_wait_27
set_option maxRecDepth 100000 in
set_option maxHeartbeats 4000000 in
theorem c_X4_leastInHand (l : Launch) (g : GG) (sz : Nat) (x S : St) (r : Int32) (hf : X4_leastInHand S = some r) : Met l yX4_leastInHand (.code yX4_leastInHand cX4_leastInHand 2 (some .int) :: ALLW) (rmJ 1 21) (PcJ g sz x S [.ref (ad g 56)]) (QiJ g sz r x S) 0 0 (Ag sz) := by
  refine j_met (own := RX4) (by decide) rfl (Nat.le_of_ble_eq_true rfl) rfl ?_
  intro p e s m args below meth c C hr hlk
  have hL2 : ∀ (n : Nat), ∀ (b1 : Int32) (S : St), X4_leastInHand_L2 n b1 S = some r → Wj p l e (rmJ 1 21) s m args below meth c (MQ below (QiJ g sz r x S) args s 0 0 (Ag sz)) 2 g sz x S 2 [(0, .ref (ad g 56)), (1, .int b1)] [] := by
    intro  n
    induction n with
    | zero =>
      intro b1 S hf
      rw [X4_leastInHand_L2] at hf
      cases hf
    | succ n ih =>
      intro b1 S hf
      rw [X4_leastInHand_L2] at hf
      refine j_iload_n C dX4_leastInHand_2 rfl 1 rfl 3 rfl ?_
      refine j_aload_n C dX4_leastInHand_3 rfl 0 rfl 4 rfl ?_
      refine j4_get C 0 (by decide) qf_X4_9 (v := .ref (ad g 57)) rfl dX4_leastInHand_4 7 rfl ?_
      refine j_iconst C dX4_leastInHand_7 (v := 4) c_iconst_4 8 rfl ?_
      obtain ⟨v1, hv1, hf⟩ := bnd hf
      refine j4_ald 1 rfl C hv1 dX4_leastInHand_8 9 rfl ?_
      refine j_icmp_ge C dX4_leastInHand_9 26 (by decide) 12 rfl (fun c2 => ?_) (fun c2 => ?_)
      · rw [if_pos c2] at hf
        refine j_iload_n C dX4_leastInHand_26 rfl 1 rfl 27 rfl ?_
        obtain rfl := Option.some.inj hf
        exact j_iret C hr hlk dX4_leastInHand_27
      · rw [if_neg c2] at hf
        refine j_aload_n C dX4_leastInHand_12 rfl 0 rfl 13 rfl ?_
        refine j_iload_n C dX4_leastInHand_13 rfl 1 rfl 14 rfl ?_
        obtain ⟨r3, hr3, hf⟩ := bnd hf
        refine j_callVi (As := [.int b1]) (rest := []) C (c_X4_isInHand l g sz x S  b1 _ hr3) (j_cwV C qc_X4_isInHand qm_X4_183 qi_X4_isInHand qs_X4_isInHand qn_X4 hd_X4_isInHand ⟨rfl, rfl⟩ ⟨by decide, by decide⟩) (rcv_mo.cell C.2) rfl (Nat.le_of_ble_eq_true rfl) dX4_leastInHand_14 17 rfl ?_
        refine j_if_ne C dX4_leastInHand_17 26 (by decide) 20 rfl (fun c4 => ?_) (fun c4 => ?_)
        · rw [if_neg c4] at hf
          refine j_iload_n C dX4_leastInHand_26 rfl 1 rfl 27 rfl ?_
          obtain rfl := Option.some.inj hf
          exact j_iret C hr hlk dX4_leastInHand_27
        · rw [if_pos c4] at hf
          refine j_iinc (lv2 := [(1, .int (b1 + 1)), (0, .ref (ad g 56))]) C dX4_leastInHand_20 (k := 1) rfl (congrArg (HAdd.hAdd b1) c_oi_1) (by decide) rfl 23 rfl ?_
          refine j_goto C dX4_leastInHand_23 2 (by decide) ?_
          refine j_sub [1, 0] rfl ?_
          exact ih (b1 + 1) S hf
  unfold X4_leastInHand at hf
  refine j_iconst C dX4_leastInHand_0 (v := 0) c_iconst_0 1 rfl ?_
  refine j_istore_n (lv2 := [(1, .int 0), (0, .ref (ad g 56))]) C dX4_leastInHand_1 rfl (by decide) rfl 2 rfl ?_
  refine j_sub [1, 0] rfl ?_
  exact hL2 FU 0 S hf
set_option maxRecDepth 100000 in
set_option maxHeartbeats 4000000 in
theorem c_X4_ways (l : Launch) (g : GG) (sz : Nat) (x mm : St) (a0 : Int32) (r : Int32) (hf : X4_ways a0 = r) : Met l yX4_ways (.code yX4_ways cX4_ways 1 (some .int) :: ALLW) (rmJ 0 0) (PcJ g sz x mm [.int a0]) (QiJ g sz r x mm) 0 0 (Ag sz) := by
  refine j_met (own := RX4) (by decide) rfl (Nat.le_of_ble_eq_true rfl) rfl ?_
  intro p e s m args below meth c C hr hlk
  unfold X4_ways at hf
  refine j_iload_n C dX4_ways_0 rfl 0 rfl 1 rfl ?_
  refine j_if_ne C dX4_ways_1 8 (by decide) 4 rfl (fun c1 => ?_) (fun c1 => ?_)
  · rw [if_neg c1] at hf
    refine j_iload_n C dX4_ways_8 rfl 0 rfl 9 rfl ?_
    refine j_iconst C dX4_ways_9 (v := 1) c_iconst_1 10 rfl ?_
    refine j_icmp_ne C dX4_ways_10 18 (by decide) 13 rfl (fun c2 => ?_) (fun c2 => ?_)
    · rw [if_neg c2] at hf
      refine j_iload_n C dX4_ways_18 rfl 0 rfl 19 rfl ?_
      refine j_iconst C dX4_ways_19 (v := 2) c_iconst_2 20 rfl ?_
      refine j_icmp_ne C dX4_ways_20 28 (by decide) 23 rfl (fun c3 => ?_) (fun c3 => ?_)
      · rw [if_neg c3] at hf
        refine j_sipush C dX4_ways_28 (v := 343) c_sipush_343 31 rfl ?_
        subst hf
        exact j_iret C hr hlk dX4_ways_31
      · rw [if_pos c3] at hf
        refine j_bipush C dX4_ways_23 (v := 49) c_bipush_49 25 rfl ?_
        refine j_goto C dX4_ways_25 31 (by decide) ?_
        subst hf
        exact j_iret C hr hlk dX4_ways_31
    · rw [if_pos c2] at hf
      refine j_bipush C dX4_ways_13 (v := 7) c_bipush_7 15 rfl ?_
      refine j_goto C dX4_ways_15 31 (by decide) ?_
      subst hf
      exact j_iret C hr hlk dX4_ways_31
  · rw [if_pos c1] at hf
    refine j_iconst C dX4_ways_4 (v := 1) c_iconst_1 5 rfl ?_
    refine j_goto C dX4_ways_5 31 (by decide) ?_
    subst hf
    exact j_iret C hr hlk dX4_ways_31
set_option maxRecDepth 100000 in
set_option maxHeartbeats 4000000 in
theorem c_X4_columnOf (l : Launch) (g : GG) (sz : Nat) (x mm : St) (a0 : Int32) (a1 : Int32) (a2 : Int32) (r : Int32) (hf : X4_columnOf a0 a1 a2 = some r) : Met l yX4_columnOf (.code yX4_columnOf cX4_columnOf 3 (some .int) :: ALLW) (rmJ 1 20) (PcJ g sz x mm [.int a0, .int a1, .int a2]) (QiJ g sz r x mm) 0 0 (Ag sz) := by
  refine j_met (own := RX4) (by decide) rfl (Nat.le_of_ble_eq_true rfl) rfl ?_
  intro p e s m args below meth c C hr hlk
  unfold X4_columnOf at hf
  refine j_iload_n C dX4_columnOf_0 rfl 0 rfl 1 rfl ?_
  refine j_iload_n C dX4_columnOf_1 rfl 1 rfl 2 rfl ?_
  refine j_iconst C dX4_columnOf_2 (v := 1) c_iconst_1 3 rfl ?_
  refine j_isub C dX4_columnOf_3 4 rfl ?_
  refine j_iload_n C dX4_columnOf_4 rfl 2 rfl 5 rfl ?_
  refine j_isub C dX4_columnOf_5 6 rfl ?_
  refine j_callSi (As := [.int ((a1 - 1) - a2)]) (rest := [.int a0]) C (c_X4_ways l g sz x mm ((a1 - 1) - a2) _ rfl) (j_cwS C qc_X4_ways qm_X4_227 qs_X4_ways qn_X4 hd_X4_ways ⟨rfl, rfl⟩ ⟨by decide, by decide⟩)  rfl (Nat.le_of_ble_eq_true rfl) dX4_columnOf_6 9 rfl ?_
  obtain ⟨v1, hv1, hf⟩ := bnd hf
  refine j_idiv C dX4_columnOf_9 hv1 10 rfl ?_
  refine j_bipush C dX4_columnOf_10 (v := 7) c_bipush_7 12 rfl ?_
  refine j_iremc C dX4_columnOf_12 (by decide) 13 rfl ?_
  obtain rfl := Option.some.inj hf
  exact j_iret C hr hlk dX4_columnOf_13
set_option maxRecDepth 100000 in
set_option maxHeartbeats 4000000 in
theorem c_X4_dropsBy (l : Launch) (g : GG) (sz : Nat) (x S : St) (a1 : Int32) (a2 : Int32) (S' : St) (hf : X4_dropsBy a1 a2 S = some S') : Met l yX4_dropsBy (.code yX4_dropsBy cX4_dropsBy 4 none :: ALLW) (rmJ 7 156) (PcJ g sz x S [.ref (ad g 56), .int a1, .int a2]) (QvJ g sz x S') 0 0 (Ag sz) := by
  refine j_met (own := RX4) (by decide) rfl (Nat.le_of_ble_eq_true rfl) rfl ?_
  intro p e s m args below meth c C hr hlk
  have hL2 : ∀ (n : Nat), ∀ (b1 : Int32) (b2 : Int32) (b3 : Int32) (S : St), X4_dropsBy_L2 n b1 b2 b3 S = some S' → Wj p l e (rmJ 7 156) s m args below meth c (MQ below (QvJ g sz x S') args s 0 0 (Ag sz)) 4 g sz x S 2 [(0, .ref (ad g 56)), (1, .int b1), (2, .int b2), (3, .int b3)] [] := by
    intro  n
    induction n with
    | zero =>
      intro b1 b2 b3 S hf
      rw [X4_dropsBy_L2] at hf
      cases hf
    | succ n ih =>
      intro b1 b2 b3 S hf
      rw [X4_dropsBy_L2] at hf
      refine j_iload_n C dX4_dropsBy_2 rfl 3 rfl 3 rfl ?_
      refine j_iload_n C dX4_dropsBy_3 rfl 2 rfl 4 rfl ?_
      refine j_icmp_ge C dX4_dropsBy_4 27 (by decide) 7 rfl (fun c1 => ?_) (fun c1 => ?_)
      · rw [if_pos c1] at hf
        obtain rfl := Option.some.inj hf
        exact j_vret C hr hlk dX4_dropsBy_27
      · rw [if_neg c1] at hf
        refine j_aload_n C dX4_dropsBy_7 rfl 0 rfl 8 rfl ?_
        refine j_aload_n C dX4_dropsBy_8 rfl 0 rfl 9 rfl ?_
        obtain ⟨r2, hr2, hf⟩ := bnd hf
        refine j_callVi (As := []) (rest := [.ref (ad g 56)]) C (c_X4_leastInHand l g sz x S   _ hr2) (j_cwV C qc_X4_leastInHand qm_X4_230 qi_X4_leastInHand qs_X4_leastInHand qn_X4 hd_X4_leastInHand ⟨rfl, rfl⟩ ⟨by decide, by decide⟩) (rcv_mo.cell C.2) rfl (Nat.le_of_ble_eq_true rfl) dX4_dropsBy_9 12 rfl ?_
        refine j_iload_n C dX4_dropsBy_12 rfl 1 rfl 13 rfl ?_
        refine j_iload_n C dX4_dropsBy_13 rfl 2 rfl 14 rfl ?_
        refine j_iload_n C dX4_dropsBy_14 rfl 3 rfl 15 rfl ?_
        obtain ⟨r3, hr3, hf⟩ := bnd hf
        refine j_callSi (As := [.int b1, .int b2, .int b3]) (rest := [.int r2, .ref (ad g 56)]) C (c_X4_columnOf l g sz x S b1 b2 b3 _ hr3) (j_cwS C qc_X4_columnOf qm_X4_233 qs_X4_columnOf qn_X4 hd_X4_columnOf ⟨rfl, rfl⟩ ⟨by decide, by decide⟩)  rfl (Nat.le_of_ble_eq_true rfl) dX4_dropsBy_15 18 rfl ?_
        obtain ⟨S4, hS4, hf⟩ := bnd hf
        refine j_callVv (As := [.int r2, .int r3]) (rest := []) C (c_X4_dropped l g sz x S  r2 r3 _ hS4) (j_cwV C qc_X4_dropped qm_X4_190 qi_X4_dropped qs_X4_dropped qn_X4 hd_X4_dropped ⟨rfl, rfl⟩ ⟨by decide, by decide⟩) (rcv_mo.cell C.2) rfl (Nat.le_of_ble_eq_true rfl) dX4_dropsBy_18 21 rfl ?_
        refine j_iinc (lv2 := [(3, .int (b3 + 1)), (0, .ref (ad g 56)), (1, .int b1), (2, .int b2)]) C dX4_dropsBy_21 (k := 3) rfl (congrArg (HAdd.hAdd b3) c_oi_1) (by decide) rfl 24 rfl ?_
        refine j_goto C dX4_dropsBy_24 2 (by decide) ?_
        refine j_sub [1, 2, 3, 0] rfl ?_
        exact ih b1 b2 (b3 + 1) S4 hf
  unfold X4_dropsBy at hf
  refine j_iconst C dX4_dropsBy_0 (v := 0) c_iconst_0 1 rfl ?_
  refine j_istore_n (lv2 := [(3, .int 0), (0, .ref (ad g 56)), (1, .int a1), (2, .int a2)]) C dX4_dropsBy_1 rfl (by decide) rfl 2 rfl ?_
  refine j_sub [1, 2, 3, 0] rfl ?_
  exact hL2 FU a1 a2 0 S hf
set_option maxRecDepth 100000 in
set_option maxHeartbeats 4000000 in
theorem c_X4_refusesThree (l : Launch) (g : GG) (sz : Nat) (x S : St) (a1 : Int32) (r : Int32) (S' : St) (hf : X4_refusesThree a1 S = some (r, S')) : Met l yX4_refusesThree (.code yX4_refusesThree cX4_refusesThree 5 (some .int) :: ALLW) (rmJ 8 179) (PcJ g sz x S [.ref (ad g 56), .int a1]) (QiJ g sz r x S') 0 0 (Ag sz) := by
  refine j_met (own := RX4) (by decide) rfl (Nat.le_of_ble_eq_true rfl) rfl ?_
  intro p e s m args below meth c C hr hlk
  have hL113 : ∀ (k59 : Int32 → Int32 → St → Option (Int32 × St)) (_ : ∀ (b1 : Int32) (b2 : Int32) (S : St), k59 b1 b2 S = some (r, S') → Wj p l e (rmJ 8 179) s m args below meth c (MQ below (QiJ g sz r x S') args s 0 0 (Ag sz)) 5 g sz x S 59 [(0, .ref (ad g 56)), (1, .int b1), (2, .int b2)] []), ∀ (b1 : Int32) (b2 : Int32) (b4 : Int32) (S : St), X4_refusesThree_L113 k59 b1 b2 b4 S = some (r, S') → Wj p l e (rmJ 8 179) s m args below meth c (MQ below (QiJ g sz r x S') args s 0 0 (Ag sz)) 5 g sz x S 113 [(0, .ref (ad g 56)), (1, .int b1), (2, .int b2), (4, .int b4)] [] := by
    intro k59 hk59 b1 b2 b4 S hf
    unfold X4_refusesThree_L113 at hf
    refine j_aload_n C dX4_refusesThree_113 rfl 0 rfl 114 rfl ?_
    refine j_iload_n C dX4_refusesThree_114 rfl 2 rfl 115 rfl ?_
    obtain ⟨S20, hS20, hf⟩ := bnd hf
    refine j4_put C 7 rfl rfl rfl qf_X4_239 dX4_refusesThree_115 118 rfl ?_
    rw [Option.some.inj hS20]
    refine j_aload_n C dX4_refusesThree_118 rfl 0 rfl 119 rfl ?_
    refine j_iload C dX4_refusesThree_119 3 rfl 121 rfl ?_
    obtain ⟨S21, hS21, hf⟩ := bnd hf
    refine j4_put C 8 rfl rfl rfl qf_X4_245 dX4_refusesThree_121 124 rfl ?_
    rw [Option.some.inj hS21]
    refine j_iinc (lv2 := [(2, .int (b2 + 1)), (0, .ref (ad g 56)), (1, .int b1), (4, .int b4)]) C dX4_refusesThree_124 (k := 2) rfl (congrArg (HAdd.hAdd b2) c_oi_1) (by decide) rfl 127 rfl ?_
    refine j_goto C dX4_refusesThree_127 59 (by decide) ?_
    refine j_sub [1, 2, 0] rfl ?_
    exact hk59 b1 (b2 + 1) S21 hf
  have hL92 : ∀ (k59 : Int32 → Int32 → St → Option (Int32 × St)) (_ : ∀ (b1 : Int32) (b2 : Int32) (S : St), k59 b1 b2 S = some (r, S') → Wj p l e (rmJ 8 179) s m args below meth c (MQ below (QiJ g sz r x S') args s 0 0 (Ag sz)) 5 g sz x S 59 [(0, .ref (ad g 56)), (1, .int b1), (2, .int b2)] []), ∀ (b1 : Int32) (b2 : Int32) (t0 : Int32) (S : St), X4_refusesThree_L92 k59 b1 b2 t0 S = some (r, S') → Wj p l e (rmJ 8 179) s m args below meth c (MQ below (QiJ g sz r x S') args s 0 0 (Ag sz)) 5 g sz x S 92 [(0, .ref (ad g 56)), (1, .int b1), (2, .int b2)] [.int t0, .ref (ad g 56)] := by
    intro k59 hk59 b1 b2 t0 S hf
    unfold X4_refusesThree_L92 at hf
    obtain ⟨⟨r17, S18⟩, hq16, hf⟩ := bnd hf
    dsimp only at hf
    refine j_callVi (As := [.int t0]) (rest := []) C (c_X4_putBack l g sz x S  t0 _ _ hq16) (j_cwV C qc_X4_putBack qm_X4_210 qi_X4_putBack qs_X4_putBack qn_X4 hd_X4_putBack ⟨rfl, rfl⟩ ⟨by decide, by decide⟩) (rcv_mo.cell C.2) rfl (Nat.le_of_ble_eq_true rfl) dX4_refusesThree_92 95 rfl ?_
    refine j_istore (lv2 := [(4, .int r17), (0, .ref (ad g 56)), (1, .int b1), (2, .int b2)]) C dX4_refusesThree_95 (by decide) rfl 97 rfl ?_
    refine j_aload_n C dX4_refusesThree_97 rfl 1 rfl 98 rfl ?_
    refine j4_get C 7 (by decide) qf_X4_239 (v := .int (S18 0 7)) rfl dX4_refusesThree_98 101 rfl ?_
    refine j_if_lt C dX4_refusesThree_101 113 (by decide) 104 rfl (fun c19 => ?_) (fun c19 => ?_)
    · rw [if_pos c19] at hf
      refine j_sub [1, 2, 3, 0] rfl ?_
      exact hL113 k59 hk59 b1 b2 r17 S18 hf
    · rw [if_neg c19] at hf
      refine j_iload C dX4_refusesThree_104 0 rfl 106 rfl ?_
      refine j_aload_n C dX4_refusesThree_106 rfl 1 rfl 107 rfl ?_
      refine j4_get C 8 (by decide) qf_X4_245 (v := .int (S18 0 8)) rfl dX4_refusesThree_107 110 rfl ?_
      refine j_icmp_le C dX4_refusesThree_110 124 (by decide) 113 rfl (fun c22 => ?_) (fun c22 => ?_)
      · rw [if_pos c22] at hf
        refine j_iinc (lv2 := [(2, .int (b2 + 1)), (4, .int r17), (0, .ref (ad g 56)), (1, .int b1)]) C dX4_refusesThree_124 (k := 3) rfl (congrArg (HAdd.hAdd b2) c_oi_1) (by decide) rfl 127 rfl ?_
        refine j_goto C dX4_refusesThree_127 59 (by decide) ?_
        refine j_sub [2, 3, 0] rfl ?_
        exact hk59 b1 (b2 + 1) S18 hf
      · rw [if_neg c22] at hf
        refine j_sub [1, 2, 3, 0] rfl ?_
        exact hL113 k59 hk59 b1 b2 r17 S18 hf
  have hL59 : ∀ (n : Nat), ∀ (b1 : Int32) (b2 : Int32) (S : St), X4_refusesThree_L59 n b1 b2 S = some (r, S') → Wj p l e (rmJ 8 179) s m args below meth c (MQ below (QiJ g sz r x S') args s 0 0 (Ag sz)) 5 g sz x S 59 [(0, .ref (ad g 56)), (1, .int b1), (2, .int b2)] [] := by
    intro  n
    induction n with
    | zero =>
      intro b1 b2 S hf
      rw [X4_refusesThree_L59] at hf
      cases hf
    | succ n ih =>
      intro b1 b2 S hf
      rw [X4_refusesThree_L59] at hf
      refine j_iload_n C dX4_refusesThree_59 rfl 2 rfl 60 rfl ?_
      refine j_iconst C dX4_refusesThree_60 (v := 3) c_iconst_3 61 rfl ?_
      refine j_callSi (As := [.int 3]) (rest := [.int b2]) C (c_X4_ways l g sz x S 3 _ rfl) (j_cwS C qc_X4_ways qm_X4_227 qs_X4_ways qn_X4 hd_X4_ways ⟨rfl, rfl⟩ ⟨by decide, by decide⟩)  rfl (Nat.le_of_ble_eq_true rfl) dX4_refusesThree_61 64 rfl ?_
      refine j_icmp_ge C dX4_refusesThree_64 130 (by decide) 67 rfl (fun c9 => ?_) (fun c9 => ?_)
      · rw [if_pos c9] at hf
        refine j_iconst C dX4_refusesThree_130 (v := 0) c_iconst_0 131 rfl ?_
        obtain ⟨rfl, rfl⟩ := Prod.mk.inj (Option.some.inj hf)
        exact j_iret C hr hlk dX4_refusesThree_131
      · rw [if_neg c9] at hf
        refine j_aload_n C dX4_refusesThree_67 rfl 0 rfl 68 rfl ?_
        refine j_iload_n C dX4_refusesThree_68 rfl 2 rfl 69 rfl ?_
        refine j_iconst C dX4_refusesThree_69 (v := 3) c_iconst_3 70 rfl ?_
        obtain ⟨S10, hS10, hf⟩ := bnd hf
        refine j_callVv (As := [.int b2, .int 3]) (rest := []) C (c_X4_dropsBy l g sz x S  b2 3 _ hS10) (j_cwV C qc_X4_dropsBy qm_X4_242 qi_X4_dropsBy qs_X4_dropsBy qn_X4 hd_X4_dropsBy ⟨rfl, rfl⟩ ⟨by decide, by decide⟩) (rcv_mo.cell C.2) rfl (Nat.le_of_ble_eq_true rfl) dX4_refusesThree_70 73 rfl ?_
        refine j_aload_n C dX4_refusesThree_73 rfl 0 rfl 74 rfl ?_
        refine j_iload_n C dX4_refusesThree_74 rfl 1 rfl 75 rfl ?_
        obtain ⟨⟨r12, S13⟩, hq11, hf⟩ := bnd hf
        dsimp only at hf
        refine j_callVi (As := [.int b1]) (rest := []) C (c_X4_beatsGo l g sz x S10  b1 _ _ hq11) (j_cwV C qc_X4_beatsGo qm_X4_196 qi_X4_beatsGo qs_X4_beatsGo qn_X4 hd_X4_beatsGo ⟨rfl, rfl⟩ ⟨by decide, by decide⟩) (rcv_mo.cell C.2) rfl (Nat.le_of_ble_eq_true rfl) dX4_refusesThree_75 78 rfl ?_
        refine j_istore_n (lv2 := [(3, .int r12), (0, .ref (ad g 56)), (1, .int b1), (2, .int b2)]) C dX4_refusesThree_78 rfl (by decide) rfl 79 rfl ?_
        refine j_aload_n C dX4_refusesThree_79 rfl 1 rfl 80 rfl ?_
        refine j_iload_n C dX4_refusesThree_80 rfl 0 rfl 81 rfl ?_
        refine j_if_ge C dX4_refusesThree_81 88 (by decide) 84 rfl (fun c14 => ?_) (fun c14 => ?_)
        · rw [if_pos c14] at hf
          refine j_aload_n C dX4_refusesThree_88 rfl 1 rfl 89 rfl ?_
          obtain ⟨r15, hr15, hf⟩ := bnd hf
          refine j_callVi (As := []) (rest := [.ref (ad g 56)]) C (c_X4_gain l g sz x S13   _ hr15) (j_cwV C qc_X4_gain qm_X4_186 qi_X4_gain qs_X4_gain qn_X4 hd_X4_gain ⟨rfl, rfl⟩ ⟨by decide, by decide⟩) (rcv_mo.cell C.2) rfl (Nat.le_of_ble_eq_true rfl) dX4_refusesThree_89 92 rfl ?_
          refine j_sub [1, 2, 3] rfl ?_
          exact hL92 _ ih b1 b2 r15 S13 hf
        · rw [if_neg c14] at hf
          refine j_iload_n C dX4_refusesThree_84 rfl 0 rfl 85 rfl ?_
          refine j_goto C dX4_refusesThree_85 92 (by decide) ?_
          refine j_sub [1, 2, 3] rfl ?_
          exact hL92 _ ih b1 b2 r12 S13 hf
  unfold X4_refusesThree at hf
  refine j_iload_n C dX4_refusesThree_0 rfl 1 rfl 1 rfl ?_
  refine j_iconst C dX4_refusesThree_1 (v := 0) c_iconst_0 2 rfl ?_
  refine j_bipush C dX4_refusesThree_2 (v := 20) c_bipush_20 4 rfl ?_
  refine j_callSi (As := [.int a1, .int 0, .int 20]) (rest := []) C (c_X4_within l g sz x S a1 0 20 _ rfl) (j_cwS C qc_X4_within qm_X4_77 qs_X4_within qn_X4 hd_X4_within ⟨rfl, rfl⟩ ⟨by decide, by decide⟩)  rfl (Nat.le_of_ble_eq_true rfl) dX4_refusesThree_4 7 rfl ?_
  refine j_if_ne C dX4_refusesThree_7 13 (by decide) 10 rfl (fun c1 => ?_) (fun c1 => ?_)
  · rw [if_neg c1] at hf
    refine j_aload_n C dX4_refusesThree_13 rfl 0 rfl 14 rfl ?_
    refine j_bipush C dX4_refusesThree_14 (v := 100) c_bipush_100 16 rfl ?_
    obtain ⟨r2, hr2, hf⟩ := bnd hf
    refine j_callVi (As := [.int 100]) (rest := []) C (c_X4_setOf l g sz x S  100 _ hr2) (j_cwV C qc_X4_setOf qm_X4_177 qi_X4_setOf qs_X4_setOf qn_X4 hd_X4_setOf ⟨rfl, rfl⟩ ⟨by decide, by decide⟩) (rcv_mo.cell C.2) rfl (Nat.le_of_ble_eq_true rfl) dX4_refusesThree_16 19 rfl ?_
    obtain ⟨r3, hr3, hf⟩ := bnd hf
    refine j_callSi (As := [.int r2]) (rest := []) C (c_X4_bits l g sz x S r2 _ hr3) (j_cwS C qc_X4_bits qm_X4_236 qs_X4_bits qn_X4 hd_X4_bits ⟨rfl, rfl⟩ ⟨by decide, by decide⟩)  rfl (Nat.le_of_ble_eq_true rfl) dX4_refusesThree_19 22 rfl ?_
    refine j_iconst C dX4_refusesThree_22 (v := 3) c_iconst_3 23 rfl ?_
    refine j_icmp_lt C dX4_refusesThree_23 38 (by decide) 26 rfl (fun c4 => ?_) (fun c4 => ?_)
    · rw [if_pos c4] at hf
      refine j_ldc C dX4_refusesThree_38 qk_X4_137 40 rfl ?_
      obtain ⟨rfl, rfl⟩ := Prod.mk.inj (Option.some.inj hf)
      exact j_iret C hr hlk dX4_refusesThree_40
    · rw [if_neg c4] at hf
      refine j_aload_n C dX4_refusesThree_26 rfl 0 rfl 27 rfl ?_
      refine j4_get C 0 (by decide) qf_X4_9 (v := .ref (ad g 57)) rfl dX4_refusesThree_27 30 rfl ?_
      refine j_iconst C dX4_refusesThree_30 (v := 0) c_iconst_0 31 rfl ?_
      obtain ⟨v5, hv5, hf⟩ := bnd hf
      refine j4_ald 1 rfl C hv5 dX4_refusesThree_31 32 rfl ?_
      refine j_sipush C dX4_refusesThree_32 (v := 9900) c_sipush_9900 35 rfl ?_
      refine j_icmp_le C dX4_refusesThree_35 41 (by decide) 38 rfl (fun c6 => ?_) (fun c6 => ?_)
      · rw [if_pos c6] at hf
        refine j_aload_n C dX4_refusesThree_41 rfl 0 rfl 42 rfl ?_
        refine j4_get C 0 (by decide) qf_X4_9 (v := .ref (ad g 57)) rfl dX4_refusesThree_42 45 rfl ?_
        refine j_aload_n C dX4_refusesThree_45 rfl 0 rfl 46 rfl ?_
        refine j4_get C 2 (by decide) qf_X4_16 (v := .ref (ad g 59)) rfl dX4_refusesThree_46 49 rfl ?_
        obtain ⟨S7, hS7, hf⟩ := bnd hf
        refine j_callSv (As := [.ref (ad g 57), .ref (ad g 59)]) (rest := []) C (c_X4_copyRow l g sz x S  1 rfl 3 rfl _ hS7) (j_cwS C qc_X4_copyRow qm_X4_73 qs_X4_copyRow qn_X4 hd_X4_copyRow ⟨rfl, rfl⟩ ⟨by decide, by decide⟩)  rfl (Nat.le_of_ble_eq_true rfl) dX4_refusesThree_49 52 rfl ?_
        refine j_aload_n C dX4_refusesThree_52 rfl 0 rfl 53 rfl ?_
        refine j_iconst C dX4_refusesThree_53 (v := (-1)) c_iconst_m1 54 rfl ?_
        obtain ⟨S8, hS8, hf⟩ := bnd hf
        refine j4_put C 7 rfl rfl rfl qf_X4_239 dX4_refusesThree_54 57 rfl ?_
        rw [Option.some.inj hS8]
        refine j_iconst C dX4_refusesThree_57 (v := 0) c_iconst_0 58 rfl ?_
        refine j_istore_n (lv2 := [(2, .int 0), (0, .ref (ad g 56)), (1, .int a1)]) C dX4_refusesThree_58 rfl (by decide) rfl 59 rfl ?_
        refine j_sub [1, 2, 0] rfl ?_
        exact hL59 FU a1 0 S8 hf
      · rw [if_neg c6] at hf
        refine j_ldc C dX4_refusesThree_38 qk_X4_137 40 rfl ?_
        obtain ⟨rfl, rfl⟩ := Prod.mk.inj (Option.some.inj hf)
        exact j_iret C hr hlk dX4_refusesThree_40
  · rw [if_pos c1] at hf
    refine j_ldc C dX4_refusesThree_10 qk_X4_72 12 rfl ?_
    obtain ⟨rfl, rfl⟩ := Prod.mk.inj (Option.some.inj hf)
    exact j_iret C hr hlk dX4_refusesThree_12
set_option maxRecDepth 100000 in
set_option maxHeartbeats 4000000 in
theorem c_X4_three (l : Launch) (g : GG) (sz : Nat) (x S : St) (a1 : Int32) (r : Int32) (S' : St) (hf : X4_three a1 S = some (r, S')) : Met l yX4_three (.code yX4_three cX4_three 3 (some .int) :: ALLW) (rmJ 9 203) (PcJ g sz x S [.ref (ad g 56), .int a1]) (QiJ g sz r x S') 0 0 (Ag sz) := by
  refine j_met (own := RX4) (by decide) rfl (Nat.le_of_ble_eq_true rfl) rfl ?_
  intro p e s m args below meth c C hr hlk
  unfold X4_three at hf
  refine j_aload_n C dX4_three_0 rfl 0 rfl 1 rfl ?_
  refine j_iload_n C dX4_three_1 rfl 1 rfl 2 rfl ?_
  obtain ⟨⟨r2, S3⟩, hq1, hf⟩ := bnd hf
  dsimp only at hf
  refine j_callVi (As := [.int a1]) (rest := []) C (c_X4_refusesThree l g sz x S  a1 _ _ hq1) (j_cwV C qc_X4_refusesThree qm_X4_248 qi_X4_refusesThree qs_X4_refusesThree qn_X4 hd_X4_refusesThree ⟨rfl, rfl⟩ ⟨by decide, by decide⟩) (rcv_mo.cell C.2) rfl (Nat.le_of_ble_eq_true rfl) dX4_three_2 5 rfl ?_
  refine j_istore_n (lv2 := [(2, .int r2), (0, .ref (ad g 56)), (1, .int a1)]) C dX4_three_5 rfl (by decide) rfl 6 rfl ?_
  refine j_iload_n C dX4_three_6 rfl 0 rfl 7 rfl ?_
  refine j_if_eq C dX4_three_7 18 (by decide) 10 rfl (fun c4 => ?_) (fun c4 => ?_)
  · rw [if_pos c4] at hf
    refine j_bipush C dX4_three_18 (v := 100) c_bipush_100 20 rfl ?_
    refine j_aload_n C dX4_three_20 rfl 1 rfl 21 rfl ?_
    refine j4_get C 7 (by decide) qf_X4_239 (v := .int (S3 0 7)) rfl dX4_three_21 24 rfl ?_
    refine j_iconst C dX4_three_24 (v := 3) c_iconst_3 25 rfl ?_
    refine j_iconst C dX4_three_25 (v := 0) c_iconst_0 26 rfl ?_
    obtain ⟨r5, hr5, hf⟩ := bnd hf
    refine j_callSi (As := [.int (S3 0 7), .int 3, .int 0]) (rest := [.int 100]) C (c_X4_columnOf l g sz x S3 (S3 0 7) 3 0 _ hr5) (j_cwS C qc_X4_columnOf qm_X4_233 qs_X4_columnOf qn_X4 hd_X4_columnOf ⟨rfl, rfl⟩ ⟨by decide, by decide⟩)  rfl (Nat.le_of_ble_eq_true rfl) dX4_three_26 29 rfl ?_
    refine j_imul C dX4_three_29 30 rfl ?_
    refine j_bipush C dX4_three_30 (v := 10) c_bipush_10 32 rfl ?_
    refine j_aload_n C dX4_three_32 rfl 1 rfl 33 rfl ?_
    refine j4_get C 7 (by decide) qf_X4_239 (v := .int (S3 0 7)) rfl dX4_three_33 36 rfl ?_
    refine j_iconst C dX4_three_36 (v := 3) c_iconst_3 37 rfl ?_
    refine j_iconst C dX4_three_37 (v := 1) c_iconst_1 38 rfl ?_
    obtain ⟨r6, hr6, hf⟩ := bnd hf
    refine j_callSi (As := [.int (S3 0 7), .int 3, .int 1]) (rest := [.int 10, .int (100 * r5)]) C (c_X4_columnOf l g sz x S3 (S3 0 7) 3 1 _ hr6) (j_cwS C qc_X4_columnOf qm_X4_233 qs_X4_columnOf qn_X4 hd_X4_columnOf ⟨rfl, rfl⟩ ⟨by decide, by decide⟩)  rfl (Nat.le_of_ble_eq_true rfl) dX4_three_38 41 rfl ?_
    refine j_imul C dX4_three_41 42 rfl ?_
    refine j_iadd C dX4_three_42 43 rfl ?_
    refine j_aload_n C dX4_three_43 rfl 1 rfl 44 rfl ?_
    refine j4_get C 7 (by decide) qf_X4_239 (v := .int (S3 0 7)) rfl dX4_three_44 47 rfl ?_
    refine j_iconst C dX4_three_47 (v := 3) c_iconst_3 48 rfl ?_
    refine j_iconst C dX4_three_48 (v := 2) c_iconst_2 49 rfl ?_
    obtain ⟨r7, hr7, hf⟩ := bnd hf
    refine j_callSi (As := [.int (S3 0 7), .int 3, .int 2]) (rest := [.int ((100 * r5) + (10 * r6))]) C (c_X4_columnOf l g sz x S3 (S3 0 7) 3 2 _ hr7) (j_cwS C qc_X4_columnOf qm_X4_233 qs_X4_columnOf qn_X4 hd_X4_columnOf ⟨rfl, rfl⟩ ⟨by decide, by decide⟩)  rfl (Nat.le_of_ble_eq_true rfl) dX4_three_49 52 rfl ?_
    refine j_iadd C dX4_three_52 53 rfl ?_
    obtain ⟨rfl, rfl⟩ := Prod.mk.inj (Option.some.inj hf)
    exact j_iret C hr hlk dX4_three_53
  · rw [if_neg c4] at hf
    refine j_aload_n C dX4_three_10 rfl 1 rfl 11 rfl ?_
    refine j_iload_n C dX4_three_11 rfl 0 rfl 12 rfl ?_
    obtain ⟨⟨r9, S10⟩, hq8, hf⟩ := bnd hf
    dsimp only at hf
    refine j_callVi (As := [.int r2]) (rest := []) C (c_X4_finding l g sz x S3  r2 _ _ hq8) (j_cwV C qc_X4_finding qm_X4_99 qi_X4_finding qs_X4_finding qn_X4 hd_X4_finding ⟨rfl, rfl⟩ ⟨by decide, by decide⟩) (rcv_mo.cell C.2) rfl (Nat.le_of_ble_eq_true rfl) dX4_three_12 15 rfl ?_
    refine j_goto C dX4_three_15 53 (by decide) ?_
    obtain ⟨rfl, rfl⟩ := Prod.mk.inj (Option.some.inj hf)
    exact j_iret C hr hlk dX4_three_53
set_option maxRecDepth 100000 in
set_option maxHeartbeats 4000000 in
theorem c_X4_threeBring (l : Launch) (g : GG) (sz : Nat) (x S : St) (a1 : Int32) (r : Int32) (S' : St) (hf : X4_threeBring a1 S = some (r, S')) : Met l yX4_threeBring (.code yX4_threeBring cX4_threeBring 3 (some .int) :: ALLW) (rmJ 9 203) (PcJ g sz x S [.ref (ad g 56), .int a1]) (QiJ g sz r x S') 0 0 (Ag sz) := by
  refine j_met (own := RX4) (by decide) rfl (Nat.le_of_ble_eq_true rfl) rfl ?_
  intro p e s m args below meth c C hr hlk
  unfold X4_threeBring at hf
  refine j_aload_n C dX4_threeBring_0 rfl 0 rfl 1 rfl ?_
  refine j_iload_n C dX4_threeBring_1 rfl 1 rfl 2 rfl ?_
  obtain ⟨⟨r2, S3⟩, hq1, hf⟩ := bnd hf
  dsimp only at hf
  refine j_callVi (As := [.int a1]) (rest := []) C (c_X4_refusesThree l g sz x S  a1 _ _ hq1) (j_cwV C qc_X4_refusesThree qm_X4_248 qi_X4_refusesThree qs_X4_refusesThree qn_X4 hd_X4_refusesThree ⟨rfl, rfl⟩ ⟨by decide, by decide⟩) (rcv_mo.cell C.2) rfl (Nat.le_of_ble_eq_true rfl) dX4_threeBring_2 5 rfl ?_
  refine j_istore_n (lv2 := [(2, .int r2), (0, .ref (ad g 56)), (1, .int a1)]) C dX4_threeBring_5 rfl (by decide) rfl 6 rfl ?_
  refine j_iload_n C dX4_threeBring_6 rfl 0 rfl 7 rfl ?_
  refine j_if_eq C dX4_threeBring_7 18 (by decide) 10 rfl (fun c4 => ?_) (fun c4 => ?_)
  · rw [if_pos c4] at hf
    refine j_aload_n C dX4_threeBring_18 rfl 1 rfl 19 rfl ?_
    refine j4_get C 8 (by decide) qf_X4_245 (v := .int (S3 0 8)) rfl dX4_threeBring_19 22 rfl ?_
    refine j_aload_n C dX4_threeBring_22 rfl 1 rfl 23 rfl ?_
    obtain ⟨r5, hr5, hf⟩ := bnd hf
    refine j_callVi (As := []) (rest := [.int (S3 0 8)]) C (c_X4_gain l g sz x S3   _ hr5) (j_cwV C qc_X4_gain qm_X4_186 qi_X4_gain qs_X4_gain qn_X4 hd_X4_gain ⟨rfl, rfl⟩ ⟨by decide, by decide⟩) (rcv_mo.cell C.2) rfl (Nat.le_of_ble_eq_true rfl) dX4_threeBring_23 26 rfl ?_
    refine j_isub C dX4_threeBring_26 27 rfl ?_
    obtain ⟨rfl, rfl⟩ := Prod.mk.inj (Option.some.inj hf)
    exact j_iret C hr hlk dX4_threeBring_27
  · rw [if_neg c4] at hf
    refine j_aload_n C dX4_threeBring_10 rfl 1 rfl 11 rfl ?_
    refine j_iload_n C dX4_threeBring_11 rfl 0 rfl 12 rfl ?_
    obtain ⟨⟨r7, S8⟩, hq6, hf⟩ := bnd hf
    dsimp only at hf
    refine j_callVi (As := [.int r2]) (rest := []) C (c_X4_finding l g sz x S3  r2 _ _ hq6) (j_cwV C qc_X4_finding qm_X4_99 qi_X4_finding qs_X4_finding qn_X4 hd_X4_finding ⟨rfl, rfl⟩ ⟨by decide, by decide⟩) (rcv_mo.cell C.2) rfl (Nat.le_of_ble_eq_true rfl) dX4_threeBring_12 15 rfl ?_
    refine j_goto C dX4_threeBring_15 27 (by decide) ?_
    obtain ⟨rfl, rfl⟩ := Prod.mk.inj (Option.some.inj hf)
    exact j_iret C hr hlk dX4_threeBring_27
set_option maxRecDepth 100000 in
set_option maxHeartbeats 4000000 in
theorem c_X4_findSoonest (l : Launch) (g : GG) (sz : Nat) (x S : St) (a1 : Int32) (r : Int32) (S' : St) (hf : X4_findSoonest a1 S = some (r, S')) : Met l yX4_findSoonest (.code yX4_findSoonest cX4_findSoonest 5 (some .int) :: ALLW) (rmJ 8 179) (PcJ g sz x S [.ref (ad g 56), .int a1]) (QiJ g sz r x S') 0 0 (Ag sz) := by
  refine j_met (own := RX4) (by decide) rfl (Nat.le_of_ble_eq_true rfl) rfl ?_
  intro p e s m args below meth c C hr hlk
  have hL35 : ∀ (k27 : Int32 → Int32 → Int32 → St → Option (Int32 × St)) (_ : ∀ (b1 : Int32) (b2 : Int32) (b3 : Int32) (S : St), k27 b1 b2 b3 S = some (r, S') → Wj p l e (rmJ 8 179) s m args below meth c (MQ below (QiJ g sz r x S') args s 0 0 (Ag sz)) 5 g sz x S 27 [(0, .ref (ad g 56)), (1, .int b1), (2, .int b2), (3, .int b3)] []), ∀ (n : Nat), ∀ (b1 : Int32) (b2 : Int32) (b3 : Int32) (b4 : Int32) (S : St), X4_findSoonest_L35 k27 n b1 b2 b3 b4 S = some (r, S') → Wj p l e (rmJ 8 179) s m args below meth c (MQ below (QiJ g sz r x S') args s 0 0 (Ag sz)) 5 g sz x S 35 [(0, .ref (ad g 56)), (1, .int b1), (2, .int b2), (3, .int b3), (4, .int b4)] [] := by
    intro k27 hk27 n
    induction n with
    | zero =>
      intro b1 b2 b3 b4 S hf
      rw [X4_findSoonest_L35] at hf
      cases hf
    | succ n ih =>
      intro b1 b2 b3 b4 S hf
      rw [X4_findSoonest_L35] at hf
      refine j_iload C dX4_findSoonest_35 4 rfl 37 rfl ?_
      refine j_iload_n C dX4_findSoonest_37 rfl 3 rfl 38 rfl ?_
      refine j_callSi (As := [.int b3]) (rest := [.int b4]) C (c_X4_ways l g sz x S b3 _ rfl) (j_cwS C qc_X4_ways qm_X4_227 qs_X4_ways qn_X4 hd_X4_ways ⟨rfl, rfl⟩ ⟨by decide, by decide⟩)  rfl (Nat.le_of_ble_eq_true rfl) dX4_findSoonest_38 41 rfl ?_
      refine j_icmp_ge C dX4_findSoonest_41 83 (by decide) 44 rfl (fun c5 => ?_) (fun c5 => ?_)
      · rw [if_pos c5] at hf
        refine j_iinc (lv2 := [(3, .int (b3 + 1)), (0, .ref (ad g 56)), (1, .int b1), (2, .int b2), (4, .int b4)]) C dX4_findSoonest_83 (k := 3) rfl (congrArg (HAdd.hAdd b3) c_oi_1) (by decide) rfl 86 rfl ?_
        refine j_goto C dX4_findSoonest_86 27 (by decide) ?_
        refine j_sub [1, 2, 3, 0] rfl ?_
        exact hk27 b1 b2 (b3 + 1) S hf
      · rw [if_neg c5] at hf
        refine j_aload_n C dX4_findSoonest_44 rfl 0 rfl 45 rfl ?_
        refine j_iload C dX4_findSoonest_45 4 rfl 47 rfl ?_
        refine j_iload_n C dX4_findSoonest_47 rfl 3 rfl 48 rfl ?_
        obtain ⟨S6, hS6, hf⟩ := bnd hf
        refine j_callVv (As := [.int b4, .int b3]) (rest := []) C (c_X4_dropsBy l g sz x S  b4 b3 _ hS6) (j_cwV C qc_X4_dropsBy qm_X4_242 qi_X4_dropsBy qs_X4_dropsBy qn_X4 hd_X4_dropsBy ⟨rfl, rfl⟩ ⟨by decide, by decide⟩) (rcv_mo.cell C.2) rfl (Nat.le_of_ble_eq_true rfl) dX4_findSoonest_48 51 rfl ?_
        refine j_aload_n C dX4_findSoonest_51 rfl 0 rfl 52 rfl ?_
        refine j_aload_n C dX4_findSoonest_52 rfl 0 rfl 53 rfl ?_
        refine j4_get C 0 (by decide) qf_X4_9 (v := .ref (ad g 57)) rfl dX4_findSoonest_53 56 rfl ?_
        refine j_bipush C dX4_findSoonest_56 (v := 41) c_bipush_41 58 rfl ?_
        refine j_iload_n C dX4_findSoonest_58 rfl 1 rfl 59 rfl ?_
        refine j_iadd C dX4_findSoonest_59 60 rfl ?_
        obtain ⟨v7, hv7, hf⟩ := bnd hf
        refine j4_ald 1 rfl C hv7 dX4_findSoonest_60 61 rfl ?_
        obtain ⟨⟨r9, S10⟩, hq8, hf⟩ := bnd hf
        dsimp only at hf
        refine j_callVi (As := [.int v7]) (rest := []) C (c_X4_putBack l g sz x S6  v7 _ _ hq8) (j_cwV C qc_X4_putBack qm_X4_210 qi_X4_putBack qs_X4_putBack qn_X4 hd_X4_putBack ⟨rfl, rfl⟩ ⟨by decide, by decide⟩) (rcv_mo.cell C.2) rfl (Nat.le_of_ble_eq_true rfl) dX4_findSoonest_61 64 rfl ?_
        refine j_bipush C dX4_findSoonest_64 (v := 101) c_bipush_101 66 rfl ?_
        refine j_icmp_ne C dX4_findSoonest_66 77 (by decide) 69 rfl (fun c11 => ?_) (fun c11 => ?_)
        · rw [if_neg c11] at hf
          refine j_iinc (lv2 := [(4, .int (b4 + 1)), (0, .ref (ad g 56)), (1, .int b1), (2, .int b2), (3, .int b3)]) C dX4_findSoonest_77 (k := 4) rfl (congrArg (HAdd.hAdd b4) c_oi_1) (by decide) rfl 80 rfl ?_
          refine j_goto C dX4_findSoonest_80 35 (by decide) ?_
          refine j_sub [1, 2, 3, 4, 0] rfl ?_
          exact ih b1 b2 b3 (b4 + 1) S10 hf
        · rw [if_pos c11] at hf
          refine j_aload_n C dX4_findSoonest_69 rfl 0 rfl 70 rfl ?_
          refine j_iload C dX4_findSoonest_70 4 rfl 72 rfl ?_
          obtain ⟨S12, hS12, hf⟩ := bnd hf
          refine j4_put C 9 rfl rfl rfl qf_X4_254 dX4_findSoonest_72 75 rfl ?_
          rw [Option.some.inj hS12]
          refine j_iload_n C dX4_findSoonest_75 rfl 3 rfl 76 rfl ?_
          obtain ⟨rfl, rfl⟩ := Prod.mk.inj (Option.some.inj hf)
          exact j_iret C hr hlk dX4_findSoonest_76
  have hL27 : ∀ (n : Nat), ∀ (b1 : Int32) (b2 : Int32) (b3 : Int32) (S : St), X4_findSoonest_L27 n b1 b2 b3 S = some (r, S') → Wj p l e (rmJ 8 179) s m args below meth c (MQ below (QiJ g sz r x S') args s 0 0 (Ag sz)) 5 g sz x S 27 [(0, .ref (ad g 56)), (1, .int b1), (2, .int b2), (3, .int b3)] [] := by
    intro  n
    induction n with
    | zero =>
      intro b1 b2 b3 S hf
      rw [X4_findSoonest_L27] at hf
      cases hf
    | succ n ih =>
      intro b1 b2 b3 S hf
      rw [X4_findSoonest_L27] at hf
      refine j_iload_n C dX4_findSoonest_27 rfl 3 rfl 28 rfl ?_
      refine j_iload_n C dX4_findSoonest_28 rfl 2 rfl 29 rfl ?_
      refine j_icmp_gt C dX4_findSoonest_29 89 (by decide) 32 rfl (fun c4 => ?_) (fun c4 => ?_)
      · rw [if_pos c4] at hf
        refine j_iconst C dX4_findSoonest_89 (v := (-1)) c_iconst_m1 90 rfl ?_
        obtain ⟨rfl, rfl⟩ := Prod.mk.inj (Option.some.inj hf)
        exact j_iret C hr hlk dX4_findSoonest_90
      · rw [if_neg c4] at hf
        refine j_iconst C dX4_findSoonest_32 (v := 0) c_iconst_0 33 rfl ?_
        refine j_istore (lv2 := [(4, .int 0), (0, .ref (ad g 56)), (1, .int b1), (2, .int b2), (3, .int b3)]) C dX4_findSoonest_33 (by decide) rfl 35 rfl ?_
        refine j_sub [1, 2, 3, 4, 0] rfl ?_
        exact hL35 _ ih FU b1 b2 b3 0 S hf
  unfold X4_findSoonest at hf
  refine j_aload_n C dX4_findSoonest_0 rfl 0 rfl 1 rfl ?_
  refine j4_get C 0 (by decide) qf_X4_9 (v := .ref (ad g 57)) rfl dX4_findSoonest_1 4 rfl ?_
  refine j_aload_n C dX4_findSoonest_4 rfl 0 rfl 5 rfl ?_
  refine j4_get C 2 (by decide) qf_X4_16 (v := .ref (ad g 59)) rfl dX4_findSoonest_5 8 rfl ?_
  obtain ⟨S1, hS1, hf⟩ := bnd hf
  refine j_callSv (As := [.ref (ad g 57), .ref (ad g 59)]) (rest := []) C (c_X4_copyRow l g sz x S  1 rfl 3 rfl _ hS1) (j_cwS C qc_X4_copyRow qm_X4_73 qs_X4_copyRow qn_X4 hd_X4_copyRow ⟨rfl, rfl⟩ ⟨by decide, by decide⟩)  rfl (Nat.le_of_ble_eq_true rfl) dX4_findSoonest_8 11 rfl ?_
  refine j_iconst C dX4_findSoonest_11 (v := 3) c_iconst_3 12 rfl ?_
  refine j_aload_n C dX4_findSoonest_12 rfl 0 rfl 13 rfl ?_
  refine j_bipush C dX4_findSoonest_13 (v := 100) c_bipush_100 15 rfl ?_
  obtain ⟨r2, hr2, hf⟩ := bnd hf
  refine j_callVi (As := [.int 100]) (rest := [.int 3]) C (c_X4_setOf l g sz x S1  100 _ hr2) (j_cwV C qc_X4_setOf qm_X4_177 qi_X4_setOf qs_X4_setOf qn_X4 hd_X4_setOf ⟨rfl, rfl⟩ ⟨by decide, by decide⟩) (rcv_mo.cell C.2) rfl (Nat.le_of_ble_eq_true rfl) dX4_findSoonest_15 18 rfl ?_
  obtain ⟨r3, hr3, hf⟩ := bnd hf
  refine j_callSi (As := [.int r2]) (rest := [.int 3]) C (c_X4_bits l g sz x S1 r2 _ hr3) (j_cwS C qc_X4_bits qm_X4_236 qs_X4_bits qn_X4 hd_X4_bits ⟨rfl, rfl⟩ ⟨by decide, by decide⟩)  rfl (Nat.le_of_ble_eq_true rfl) dX4_findSoonest_18 21 rfl ?_
  refine j_mmin C qm_X4_251 dX4_findSoonest_21 (Nat.le_of_ble_eq_true rfl) (Nat.le_of_ble_eq_true rfl) 24 rfl ?_
  refine j_istore_n (lv2 := [(2, .int (mnI 3 r3)), (0, .ref (ad g 56)), (1, .int a1)]) C dX4_findSoonest_24 rfl (by decide) rfl 25 rfl ?_
  refine j_iconst C dX4_findSoonest_25 (v := 0) c_iconst_0 26 rfl ?_
  refine j_istore_n (lv2 := [(3, .int 0), (2, .int (mnI 3 r3)), (0, .ref (ad g 56)), (1, .int a1)]) C dX4_findSoonest_26 rfl (by decide) rfl 27 rfl ?_
  refine j_sub [2, 3, 1, 0] rfl ?_
  exact hL27 FU a1 (mnI 3 r3) 0 S1 hf
set_option maxRecDepth 100000 in
set_option maxHeartbeats 4000000 in
theorem c_X4_refusesSoon (l : Launch) (g : GG) (sz : Nat) (x S : St) (a1 : Int32) (r : Int32) (hf : X4_refusesSoon a1 S = some r) : Met l yX4_refusesSoon (.code yX4_refusesSoon cX4_refusesSoon 2 (some .int) :: ALLW) (rmJ 2 43) (PcJ g sz x S [.ref (ad g 56), .int a1]) (QiJ g sz r x S) 0 0 (Ag sz) := by
  refine j_met (own := RX4) (by decide) rfl (Nat.le_of_ble_eq_true rfl) rfl ?_
  intro p e s m args below meth c C hr hlk
  unfold X4_refusesSoon at hf
  refine j_aload_n C dX4_refusesSoon_0 rfl 0 rfl 1 rfl ?_
  refine j_iload_n C dX4_refusesSoon_1 rfl 1 rfl 2 rfl ?_
  obtain ⟨r1, hr1, hf⟩ := bnd hf
  refine j_callVi (As := [.int a1]) (rest := []) C (c_X4_isCoin l g sz x S  a1 _ hr1) (j_cwV C qc_X4_isCoin qm_X4_116 qi_X4_isCoin qs_X4_isCoin qn_X4 hd_X4_isCoin ⟨rfl, rfl⟩ ⟨by decide, by decide⟩) (rcv_mo.cell C.2) rfl (Nat.le_of_ble_eq_true rfl) dX4_refusesSoon_2 5 rfl ?_
  refine j_if_ne C dX4_refusesSoon_5 13 (by decide) 8 rfl (fun c2 => ?_) (fun c2 => ?_)
  · rw [if_neg c2] at hf
    refine j_aload_n C dX4_refusesSoon_13 rfl 0 rfl 14 rfl ?_
    refine j4_get C 0 (by decide) qf_X4_9 (v := .ref (ad g 57)) rfl dX4_refusesSoon_14 17 rfl ?_
    refine j_iconst C dX4_refusesSoon_17 (v := 0) c_iconst_0 18 rfl ?_
    obtain ⟨v3, hv3, hf⟩ := bnd hf
    refine j4_ald 1 rfl C hv3 dX4_refusesSoon_18 19 rfl ?_
    refine j_sipush C dX4_refusesSoon_19 (v := 9900) c_sipush_9900 22 rfl ?_
    refine j_icmp_le C dX4_refusesSoon_22 30 (by decide) 25 rfl (fun c4 => ?_) (fun c4 => ?_)
    · rw [if_pos c4] at hf
      refine j_iconst C dX4_refusesSoon_30 (v := 0) c_iconst_0 31 rfl ?_
      obtain rfl := Option.some.inj hf
      exact j_iret C hr hlk dX4_refusesSoon_31
    · rw [if_neg c4] at hf
      refine j_ldc C dX4_refusesSoon_25 qk_X4_137 27 rfl ?_
      refine j_goto C dX4_refusesSoon_27 31 (by decide) ?_
      obtain rfl := Option.some.inj hf
      exact j_iret C hr hlk dX4_refusesSoon_31
  · rw [if_pos c2] at hf
    refine j_ldc C dX4_refusesSoon_8 qk_X4_72 10 rfl ?_
    refine j_goto C dX4_refusesSoon_10 31 (by decide) ?_
    obtain rfl := Option.some.inj hf
    exact j_iret C hr hlk dX4_refusesSoon_31
set_option maxRecDepth 100000 in
set_option maxHeartbeats 4000000 in
theorem c_X4_soonest (l : Launch) (g : GG) (sz : Nat) (x S : St) (a1 : Int32) (r : Int32) (S' : St) (hf : X4_soonest a1 S = some (r, S')) : Met l yX4_soonest (.code yX4_soonest cX4_soonest 4 (some .int) :: ALLW) (rmJ 9 203) (PcJ g sz x S [.ref (ad g 56), .int a1]) (QiJ g sz r x S') 0 0 (Ag sz) := by
  refine j_met (own := RX4) (by decide) rfl (Nat.le_of_ble_eq_true rfl) rfl ?_
  intro p e s m args below meth c C hr hlk
  unfold X4_soonest at hf
  refine j_aload_n C dX4_soonest_0 rfl 0 rfl 1 rfl ?_
  refine j_iload_n C dX4_soonest_1 rfl 1 rfl 2 rfl ?_
  obtain ⟨r1, hr1, hf⟩ := bnd hf
  refine j_callVi (As := [.int a1]) (rest := []) C (c_X4_refusesSoon l g sz x S  a1 _ hr1) (j_cwV C qc_X4_refusesSoon qm_X4_257 qi_X4_refusesSoon qs_X4_refusesSoon qn_X4 hd_X4_refusesSoon ⟨rfl, rfl⟩ ⟨by decide, by decide⟩) (rcv_mo.cell C.2) rfl (Nat.le_of_ble_eq_true rfl) dX4_soonest_2 5 rfl ?_
  refine j_istore_n (lv2 := [(2, .int r1), (0, .ref (ad g 56)), (1, .int a1)]) C dX4_soonest_5 rfl (by decide) rfl 6 rfl ?_
  refine j_iload_n C dX4_soonest_6 rfl 0 rfl 7 rfl ?_
  refine j_if_eq C dX4_soonest_7 16 (by decide) 10 rfl (fun c2 => ?_) (fun c2 => ?_)
  · rw [if_pos c2] at hf
    refine j_aload_n C dX4_soonest_16 rfl 1 rfl 17 rfl ?_
    refine j_iload_n C dX4_soonest_17 rfl 2 rfl 18 rfl ?_
    obtain ⟨⟨r4, S5⟩, hq3, hf⟩ := bnd hf
    dsimp only at hf
    refine j_callVi (As := [.int a1]) (rest := []) C (c_X4_findSoonest l g sz x S  a1 _ _ hq3) (j_cwV C qc_X4_findSoonest qm_X4_260 qi_X4_findSoonest qs_X4_findSoonest qn_X4 hd_X4_findSoonest ⟨rfl, rfl⟩ ⟨by decide, by decide⟩) (rcv_mo.cell C.2) rfl (Nat.le_of_ble_eq_true rfl) dX4_soonest_18 21 rfl ?_
    refine j_istore_n (lv2 := [(3, .int r4), (2, .int r1), (0, .ref (ad g 56)), (1, .int a1)]) C dX4_soonest_21 rfl (by decide) rfl 22 rfl ?_
    refine j_iload_n C dX4_soonest_22 rfl 0 rfl 23 rfl ?_
    refine j_if_ge C dX4_soonest_23 35 (by decide) 26 rfl (fun c6 => ?_) (fun c6 => ?_)
    · rw [if_pos c6] at hf
      refine j_iload_n C dX4_soonest_35 rfl 0 rfl 36 rfl ?_
      obtain ⟨rfl, rfl⟩ := Prod.mk.inj (Option.some.inj hf)
      exact j_iret C hr hlk dX4_soonest_36
    · rw [if_neg c6] at hf
      refine j_aload_n C dX4_soonest_26 rfl 2 rfl 27 rfl ?_
      refine j_ldc C dX4_soonest_27 qk_X4_142 29 rfl ?_
      obtain ⟨⟨r8, S9⟩, hq7, hf⟩ := bnd hf
      dsimp only at hf
      refine j_callVi (As := [.int (-1000004)]) (rest := []) C (c_X4_finding l g sz x S5  (-1000004) _ _ hq7) (j_cwV C qc_X4_finding qm_X4_99 qi_X4_finding qs_X4_finding qn_X4 hd_X4_finding ⟨rfl, rfl⟩ ⟨by decide, by decide⟩) (rcv_mo.cell C.2) rfl (Nat.le_of_ble_eq_true rfl) dX4_soonest_29 32 rfl ?_
      refine j_goto C dX4_soonest_32 36 (by decide) ?_
      obtain ⟨rfl, rfl⟩ := Prod.mk.inj (Option.some.inj hf)
      exact j_iret C hr hlk dX4_soonest_36
  · rw [if_neg c2] at hf
    refine j_aload_n C dX4_soonest_10 rfl 1 rfl 11 rfl ?_
    refine j_iload_n C dX4_soonest_11 rfl 0 rfl 12 rfl ?_
    obtain ⟨⟨r11, S12⟩, hq10, hf⟩ := bnd hf
    dsimp only at hf
    refine j_callVi (As := [.int r1]) (rest := []) C (c_X4_finding l g sz x S  r1 _ _ hq10) (j_cwV C qc_X4_finding qm_X4_99 qi_X4_finding qs_X4_finding qn_X4 hd_X4_finding ⟨rfl, rfl⟩ ⟨by decide, by decide⟩) (rcv_mo.cell C.2) rfl (Nat.le_of_ble_eq_true rfl) dX4_soonest_12 15 rfl ?_
    obtain ⟨rfl, rfl⟩ := Prod.mk.inj (Option.some.inj hf)
    exact j_iret C hr hlk dX4_soonest_15
set_option maxRecDepth 100000 in
set_option maxHeartbeats 4000000 in
theorem c_X4_firstFor (l : Launch) (g : GG) (sz : Nat) (x S : St) (a1 : Int32) (r : Int32) (S' : St) (hf : X4_firstFor a1 S = some (r, S')) : Met l yX4_firstFor (.code yX4_firstFor cX4_firstFor 4 (some .int) :: ALLW) (rmJ 9 203) (PcJ g sz x S [.ref (ad g 56), .int a1]) (QiJ g sz r x S') 0 0 (Ag sz) := by
  refine j_met (own := RX4) (by decide) rfl (Nat.le_of_ble_eq_true rfl) rfl ?_
  intro p e s m args below meth c C hr hlk
  unfold X4_firstFor at hf
  refine j_aload_n C dX4_firstFor_0 rfl 0 rfl 1 rfl ?_
  refine j_iload_n C dX4_firstFor_1 rfl 1 rfl 2 rfl ?_
  obtain ⟨r1, hr1, hf⟩ := bnd hf
  refine j_callVi (As := [.int a1]) (rest := []) C (c_X4_refusesSoon l g sz x S  a1 _ hr1) (j_cwV C qc_X4_refusesSoon qm_X4_257 qi_X4_refusesSoon qs_X4_refusesSoon qn_X4 hd_X4_refusesSoon ⟨rfl, rfl⟩ ⟨by decide, by decide⟩) (rcv_mo.cell C.2) rfl (Nat.le_of_ble_eq_true rfl) dX4_firstFor_2 5 rfl ?_
  refine j_istore_n (lv2 := [(2, .int r1), (0, .ref (ad g 56)), (1, .int a1)]) C dX4_firstFor_5 rfl (by decide) rfl 6 rfl ?_
  refine j_iload_n C dX4_firstFor_6 rfl 0 rfl 7 rfl ?_
  refine j_if_eq C dX4_firstFor_7 16 (by decide) 10 rfl (fun c2 => ?_) (fun c2 => ?_)
  · rw [if_pos c2] at hf
    refine j_aload_n C dX4_firstFor_16 rfl 1 rfl 17 rfl ?_
    refine j_iload_n C dX4_firstFor_17 rfl 2 rfl 18 rfl ?_
    obtain ⟨⟨r4, S5⟩, hq3, hf⟩ := bnd hf
    dsimp only at hf
    refine j_callVi (As := [.int a1]) (rest := []) C (c_X4_findSoonest l g sz x S  a1 _ _ hq3) (j_cwV C qc_X4_findSoonest qm_X4_260 qi_X4_findSoonest qs_X4_findSoonest qn_X4 hd_X4_findSoonest ⟨rfl, rfl⟩ ⟨by decide, by decide⟩) (rcv_mo.cell C.2) rfl (Nat.le_of_ble_eq_true rfl) dX4_firstFor_18 21 rfl ?_
    refine j_istore_n (lv2 := [(3, .int r4), (2, .int r1), (0, .ref (ad g 56)), (1, .int a1)]) C dX4_firstFor_21 rfl (by decide) rfl 22 rfl ?_
    refine j_iload_n C dX4_firstFor_22 rfl 0 rfl 23 rfl ?_
    refine j_iconst C dX4_firstFor_23 (v := 1) c_iconst_1 24 rfl ?_
    refine j_icmp_ge C dX4_firstFor_24 36 (by decide) 27 rfl (fun c6 => ?_) (fun c6 => ?_)
    · rw [if_pos c6] at hf
      refine j_aload_n C dX4_firstFor_36 rfl 2 rfl 37 rfl ?_
      refine j4_get C 9 (by decide) qf_X4_254 (v := .int (S5 0 9)) rfl dX4_firstFor_37 40 rfl ?_
      refine j_iload_n C dX4_firstFor_40 rfl 0 rfl 41 rfl ?_
      refine j_iconst C dX4_firstFor_41 (v := 0) c_iconst_0 42 rfl ?_
      obtain ⟨r7, hr7, hf⟩ := bnd hf
      refine j_callSi (As := [.int (S5 0 9), .int r4, .int 0]) (rest := []) C (c_X4_columnOf l g sz x S5 (S5 0 9) r4 0 _ hr7) (j_cwS C qc_X4_columnOf qm_X4_233 qs_X4_columnOf qn_X4 hd_X4_columnOf ⟨rfl, rfl⟩ ⟨by decide, by decide⟩)  rfl (Nat.le_of_ble_eq_true rfl) dX4_firstFor_42 45 rfl ?_
      obtain ⟨rfl, rfl⟩ := Prod.mk.inj (Option.some.inj hf)
      exact j_iret C hr hlk dX4_firstFor_45
    · rw [if_neg c6] at hf
      refine j_aload_n C dX4_firstFor_27 rfl 2 rfl 28 rfl ?_
      refine j_ldc C dX4_firstFor_28 qk_X4_142 30 rfl ?_
      obtain ⟨⟨r9, S10⟩, hq8, hf⟩ := bnd hf
      dsimp only at hf
      refine j_callVi (As := [.int (-1000004)]) (rest := []) C (c_X4_finding l g sz x S5  (-1000004) _ _ hq8) (j_cwV C qc_X4_finding qm_X4_99 qi_X4_finding qs_X4_finding qn_X4 hd_X4_finding ⟨rfl, rfl⟩ ⟨by decide, by decide⟩) (rcv_mo.cell C.2) rfl (Nat.le_of_ble_eq_true rfl) dX4_firstFor_30 33 rfl ?_
      refine j_goto C dX4_firstFor_33 45 (by decide) ?_
      obtain ⟨rfl, rfl⟩ := Prod.mk.inj (Option.some.inj hf)
      exact j_iret C hr hlk dX4_firstFor_45
  · rw [if_neg c2] at hf
    refine j_aload_n C dX4_firstFor_10 rfl 1 rfl 11 rfl ?_
    refine j_iload_n C dX4_firstFor_11 rfl 0 rfl 12 rfl ?_
    obtain ⟨⟨r12, S13⟩, hq11, hf⟩ := bnd hf
    dsimp only at hf
    refine j_callVi (As := [.int r1]) (rest := []) C (c_X4_finding l g sz x S  r1 _ _ hq11) (j_cwV C qc_X4_finding qm_X4_99 qi_X4_finding qs_X4_finding qn_X4 hd_X4_finding ⟨rfl, rfl⟩ ⟨by decide, by decide⟩) (rcv_mo.cell C.2) rfl (Nat.le_of_ble_eq_true rfl) dX4_firstFor_12 15 rfl ?_
    obtain ⟨rfl, rfl⟩ := Prod.mk.inj (Option.some.inj hf)
    exact j_iret C hr hlk dX4_firstFor_15
set_option maxRecDepth 100000 in
set_option maxHeartbeats 4000000 in
theorem c_X4_refusesWays (l : Launch) (g : GG) (sz : Nat) (x S : St) (a1 : Int32) (r : Int32) (hf : X4_refusesWays a1 S = some r) : Met l yX4_refusesWays (.code yX4_refusesWays cX4_refusesWays 2 (some .int) :: ALLW) (rmJ 1 23) (PcJ g sz x S [.ref (ad g 56), .int a1]) (QiJ g sz r x S) 0 0 (Ag sz) := by
  refine j_met (own := RX4) (by decide) rfl (Nat.le_of_ble_eq_true rfl) rfl ?_
  intro p e s m args below meth c C hr hlk
  unfold X4_refusesWays at hf
  refine j_iload_n C dX4_refusesWays_0 rfl 1 rfl 1 rfl ?_
  refine j_iconst C dX4_refusesWays_1 (v := 0) c_iconst_0 2 rfl ?_
  refine j_iconst C dX4_refusesWays_2 (v := 3) c_iconst_3 3 rfl ?_
  refine j_callSi (As := [.int a1, .int 0, .int 3]) (rest := []) C (c_X4_within l g sz x S a1 0 3 _ rfl) (j_cwS C qc_X4_within qm_X4_77 qs_X4_within qn_X4 hd_X4_within ⟨rfl, rfl⟩ ⟨by decide, by decide⟩)  rfl (Nat.le_of_ble_eq_true rfl) dX4_refusesWays_3 6 rfl ?_
  refine j_if_ne C dX4_refusesWays_6 14 (by decide) 9 rfl (fun c1 => ?_) (fun c1 => ?_)
  · rw [if_neg c1] at hf
    refine j_aload_n C dX4_refusesWays_14 rfl 0 rfl 15 rfl ?_
    refine j_bipush C dX4_refusesWays_15 (v := 100) c_bipush_100 17 rfl ?_
    obtain ⟨r2, hr2, hf⟩ := bnd hf
    refine j_callVi (As := [.int 100]) (rest := []) C (c_X4_setOf l g sz x S  100 _ hr2) (j_cwV C qc_X4_setOf qm_X4_177 qi_X4_setOf qs_X4_setOf qn_X4 hd_X4_setOf ⟨rfl, rfl⟩ ⟨by decide, by decide⟩) (rcv_mo.cell C.2) rfl (Nat.le_of_ble_eq_true rfl) dX4_refusesWays_17 20 rfl ?_
    obtain ⟨r3, hr3, hf⟩ := bnd hf
    refine j_callSi (As := [.int r2]) (rest := []) C (c_X4_bits l g sz x S r2 _ hr3) (j_cwS C qc_X4_bits qm_X4_236 qs_X4_bits qn_X4 hd_X4_bits ⟨rfl, rfl⟩ ⟨by decide, by decide⟩)  rfl (Nat.le_of_ble_eq_true rfl) dX4_refusesWays_20 23 rfl ?_
    refine j_iload_n C dX4_refusesWays_23 rfl 1 rfl 24 rfl ?_
    refine j_icmp_lt C dX4_refusesWays_24 39 (by decide) 27 rfl (fun c4 => ?_) (fun c4 => ?_)
    · rw [if_pos c4] at hf
      refine j_ldc C dX4_refusesWays_39 qk_X4_137 41 rfl ?_
      refine j_goto C dX4_refusesWays_41 45 (by decide) ?_
      obtain rfl := Option.some.inj hf
      exact j_iret C hr hlk dX4_refusesWays_45
    · rw [if_neg c4] at hf
      refine j_aload_n C dX4_refusesWays_27 rfl 0 rfl 28 rfl ?_
      refine j4_get C 0 (by decide) qf_X4_9 (v := .ref (ad g 57)) rfl dX4_refusesWays_28 31 rfl ?_
      refine j_iconst C dX4_refusesWays_31 (v := 0) c_iconst_0 32 rfl ?_
      obtain ⟨v5, hv5, hf⟩ := bnd hf
      refine j4_ald 1 rfl C hv5 dX4_refusesWays_32 33 rfl ?_
      refine j_sipush C dX4_refusesWays_33 (v := 9900) c_sipush_9900 36 rfl ?_
      refine j_icmp_le C dX4_refusesWays_36 44 (by decide) 39 rfl (fun c6 => ?_) (fun c6 => ?_)
      · rw [if_pos c6] at hf
        refine j_iconst C dX4_refusesWays_44 (v := 0) c_iconst_0 45 rfl ?_
        obtain rfl := Option.some.inj hf
        exact j_iret C hr hlk dX4_refusesWays_45
      · rw [if_neg c6] at hf
        refine j_ldc C dX4_refusesWays_39 qk_X4_137 41 rfl ?_
        refine j_goto C dX4_refusesWays_41 45 (by decide) ?_
        obtain rfl := Option.some.inj hf
        exact j_iret C hr hlk dX4_refusesWays_45
  · rw [if_pos c1] at hf
    refine j_ldc C dX4_refusesWays_9 qk_X4_72 11 rfl ?_
    refine j_goto C dX4_refusesWays_11 45 (by decide) ?_
    obtain rfl := Option.some.inj hf
    exact j_iret C hr hlk dX4_refusesWays_45
set_option maxRecDepth 100000 in
set_option maxHeartbeats 4000000 in
theorem c_X4_ways_ (l : Launch) (g : GG) (sz : Nat) (x S : St) (a1 : Int32) (a2 : Int32) (r : Int64) (S' : St) (hf : X4_ways_ a1 a2 S = some (r, S')) : Met l yX4_ways_ (.code yX4_ways_ cX4_ways_ 7 (some .long) :: ALLW) (rmJ 8 179) (PcJ g sz x S [.ref (ad g 56), .int a1, .int a2]) (QlJ g sz r x S') 0 0 (Ag sz) := by
  refine j_met (own := RX4) (by decide) rfl (Nat.le_of_ble_eq_true rfl) rfl ?_
  intro p e s m args below meth c C hr hlk
  have hL60 : ∀ (n : Nat), ∀ (b1 : Int32) (b2 : Int32) (b4 : Int64) (b6 : Int32) (S : St), X4_ways__L60 n b1 b2 b4 b6 S = some (r, S') → Wj p l e (rmJ 8 179) s m args below meth c (MQ below (QlJ g sz r x S') args s 0 0 (Ag sz)) 7 g sz x S 60 [(0, .ref (ad g 56)), (1, .int b1), (2, .int b2), (4, .long b4), (6, .int b6)] [] := by
    intro  n
    induction n with
    | zero =>
      intro b1 b2 b4 b6 S hf
      rw [X4_ways__L60] at hf
      cases hf
    | succ n ih =>
      intro b1 b2 b4 b6 S hf
      rw [X4_ways__L60] at hf
      refine j_iload C dX4_ways__60 4 rfl 62 rfl ?_
      refine j_iload_n C dX4_ways__62 rfl 1 rfl 63 rfl ?_
      refine j_callSi (As := [.int b1]) (rest := [.int b6]) C (c_X4_ways l g sz x S b1 _ rfl) (j_cwS C qc_X4_ways qm_X4_227 qs_X4_ways qn_X4 hd_X4_ways ⟨rfl, rfl⟩ ⟨by decide, by decide⟩)  rfl (Nat.le_of_ble_eq_true rfl) dX4_ways__63 66 rfl ?_
      refine j_icmp_ge C dX4_ways__66 104 (by decide) 69 rfl (fun c9 => ?_) (fun c9 => ?_)
      · rw [if_pos c9] at hf
        refine j_lload C dX4_ways__104 3 rfl 106 rfl ?_
        obtain ⟨rfl, rfl⟩ := Prod.mk.inj (Option.some.inj hf)
        exact j_lret C hr hlk dX4_ways__106
      · rw [if_neg c9] at hf
        refine j_aload_n C dX4_ways__69 rfl 0 rfl 70 rfl ?_
        refine j_iload C dX4_ways__70 4 rfl 72 rfl ?_
        refine j_iload_n C dX4_ways__72 rfl 1 rfl 73 rfl ?_
        obtain ⟨S10, hS10, hf⟩ := bnd hf
        refine j_callVv (As := [.int b6, .int b1]) (rest := []) C (c_X4_dropsBy l g sz x S  b6 b1 _ hS10) (j_cwV C qc_X4_dropsBy qm_X4_242 qi_X4_dropsBy qs_X4_dropsBy qn_X4 hd_X4_dropsBy ⟨rfl, rfl⟩ ⟨by decide, by decide⟩) (rcv_mo.cell C.2) rfl (Nat.le_of_ble_eq_true rfl) dX4_ways__73 76 rfl ?_
        refine j_lload C dX4_ways__76 3 rfl 78 rfl ?_
        refine j_aload_n C dX4_ways__78 rfl 0 rfl 79 rfl ?_
        refine j_aload_n C dX4_ways__79 rfl 0 rfl 80 rfl ?_
        obtain ⟨r11, hr11, hf⟩ := bnd hf
        refine j_callVi (As := []) (rest := [.ref (ad g 56), .long b4]) C (c_X4_gain l g sz x S10   _ hr11) (j_cwV C qc_X4_gain qm_X4_186 qi_X4_gain qs_X4_gain qn_X4 hd_X4_gain ⟨rfl, rfl⟩ ⟨by decide, by decide⟩) (rcv_mo.cell C.2) rfl (Nat.le_of_ble_eq_true rfl) dX4_ways__80 83 rfl ?_
        obtain ⟨⟨r13, S14⟩, hq12, hf⟩ := bnd hf
        dsimp only at hf
        refine j_callVi (As := [.int r11]) (rest := [.long b4]) C (c_X4_putBack l g sz x S10  r11 _ _ hq12) (j_cwV C qc_X4_putBack qm_X4_210 qi_X4_putBack qs_X4_putBack qn_X4 hd_X4_putBack ⟨rfl, rfl⟩ ⟨by decide, by decide⟩) (rcv_mo.cell C.2) rfl (Nat.le_of_ble_eq_true rfl) dX4_ways__83 86 rfl ?_
        refine j_iload_n C dX4_ways__86 rfl 2 rfl 87 rfl ?_
        refine j_icmp_lt C dX4_ways__87 94 (by decide) 90 rfl (fun c15 => ?_) (fun c15 => ?_)
        · rw [if_pos c15] at hf
          refine j_lconst C dX4_ways__94 (v := 0) rfl 95 rfl ?_
          refine j_ladd C dX4_ways__95 96 rfl ?_
          refine j_lstore (lv2 := [(4, .long (b4 + 0)), (0, .ref (ad g 56)), (1, .int b1), (2, .int b2), (6, .int b6)]) C dX4_ways__96 (by decide) rfl 98 rfl ?_
          refine j_iinc (lv2 := [(6, .int (b6 + 1)), (4, .long (b4 + 0)), (0, .ref (ad g 56)), (1, .int b1), (2, .int b2)]) C dX4_ways__98 (k := 4) rfl (congrArg (HAdd.hAdd b6) c_oi_1) (by decide) rfl 101 rfl ?_
          refine j_goto C dX4_ways__101 60 (by decide) ?_
          refine j_sub [2, 3, 4, 1, 0] rfl ?_
          exact ih b1 b2 (b4 + 0) (b6 + 1) S14 hf
        · rw [if_neg c15] at hf
          refine j_lconst C dX4_ways__90 (v := 1) rfl 91 rfl ?_
          refine j_goto C dX4_ways__91 95 (by decide) ?_
          refine j_ladd C dX4_ways__95 96 rfl ?_
          refine j_lstore (lv2 := [(4, .long (b4 + 1)), (0, .ref (ad g 56)), (1, .int b1), (2, .int b2), (6, .int b6)]) C dX4_ways__96 (by decide) rfl 98 rfl ?_
          refine j_iinc (lv2 := [(6, .int (b6 + 1)), (4, .long (b4 + 1)), (0, .ref (ad g 56)), (1, .int b1), (2, .int b2)]) C dX4_ways__98 (k := 4) rfl (congrArg (HAdd.hAdd b6) c_oi_1) (by decide) rfl 101 rfl ?_
          refine j_goto C dX4_ways__101 60 (by decide) ?_
          refine j_sub [2, 3, 4, 1, 0] rfl ?_
          exact ih b1 b2 (b4 + 1) (b6 + 1) S14 hf
  unfold X4_ways_ at hf
  refine j_aload_n C dX4_ways__0 rfl 0 rfl 1 rfl ?_
  refine j_iload_n C dX4_ways__1 rfl 1 rfl 2 rfl ?_
  obtain ⟨r1, hr1, hf⟩ := bnd hf
  refine j_callVi (As := [.int a1]) (rest := []) C (c_X4_refusesWays l g sz x S  a1 _ hr1) (j_cwV C qc_X4_refusesWays qm_X4_263 qi_X4_refusesWays qs_X4_refusesWays qn_X4 hd_X4_refusesWays ⟨rfl, rfl⟩ ⟨by decide, by decide⟩) (rcv_mo.cell C.2) rfl (Nat.le_of_ble_eq_true rfl) dX4_ways__2 5 rfl ?_
  refine j_istore_n (lv2 := [(3, .int r1), (0, .ref (ad g 56)), (1, .int a1), (2, .int a2)]) C dX4_ways__5 rfl (by decide) rfl 6 rfl ?_
  refine j_iload_n C dX4_ways__6 rfl 0 rfl 7 rfl ?_
  refine j_ldc C dX4_ways__7 qk_X4_72 9 rfl ?_
  refine j_icmp_eq C dX4_ways__9 24 (by decide) 12 rfl (fun c2 => ?_) (fun c2 => ?_)
  · rw [if_pos c2] at hf
    refine j_aload_n C dX4_ways__24 rfl 1 rfl 25 rfl ?_
    refine j_ldc C dX4_ways__25 qk_X4_72 27 rfl ?_
    obtain ⟨⟨r4, S5⟩, hq3, hf⟩ := bnd hf
    dsimp only at hf
    refine j_callVi (As := [.int (-1000001)]) (rest := []) C (c_X4_finding l g sz x S  (-1000001) _ _ hq3) (j_cwV C qc_X4_finding qm_X4_99 qi_X4_finding qs_X4_finding qn_X4 hd_X4_finding ⟨rfl, rfl⟩ ⟨by decide, by decide⟩) (rcv_mo.cell C.2) rfl (Nat.le_of_ble_eq_true rfl) dX4_ways__27 30 rfl ?_
    refine j_i2l C dX4_ways__30 31 rfl ?_
    obtain ⟨rfl, rfl⟩ := Prod.mk.inj (Option.some.inj hf)
    exact j_lret C hr hlk dX4_ways__31
  · rw [if_neg c2] at hf
    refine j_iload_n C dX4_ways__12 rfl 3 rfl 13 rfl ?_
    refine j_bipush C dX4_ways__13 (v := (-99)) c_bipush_m99 15 rfl ?_
    refine j_sipush C dX4_ways__15 (v := 999) c_sipush_999 18 rfl ?_
    refine j_callSi (As := [.int a2, .int (-99), .int 999]) (rest := []) C (c_X4_within l g sz x S a2 (-99) 999 _ rfl) (j_cwS C qc_X4_within qm_X4_77 qs_X4_within qn_X4 hd_X4_within ⟨rfl, rfl⟩ ⟨by decide, by decide⟩)  rfl (Nat.le_of_ble_eq_true rfl) dX4_ways__18 21 rfl ?_
    refine j_if_ne C dX4_ways__21 32 (by decide) 24 rfl (fun c6 => ?_) (fun c6 => ?_)
    · rw [if_neg c6] at hf
      refine j_iload_n C dX4_ways__32 rfl 0 rfl 33 rfl ?_
      refine j_if_eq C dX4_ways__33 43 (by decide) 36 rfl (fun c7 => ?_) (fun c7 => ?_)
      · rw [if_pos c7] at hf
        refine j_aload_n C dX4_ways__43 rfl 1 rfl 44 rfl ?_
        refine j4_get C 0 (by decide) qf_X4_9 (v := .ref (ad g 57)) rfl dX4_ways__44 47 rfl ?_
        refine j_aload_n C dX4_ways__47 rfl 1 rfl 48 rfl ?_
        refine j4_get C 2 (by decide) qf_X4_16 (v := .ref (ad g 59)) rfl dX4_ways__48 51 rfl ?_
        obtain ⟨S8, hS8, hf⟩ := bnd hf
        refine j_callSv (As := [.ref (ad g 57), .ref (ad g 59)]) (rest := []) C (c_X4_copyRow l g sz x S  1 rfl 3 rfl _ hS8) (j_cwS C qc_X4_copyRow qm_X4_73 qs_X4_copyRow qn_X4 hd_X4_copyRow ⟨rfl, rfl⟩ ⟨by decide, by decide⟩)  rfl (Nat.le_of_ble_eq_true rfl) dX4_ways__51 54 rfl ?_
        refine j_lconst C dX4_ways__54 (v := 0) rfl 55 rfl ?_
        refine j_lstore (lv2 := [(4, .long 0), (3, .int r1), (0, .ref (ad g 56)), (1, .int a1), (2, .int a2)]) C dX4_ways__55 (by decide) rfl 57 rfl ?_
        refine j_iconst C dX4_ways__57 (v := 0) c_iconst_0 58 rfl ?_
        refine j_istore (lv2 := [(6, .int 0), (4, .long 0), (3, .int r1), (0, .ref (ad g 56)), (1, .int a1), (2, .int a2)]) C dX4_ways__58 (by decide) rfl 60 rfl ?_
        refine j_sub [3, 4, 5, 1, 0] rfl ?_
        exact hL60 FU a1 a2 0 0 S8 hf
      · rw [if_neg c7] at hf
        refine j_aload_n C dX4_ways__36 rfl 1 rfl 37 rfl ?_
        refine j_iload_n C dX4_ways__37 rfl 0 rfl 38 rfl ?_
        obtain ⟨⟨r17, S18⟩, hq16, hf⟩ := bnd hf
        dsimp only at hf
        refine j_callVi (As := [.int r1]) (rest := []) C (c_X4_finding l g sz x S  r1 _ _ hq16) (j_cwV C qc_X4_finding qm_X4_99 qi_X4_finding qs_X4_finding qn_X4 hd_X4_finding ⟨rfl, rfl⟩ ⟨by decide, by decide⟩) (rcv_mo.cell C.2) rfl (Nat.le_of_ble_eq_true rfl) dX4_ways__38 41 rfl ?_
        refine j_i2l C dX4_ways__41 42 rfl ?_
        obtain ⟨rfl, rfl⟩ := Prod.mk.inj (Option.some.inj hf)
        exact j_lret C hr hlk dX4_ways__42
    · rw [if_pos c6] at hf
      refine j_aload_n C dX4_ways__24 rfl 1 rfl 25 rfl ?_
      refine j_ldc C dX4_ways__25 qk_X4_72 27 rfl ?_
      obtain ⟨⟨r20, S21⟩, hq19, hf⟩ := bnd hf
      dsimp only at hf
      refine j_callVi (As := [.int (-1000001)]) (rest := []) C (c_X4_finding l g sz x S  (-1000001) _ _ hq19) (j_cwV C qc_X4_finding qm_X4_99 qi_X4_finding qs_X4_finding qn_X4 hd_X4_finding ⟨rfl, rfl⟩ ⟨by decide, by decide⟩) (rcv_mo.cell C.2) rfl (Nat.le_of_ble_eq_true rfl) dX4_ways__27 30 rfl ?_
      refine j_i2l C dX4_ways__30 31 rfl ?_
      obtain ⟨rfl, rfl⟩ := Prod.mk.inj (Option.some.inj hf)
      exact j_lret C hr hlk dX4_ways__31
set_option maxRecDepth 100000 in
set_option maxHeartbeats 4000000 in
theorem c_X4_total (l : Launch) (g : GG) (sz : Nat) (x S : St) (a1 : Int32) (r : Int64) (S' : St) (hf : X4_total a1 S = some (r, S')) : Met l yX4_total (.code yX4_total cX4_total 7 (some .long) :: ALLW) (rmJ 8 179) (PcJ g sz x S [.ref (ad g 56), .int a1]) (QlJ g sz r x S') 0 0 (Ag sz) := by
  refine j_met (own := RX4) (by decide) rfl (Nat.le_of_ble_eq_true rfl) rfl ?_
  intro p e s m args below meth c C hr hlk
  have hL39 : ∀ (n : Nat), ∀ (b1 : Int32) (b3 : Int32) (b4 : Int64) (b6 : Int32) (S : St), X4_total_L39 n b1 b3 b4 b6 S = some (r, S') → Wj p l e (rmJ 8 179) s m args below meth c (MQ below (QlJ g sz r x S') args s 0 0 (Ag sz)) 7 g sz x S 39 [(0, .ref (ad g 56)), (1, .int b1), (3, .int b3), (4, .long b4), (6, .int b6)] [] := by
    intro  n
    induction n with
    | zero =>
      intro b1 b3 b4 b6 S hf
      rw [X4_total_L39] at hf
      cases hf
    | succ n ih =>
      intro b1 b3 b4 b6 S hf
      rw [X4_total_L39] at hf
      refine j_iload C dX4_total_39 4 rfl 41 rfl ?_
      refine j_iload_n C dX4_total_41 rfl 1 rfl 42 rfl ?_
      refine j_callSi (As := [.int b1]) (rest := [.int b6]) C (c_X4_ways l g sz x S b1 _ rfl) (j_cwS C qc_X4_ways qm_X4_227 qs_X4_ways qn_X4 hd_X4_ways ⟨rfl, rfl⟩ ⟨by decide, by decide⟩)  rfl (Nat.le_of_ble_eq_true rfl) dX4_total_42 45 rfl ?_
      refine j_icmp_ge C dX4_total_45 77 (by decide) 48 rfl (fun c5 => ?_) (fun c5 => ?_)
      · rw [if_pos c5] at hf
        refine j_lload C dX4_total_77 3 rfl 79 rfl ?_
        obtain ⟨rfl, rfl⟩ := Prod.mk.inj (Option.some.inj hf)
        exact j_lret C hr hlk dX4_total_79
      · rw [if_neg c5] at hf
        refine j_aload_n C dX4_total_48 rfl 0 rfl 49 rfl ?_
        refine j_iload C dX4_total_49 4 rfl 51 rfl ?_
        refine j_iload_n C dX4_total_51 rfl 1 rfl 52 rfl ?_
        obtain ⟨S6, hS6, hf⟩ := bnd hf
        refine j_callVv (As := [.int b6, .int b1]) (rest := []) C (c_X4_dropsBy l g sz x S  b6 b1 _ hS6) (j_cwV C qc_X4_dropsBy qm_X4_242 qi_X4_dropsBy qs_X4_dropsBy qn_X4 hd_X4_dropsBy ⟨rfl, rfl⟩ ⟨by decide, by decide⟩) (rcv_mo.cell C.2) rfl (Nat.le_of_ble_eq_true rfl) dX4_total_52 55 rfl ?_
        refine j_lload C dX4_total_55 3 rfl 57 rfl ?_
        refine j_aload_n C dX4_total_57 rfl 0 rfl 58 rfl ?_
        refine j_aload_n C dX4_total_58 rfl 0 rfl 59 rfl ?_
        obtain ⟨r7, hr7, hf⟩ := bnd hf
        refine j_callVi (As := []) (rest := [.ref (ad g 56), .long b4]) C (c_X4_gain l g sz x S6   _ hr7) (j_cwV C qc_X4_gain qm_X4_186 qi_X4_gain qs_X4_gain qn_X4 hd_X4_gain ⟨rfl, rfl⟩ ⟨by decide, by decide⟩) (rcv_mo.cell C.2) rfl (Nat.le_of_ble_eq_true rfl) dX4_total_59 62 rfl ?_
        obtain ⟨⟨r9, S10⟩, hq8, hf⟩ := bnd hf
        dsimp only at hf
        refine j_callVi (As := [.int r7]) (rest := [.long b4]) C (c_X4_putBack l g sz x S6  r7 _ _ hq8) (j_cwV C qc_X4_putBack qm_X4_210 qi_X4_putBack qs_X4_putBack qn_X4 hd_X4_putBack ⟨rfl, rfl⟩ ⟨by decide, by decide⟩) (rcv_mo.cell C.2) rfl (Nat.le_of_ble_eq_true rfl) dX4_total_62 65 rfl ?_
        refine j_iload_n C dX4_total_65 rfl 2 rfl 66 rfl ?_
        refine j_isub C dX4_total_66 67 rfl ?_
        refine j_i2l C dX4_total_67 68 rfl ?_
        refine j_ladd C dX4_total_68 69 rfl ?_
        refine j_lstore (lv2 := [(4, .long (b4 + (r9 - b3).toInt64)), (0, .ref (ad g 56)), (1, .int b1), (3, .int b3), (6, .int b6)]) C dX4_total_69 (by decide) rfl 71 rfl ?_
        refine j_iinc (lv2 := [(6, .int (b6 + 1)), (4, .long (b4 + (r9 - b3).toInt64)), (0, .ref (ad g 56)), (1, .int b1), (3, .int b3)]) C dX4_total_71 (k := 4) rfl (congrArg (HAdd.hAdd b6) c_oi_1) (by decide) rfl 74 rfl ?_
        refine j_goto C dX4_total_74 39 (by decide) ?_
        refine j_sub [2, 3, 4, 1, 0] rfl ?_
        exact ih b1 b3 (b4 + (r9 - b3).toInt64) (b6 + 1) S10 hf
  unfold X4_total at hf
  refine j_aload_n C dX4_total_0 rfl 0 rfl 1 rfl ?_
  refine j_iload_n C dX4_total_1 rfl 1 rfl 2 rfl ?_
  obtain ⟨r1, hr1, hf⟩ := bnd hf
  refine j_callVi (As := [.int a1]) (rest := []) C (c_X4_refusesWays l g sz x S  a1 _ hr1) (j_cwV C qc_X4_refusesWays qm_X4_263 qi_X4_refusesWays qs_X4_refusesWays qn_X4 hd_X4_refusesWays ⟨rfl, rfl⟩ ⟨by decide, by decide⟩) (rcv_mo.cell C.2) rfl (Nat.le_of_ble_eq_true rfl) dX4_total_2 5 rfl ?_
  refine j_istore_n (lv2 := [(2, .int r1), (0, .ref (ad g 56)), (1, .int a1)]) C dX4_total_5 rfl (by decide) rfl 6 rfl ?_
  refine j_iload_n C dX4_total_6 rfl 0 rfl 7 rfl ?_
  refine j_if_eq C dX4_total_7 17 (by decide) 10 rfl (fun c2 => ?_) (fun c2 => ?_)
  · rw [if_pos c2] at hf
    refine j_aload_n C dX4_total_17 rfl 1 rfl 18 rfl ?_
    refine j4_get C 0 (by decide) qf_X4_9 (v := .ref (ad g 57)) rfl dX4_total_18 21 rfl ?_
    refine j_aload_n C dX4_total_21 rfl 1 rfl 22 rfl ?_
    refine j4_get C 2 (by decide) qf_X4_16 (v := .ref (ad g 59)) rfl dX4_total_22 25 rfl ?_
    obtain ⟨S3, hS3, hf⟩ := bnd hf
    refine j_callSv (As := [.ref (ad g 57), .ref (ad g 59)]) (rest := []) C (c_X4_copyRow l g sz x S  1 rfl 3 rfl _ hS3) (j_cwS C qc_X4_copyRow qm_X4_73 qs_X4_copyRow qn_X4 hd_X4_copyRow ⟨rfl, rfl⟩ ⟨by decide, by decide⟩)  rfl (Nat.le_of_ble_eq_true rfl) dX4_total_25 28 rfl ?_
    refine j_aload_n C dX4_total_28 rfl 1 rfl 29 rfl ?_
    obtain ⟨r4, hr4, hf⟩ := bnd hf
    refine j_callVi (As := []) (rest := []) C (c_X4_gain l g sz x S3   _ hr4) (j_cwV C qc_X4_gain qm_X4_186 qi_X4_gain qs_X4_gain qn_X4 hd_X4_gain ⟨rfl, rfl⟩ ⟨by decide, by decide⟩) (rcv_mo.cell C.2) rfl (Nat.le_of_ble_eq_true rfl) dX4_total_29 32 rfl ?_
    refine j_istore_n (lv2 := [(3, .int r4), (2, .int r1), (0, .ref (ad g 56)), (1, .int a1)]) C dX4_total_32 rfl (by decide) rfl 33 rfl ?_
    refine j_lconst C dX4_total_33 (v := 0) rfl 34 rfl ?_
    refine j_lstore (lv2 := [(4, .long 0), (3, .int r4), (2, .int r1), (0, .ref (ad g 56)), (1, .int a1)]) C dX4_total_34 (by decide) rfl 36 rfl ?_
    refine j_iconst C dX4_total_36 (v := 0) c_iconst_0 37 rfl ?_
    refine j_istore (lv2 := [(6, .int 0), (4, .long 0), (3, .int r4), (2, .int r1), (0, .ref (ad g 56)), (1, .int a1)]) C dX4_total_37 (by decide) rfl 39 rfl ?_
    refine j_sub [4, 5, 2, 1, 0] rfl ?_
    exact hL39 FU a1 r4 0 0 S3 hf
  · rw [if_neg c2] at hf
    refine j_aload_n C dX4_total_10 rfl 1 rfl 11 rfl ?_
    refine j_iload_n C dX4_total_11 rfl 0 rfl 12 rfl ?_
    obtain ⟨⟨r12, S13⟩, hq11, hf⟩ := bnd hf
    dsimp only at hf
    refine j_callVi (As := [.int r1]) (rest := []) C (c_X4_finding l g sz x S  r1 _ _ hq11) (j_cwV C qc_X4_finding qm_X4_99 qi_X4_finding qs_X4_finding qn_X4 hd_X4_finding ⟨rfl, rfl⟩ ⟨by decide, by decide⟩) (rcv_mo.cell C.2) rfl (Nat.le_of_ble_eq_true rfl) dX4_total_12 15 rfl ?_
    refine j_i2l C dX4_total_15 16 rfl ?_
    obtain ⟨rfl, rfl⟩ := Prod.mk.inj (Option.some.inj hf)
    exact j_lret C hr hlk dX4_total_16
set_option maxRecDepth 100000 in
set_option maxHeartbeats 4000000 in
theorem c_X4_luck (l : Launch) (g : GG) (sz : Nat) (x S : St) (a1 : Int32) (a2 : Int32) (r : Int64) (S' : St) (hf : X4_luck a1 a2 S = some (r, S')) : Met l yX4_luck (.code yX4_luck cX4_luck 7 (some .long) :: ALLW) (rmJ 8 179) (PcJ g sz x S [.ref (ad g 56), .int a1, .int a2]) (QlJ g sz r x S') 0 0 (Ag sz) := by
  refine j_met (own := RX4) (by decide) rfl (Nat.le_of_ble_eq_true rfl) rfl ?_
  intro p e s m args below meth c C hr hlk
  have hL56 : ∀ (n : Nat), ∀ (b1 : Int32) (b2 : Int32) (b4 : Int64) (b6 : Int32) (S : St), X4_luck_L56 n b1 b2 b4 b6 S = some (r, S') → Wj p l e (rmJ 8 179) s m args below meth c (MQ below (QlJ g sz r x S') args s 0 0 (Ag sz)) 7 g sz x S 56 [(0, .ref (ad g 56)), (1, .int b1), (2, .int b2), (4, .long b4), (6, .int b6)] [] := by
    intro  n
    induction n with
    | zero =>
      intro b1 b2 b4 b6 S hf
      rw [X4_luck_L56] at hf
      cases hf
    | succ n ih =>
      intro b1 b2 b4 b6 S hf
      rw [X4_luck_L56] at hf
      refine j_iload C dX4_luck_56 4 rfl 58 rfl ?_
      refine j_iload_n C dX4_luck_58 rfl 2 rfl 59 rfl ?_
      refine j_callSi (As := [.int b2]) (rest := [.int b6]) C (c_X4_ways l g sz x S b2 _ rfl) (j_cwS C qc_X4_ways qm_X4_227 qs_X4_ways qn_X4 hd_X4_ways ⟨rfl, rfl⟩ ⟨by decide, by decide⟩)  rfl (Nat.le_of_ble_eq_true rfl) dX4_luck_59 62 rfl ?_
      refine j_icmp_ge C dX4_luck_62 106 (by decide) 65 rfl (fun c10 => ?_) (fun c10 => ?_)
      · rw [if_pos c10] at hf
        refine j_lload C dX4_luck_106 3 rfl 108 rfl ?_
        obtain ⟨rfl, rfl⟩ := Prod.mk.inj (Option.some.inj hf)
        exact j_lret C hr hlk dX4_luck_108
      · rw [if_neg c10] at hf
        refine j_aload_n C dX4_luck_65 rfl 0 rfl 66 rfl ?_
        refine j_iload C dX4_luck_66 4 rfl 68 rfl ?_
        refine j_iload_n C dX4_luck_68 rfl 2 rfl 69 rfl ?_
        obtain ⟨S11, hS11, hf⟩ := bnd hf
        refine j_callVv (As := [.int b6, .int b2]) (rest := []) C (c_X4_dropsBy l g sz x S  b6 b2 _ hS11) (j_cwV C qc_X4_dropsBy qm_X4_242 qi_X4_dropsBy qs_X4_dropsBy qn_X4 hd_X4_dropsBy ⟨rfl, rfl⟩ ⟨by decide, by decide⟩) (rcv_mo.cell C.2) rfl (Nat.le_of_ble_eq_true rfl) dX4_luck_69 72 rfl ?_
        refine j_lload C dX4_luck_72 3 rfl 74 rfl ?_
        refine j_aload_n C dX4_luck_74 rfl 0 rfl 75 rfl ?_
        refine j_aload_n C dX4_luck_75 rfl 0 rfl 76 rfl ?_
        refine j4_get C 0 (by decide) qf_X4_9 (v := .ref (ad g 57)) rfl dX4_luck_76 79 rfl ?_
        refine j_bipush C dX4_luck_79 (v := 41) c_bipush_41 81 rfl ?_
        refine j_iload_n C dX4_luck_81 rfl 1 rfl 82 rfl ?_
        refine j_iadd C dX4_luck_82 83 rfl ?_
        obtain ⟨v12, hv12, hf⟩ := bnd hf
        refine j4_ald 1 rfl C hv12 dX4_luck_83 84 rfl ?_
        obtain ⟨⟨r14, S15⟩, hq13, hf⟩ := bnd hf
        dsimp only at hf
        refine j_callVi (As := [.int v12]) (rest := [.long b4]) C (c_X4_putBack l g sz x S11  v12 _ _ hq13) (j_cwV C qc_X4_putBack qm_X4_210 qi_X4_putBack qs_X4_putBack qn_X4 hd_X4_putBack ⟨rfl, rfl⟩ ⟨by decide, by decide⟩) (rcv_mo.cell C.2) rfl (Nat.le_of_ble_eq_true rfl) dX4_luck_84 87 rfl ?_
        refine j_bipush C dX4_luck_87 (v := 101) c_bipush_101 89 rfl ?_
        refine j_icmp_ne C dX4_luck_89 96 (by decide) 92 rfl (fun c16 => ?_) (fun c16 => ?_)
        · rw [if_neg c16] at hf
          refine j_lconst C dX4_luck_96 (v := 0) rfl 97 rfl ?_
          refine j_ladd C dX4_luck_97 98 rfl ?_
          refine j_lstore (lv2 := [(4, .long (b4 + 0)), (0, .ref (ad g 56)), (1, .int b1), (2, .int b2), (6, .int b6)]) C dX4_luck_98 (by decide) rfl 100 rfl ?_
          refine j_iinc (lv2 := [(6, .int (b6 + 1)), (4, .long (b4 + 0)), (0, .ref (ad g 56)), (1, .int b1), (2, .int b2)]) C dX4_luck_100 (k := 4) rfl (congrArg (HAdd.hAdd b6) c_oi_1) (by decide) rfl 103 rfl ?_
          refine j_goto C dX4_luck_103 56 (by decide) ?_
          refine j_sub [2, 3, 4, 1, 0] rfl ?_
          exact ih b1 b2 (b4 + 0) (b6 + 1) S15 hf
        · rw [if_pos c16] at hf
          refine j_lconst C dX4_luck_92 (v := 1) rfl 93 rfl ?_
          refine j_goto C dX4_luck_93 97 (by decide) ?_
          refine j_ladd C dX4_luck_97 98 rfl ?_
          refine j_lstore (lv2 := [(4, .long (b4 + 1)), (0, .ref (ad g 56)), (1, .int b1), (2, .int b2), (6, .int b6)]) C dX4_luck_98 (by decide) rfl 100 rfl ?_
          refine j_iinc (lv2 := [(6, .int (b6 + 1)), (4, .long (b4 + 1)), (0, .ref (ad g 56)), (1, .int b1), (2, .int b2)]) C dX4_luck_100 (k := 4) rfl (congrArg (HAdd.hAdd b6) c_oi_1) (by decide) rfl 103 rfl ?_
          refine j_goto C dX4_luck_103 56 (by decide) ?_
          refine j_sub [2, 3, 4, 1, 0] rfl ?_
          exact ih b1 b2 (b4 + 1) (b6 + 1) S15 hf
  unfold X4_luck at hf
  refine j_aload_n C dX4_luck_0 rfl 0 rfl 1 rfl ?_
  refine j_iload_n C dX4_luck_1 rfl 2 rfl 2 rfl ?_
  obtain ⟨r1, hr1, hf⟩ := bnd hf
  refine j_callVi (As := [.int a2]) (rest := []) C (c_X4_refusesWays l g sz x S  a2 _ hr1) (j_cwV C qc_X4_refusesWays qm_X4_263 qi_X4_refusesWays qs_X4_refusesWays qn_X4 hd_X4_refusesWays ⟨rfl, rfl⟩ ⟨by decide, by decide⟩) (rcv_mo.cell C.2) rfl (Nat.le_of_ble_eq_true rfl) dX4_luck_2 5 rfl ?_
  refine j_istore_n (lv2 := [(3, .int r1), (0, .ref (ad g 56)), (1, .int a1), (2, .int a2)]) C dX4_luck_5 rfl (by decide) rfl 6 rfl ?_
  refine j_iload_n C dX4_luck_6 rfl 0 rfl 7 rfl ?_
  refine j_ldc C dX4_luck_7 qk_X4_72 9 rfl ?_
  refine j_icmp_eq C dX4_luck_9 20 (by decide) 12 rfl (fun c2 => ?_) (fun c2 => ?_)
  · rw [if_pos c2] at hf
    refine j_aload_n C dX4_luck_20 rfl 1 rfl 21 rfl ?_
    refine j_ldc C dX4_luck_21 qk_X4_72 23 rfl ?_
    obtain ⟨⟨r4, S5⟩, hq3, hf⟩ := bnd hf
    dsimp only at hf
    refine j_callVi (As := [.int (-1000001)]) (rest := []) C (c_X4_finding l g sz x S  (-1000001) _ _ hq3) (j_cwV C qc_X4_finding qm_X4_99 qi_X4_finding qs_X4_finding qn_X4 hd_X4_finding ⟨rfl, rfl⟩ ⟨by decide, by decide⟩) (rcv_mo.cell C.2) rfl (Nat.le_of_ble_eq_true rfl) dX4_luck_23 26 rfl ?_
    refine j_i2l C dX4_luck_26 27 rfl ?_
    obtain ⟨rfl, rfl⟩ := Prod.mk.inj (Option.some.inj hf)
    exact j_lret C hr hlk dX4_luck_27
  · rw [if_neg c2] at hf
    refine j_aload_n C dX4_luck_12 rfl 1 rfl 13 rfl ?_
    refine j_iload_n C dX4_luck_13 rfl 2 rfl 14 rfl ?_
    obtain ⟨r6, hr6, hf⟩ := bnd hf
    refine j_callVi (As := [.int a1]) (rest := []) C (c_X4_isCoin l g sz x S  a1 _ hr6) (j_cwV C qc_X4_isCoin qm_X4_116 qi_X4_isCoin qs_X4_isCoin qn_X4 hd_X4_isCoin ⟨rfl, rfl⟩ ⟨by decide, by decide⟩) (rcv_mo.cell C.2) rfl (Nat.le_of_ble_eq_true rfl) dX4_luck_14 17 rfl ?_
    refine j_if_ne C dX4_luck_17 28 (by decide) 20 rfl (fun c7 => ?_) (fun c7 => ?_)
    · rw [if_neg c7] at hf
      refine j_iload_n C dX4_luck_28 rfl 0 rfl 29 rfl ?_
      refine j_if_eq C dX4_luck_29 39 (by decide) 32 rfl (fun c8 => ?_) (fun c8 => ?_)
      · rw [if_pos c8] at hf
        refine j_aload_n C dX4_luck_39 rfl 1 rfl 40 rfl ?_
        refine j4_get C 0 (by decide) qf_X4_9 (v := .ref (ad g 57)) rfl dX4_luck_40 43 rfl ?_
        refine j_aload_n C dX4_luck_43 rfl 1 rfl 44 rfl ?_
        refine j4_get C 2 (by decide) qf_X4_16 (v := .ref (ad g 59)) rfl dX4_luck_44 47 rfl ?_
        obtain ⟨S9, hS9, hf⟩ := bnd hf
        refine j_callSv (As := [.ref (ad g 57), .ref (ad g 59)]) (rest := []) C (c_X4_copyRow l g sz x S  1 rfl 3 rfl _ hS9) (j_cwS C qc_X4_copyRow qm_X4_73 qs_X4_copyRow qn_X4 hd_X4_copyRow ⟨rfl, rfl⟩ ⟨by decide, by decide⟩)  rfl (Nat.le_of_ble_eq_true rfl) dX4_luck_47 50 rfl ?_
        refine j_lconst C dX4_luck_50 (v := 0) rfl 51 rfl ?_
        refine j_lstore (lv2 := [(4, .long 0), (3, .int r1), (0, .ref (ad g 56)), (1, .int a1), (2, .int a2)]) C dX4_luck_51 (by decide) rfl 53 rfl ?_
        refine j_iconst C dX4_luck_53 (v := 0) c_iconst_0 54 rfl ?_
        refine j_istore (lv2 := [(6, .int 0), (4, .long 0), (3, .int r1), (0, .ref (ad g 56)), (1, .int a1), (2, .int a2)]) C dX4_luck_54 (by decide) rfl 56 rfl ?_
        refine j_sub [3, 4, 5, 1, 0] rfl ?_
        exact hL56 FU a1 a2 0 0 S9 hf
      · rw [if_neg c8] at hf
        refine j_aload_n C dX4_luck_32 rfl 1 rfl 33 rfl ?_
        refine j_iload_n C dX4_luck_33 rfl 0 rfl 34 rfl ?_
        obtain ⟨⟨r18, S19⟩, hq17, hf⟩ := bnd hf
        dsimp only at hf
        refine j_callVi (As := [.int r1]) (rest := []) C (c_X4_finding l g sz x S  r1 _ _ hq17) (j_cwV C qc_X4_finding qm_X4_99 qi_X4_finding qs_X4_finding qn_X4 hd_X4_finding ⟨rfl, rfl⟩ ⟨by decide, by decide⟩) (rcv_mo.cell C.2) rfl (Nat.le_of_ble_eq_true rfl) dX4_luck_34 37 rfl ?_
        refine j_i2l C dX4_luck_37 38 rfl ?_
        obtain ⟨rfl, rfl⟩ := Prod.mk.inj (Option.some.inj hf)
        exact j_lret C hr hlk dX4_luck_38
    · rw [if_pos c7] at hf
      refine j_aload_n C dX4_luck_20 rfl 1 rfl 21 rfl ?_
      refine j_ldc C dX4_luck_21 qk_X4_72 23 rfl ?_
      obtain ⟨⟨r21, S22⟩, hq20, hf⟩ := bnd hf
      dsimp only at hf
      refine j_callVi (As := [.int (-1000001)]) (rest := []) C (c_X4_finding l g sz x S  (-1000001) _ _ hq20) (j_cwV C qc_X4_finding qm_X4_99 qi_X4_finding qs_X4_finding qn_X4 hd_X4_finding ⟨rfl, rfl⟩ ⟨by decide, by decide⟩) (rcv_mo.cell C.2) rfl (Nat.le_of_ble_eq_true rfl) dX4_luck_23 26 rfl ?_
      refine j_i2l C dX4_luck_26 27 rfl ?_
      obtain ⟨rfl, rfl⟩ := Prod.mk.inj (Option.some.inj hf)
      exact j_lret C hr hlk dX4_luck_27
set_option maxRecDepth 100000 in
set_option maxHeartbeats 4000000 in
theorem c_X4_drawn (l : Launch) (g : GG) (sz : Nat) (x S : St) (a1 : Int32) (r : Int32) (S' : St) (hf : X4_drawn a1 S = some (r, S')) : Met l yX4_drawn (.code yX4_drawn cX4_drawn 2 (some .int) :: ALLW) (rmJ 0 0) (PcJ g sz x S [.ref (ad g 56), .int a1]) (QiJ g sz r x S') 0 0 (Ag sz) := by
  refine j_met (own := RX4) (by decide) rfl (Nat.le_of_ble_eq_true rfl) rfl ?_
  intro p e s m args below meth c C hr hlk
  unfold X4_drawn at hf
  refine j_aload_n C dX4_drawn_0 rfl 0 rfl 1 rfl ?_
  refine j4_get C 0 (by decide) qf_X4_9 (v := .ref (ad g 57)) rfl dX4_drawn_1 4 rfl ?_
  refine j_bipush C dX4_drawn_4 (v := 6) c_bipush_6 6 rfl ?_
  refine j_aload_n C dX4_drawn_6 rfl 0 rfl 7 rfl ?_
  refine j4_get C 0 (by decide) qf_X4_9 (v := .ref (ad g 57)) rfl dX4_drawn_7 10 rfl ?_
  refine j_bipush C dX4_drawn_10 (v := 6) c_bipush_6 12 rfl ?_
  obtain ⟨v1, hv1, hf⟩ := bnd hf
  refine j4_ald 1 rfl C hv1 dX4_drawn_12 13 rfl ?_
  refine j_ldcw C dX4_drawn_13 qk_X4_266 16 rfl ?_
  refine j_imul C dX4_drawn_16 17 rfl ?_
  refine j_sipush C dX4_drawn_17 (v := 12345) c_sipush_12345 20 rfl ?_
  refine j_iadd C dX4_drawn_20 21 rfl ?_
  obtain ⟨S2, hS2, hf⟩ := bnd hf
  refine j4_ast 1 rfl C hS2 dX4_drawn_21 22 rfl ?_
  refine j_aload_n C dX4_drawn_22 rfl 0 rfl 23 rfl ?_
  refine j4_get C 0 (by decide) qf_X4_9 (v := .ref (ad g 57)) rfl dX4_drawn_23 26 rfl ?_
  refine j_bipush C dX4_drawn_26 (v := 6) c_bipush_6 28 rfl ?_
  obtain ⟨v3, hv3, hf⟩ := bnd hf
  refine j4_ald 1 rfl C hv3 dX4_drawn_28 29 rfl ?_
  refine j_bipush C dX4_drawn_29 (v := 8) c_bipush_8 31 rfl ?_
  refine j_iushr C dX4_drawn_31 32 rfl ?_
  refine j_iload_n C dX4_drawn_32 rfl 1 rfl 33 rfl ?_
  obtain ⟨v4, hv4, hf⟩ := bnd hf
  refine j_irem C dX4_drawn_33 hv4 34 rfl ?_
  obtain ⟨rfl, rfl⟩ := Prod.mk.inj (Option.some.inj hf)
  exact j_iret C hr hlk dX4_drawn_34
set_option maxRecDepth 100000 in
set_option maxHeartbeats 4000000 in
theorem c_X4_play (l : Launch) (g : GG) (sz : Nat) (x S : St) (a1 : Int32) (r : Int32) (S' : St) (hf : X4_play a1 S = some (r, S')) : Met l yX4_play (.code yX4_play cX4_play 4 (some .int) :: ALLW) (rmJ 7 156) (PcJ g sz x S [.ref (ad g 56), .int a1]) (QiJ g sz r x S') 0 0 (Ag sz) := by
  refine j_met (own := RX4) (by decide) rfl (Nat.le_of_ble_eq_true rfl) rfl ?_
  intro p e s m args below meth c C hr hlk
  have hL56 : ∀ (n : Nat), ∀ (b1 : Int32) (b2 : Int32) (b3 : Int32) (S : St), X4_play_L56 n b1 b2 b3 S = some (r, S') → Wj p l e (rmJ 7 156) s m args below meth c (MQ below (QiJ g sz r x S') args s 0 0 (Ag sz)) 4 g sz x S 56 [(0, .ref (ad g 56)), (1, .int b1), (2, .int b2), (3, .int b3)] [] := by
    intro  n
    induction n with
    | zero =>
      intro b1 b2 b3 S hf
      rw [X4_play_L56] at hf
      cases hf
    | succ n ih =>
      intro b1 b2 b3 S hf
      rw [X4_play_L56] at hf
      refine j_iload_n C dX4_play_56 rfl 3 rfl 57 rfl ?_
      refine j_iload_n C dX4_play_57 rfl 1 rfl 58 rfl ?_
      refine j_icmp_ge C dX4_play_58 81 (by decide) 61 rfl (fun c11 => ?_) (fun c11 => ?_)
      · rw [if_pos c11] at hf
        refine j_aload_n C dX4_play_81 rfl 0 rfl 82 rfl ?_
        obtain ⟨r12, hr12, hf⟩ := bnd hf
        refine j_callVi (As := []) (rest := []) C (c_X4_gain l g sz x S   _ hr12) (j_cwV C qc_X4_gain qm_X4_186 qi_X4_gain qs_X4_gain qn_X4 hd_X4_gain ⟨rfl, rfl⟩ ⟨by decide, by decide⟩) (rcv_mo.cell C.2) rfl (Nat.le_of_ble_eq_true rfl) dX4_play_82 85 rfl ?_
        refine j_iload_n C dX4_play_85 rfl 2 rfl 86 rfl ?_
        refine j_isub C dX4_play_86 87 rfl ?_
        obtain ⟨rfl, rfl⟩ := Prod.mk.inj (Option.some.inj hf)
        exact j_iret C hr hlk dX4_play_87
      · rw [if_neg c11] at hf
        refine j_aload_n C dX4_play_61 rfl 0 rfl 62 rfl ?_
        refine j_aload_n C dX4_play_62 rfl 0 rfl 63 rfl ?_
        obtain ⟨r13, hr13, hf⟩ := bnd hf
        refine j_callVi (As := []) (rest := [.ref (ad g 56)]) C (c_X4_leastInHand l g sz x S   _ hr13) (j_cwV C qc_X4_leastInHand qm_X4_230 qi_X4_leastInHand qs_X4_leastInHand qn_X4 hd_X4_leastInHand ⟨rfl, rfl⟩ ⟨by decide, by decide⟩) (rcv_mo.cell C.2) rfl (Nat.le_of_ble_eq_true rfl) dX4_play_63 66 rfl ?_
        refine j_aload_n C dX4_play_66 rfl 0 rfl 67 rfl ?_
        refine j_bipush C dX4_play_67 (v := 7) c_bipush_7 69 rfl ?_
        obtain ⟨⟨r15, S16⟩, hq14, hf⟩ := bnd hf
        dsimp only at hf
        refine j_callVi (As := [.int 7]) (rest := [.int r13, .ref (ad g 56)]) C (c_X4_drawn l g sz x S  7 _ _ hq14) (j_cwV C qc_X4_drawn qm_X4_267 qi_X4_drawn qs_X4_drawn qn_X4 hd_X4_drawn ⟨rfl, rfl⟩ ⟨by decide, by decide⟩) (rcv_mo.cell C.2) rfl (Nat.le_of_ble_eq_true rfl) dX4_play_69 72 rfl ?_
        obtain ⟨S17, hS17, hf⟩ := bnd hf
        refine j_callVv (As := [.int r13, .int r15]) (rest := []) C (c_X4_dropped l g sz x S16  r13 r15 _ hS17) (j_cwV C qc_X4_dropped qm_X4_190 qi_X4_dropped qs_X4_dropped qn_X4 hd_X4_dropped ⟨rfl, rfl⟩ ⟨by decide, by decide⟩) (rcv_mo.cell C.2) rfl (Nat.le_of_ble_eq_true rfl) dX4_play_72 75 rfl ?_
        refine j_iinc (lv2 := [(3, .int (b3 + 1)), (0, .ref (ad g 56)), (1, .int b1), (2, .int b2)]) C dX4_play_75 (k := 3) rfl (congrArg (HAdd.hAdd b3) c_oi_1) (by decide) rfl 78 rfl ?_
        refine j_goto C dX4_play_78 56 (by decide) ?_
        refine j_sub [1, 2, 3, 0] rfl ?_
        exact ih b1 b2 (b3 + 1) S17 hf
  unfold X4_play at hf
  refine j_iload_n C dX4_play_0 rfl 1 rfl 1 rfl ?_
  refine j_iconst C dX4_play_1 (v := 1) c_iconst_1 2 rfl ?_
  refine j_bipush C dX4_play_2 (v := 12) c_bipush_12 4 rfl ?_
  refine j_callSi (As := [.int a1, .int 1, .int 12]) (rest := []) C (c_X4_within l g sz x S a1 1 12 _ rfl) (j_cwS C qc_X4_within qm_X4_77 qs_X4_within qn_X4 hd_X4_within ⟨rfl, rfl⟩ ⟨by decide, by decide⟩)  rfl (Nat.le_of_ble_eq_true rfl) dX4_play_4 7 rfl ?_
  refine j_if_ne C dX4_play_7 17 (by decide) 10 rfl (fun c1 => ?_) (fun c1 => ?_)
  · rw [if_neg c1] at hf
    refine j_aload_n C dX4_play_17 rfl 0 rfl 18 rfl ?_
    refine j_bipush C dX4_play_18 (v := 100) c_bipush_100 20 rfl ?_
    obtain ⟨r2, hr2, hf⟩ := bnd hf
    refine j_callVi (As := [.int 100]) (rest := []) C (c_X4_setOf l g sz x S  100 _ hr2) (j_cwV C qc_X4_setOf qm_X4_177 qi_X4_setOf qs_X4_setOf qn_X4 hd_X4_setOf ⟨rfl, rfl⟩ ⟨by decide, by decide⟩) (rcv_mo.cell C.2) rfl (Nat.le_of_ble_eq_true rfl) dX4_play_20 23 rfl ?_
    obtain ⟨r3, hr3, hf⟩ := bnd hf
    refine j_callSi (As := [.int r2]) (rest := []) C (c_X4_bits l g sz x S r2 _ hr3) (j_cwS C qc_X4_bits qm_X4_236 qs_X4_bits qn_X4 hd_X4_bits ⟨rfl, rfl⟩ ⟨by decide, by decide⟩)  rfl (Nat.le_of_ble_eq_true rfl) dX4_play_23 26 rfl ?_
    refine j_iload_n C dX4_play_26 rfl 1 rfl 27 rfl ?_
    refine j_icmp_lt C dX4_play_27 42 (by decide) 30 rfl (fun c4 => ?_) (fun c4 => ?_)
    · rw [if_pos c4] at hf
      refine j_aload_n C dX4_play_42 rfl 0 rfl 43 rfl ?_
      refine j_ldc C dX4_play_43 qk_X4_137 45 rfl ?_
      obtain ⟨⟨r6, S7⟩, hq5, hf⟩ := bnd hf
      dsimp only at hf
      refine j_callVi (As := [.int (-1000005)]) (rest := []) C (c_X4_finding l g sz x S  (-1000005) _ _ hq5) (j_cwV C qc_X4_finding qm_X4_99 qi_X4_finding qs_X4_finding qn_X4 hd_X4_finding ⟨rfl, rfl⟩ ⟨by decide, by decide⟩) (rcv_mo.cell C.2) rfl (Nat.le_of_ble_eq_true rfl) dX4_play_45 48 rfl ?_
      obtain ⟨rfl, rfl⟩ := Prod.mk.inj (Option.some.inj hf)
      exact j_iret C hr hlk dX4_play_48
    · rw [if_neg c4] at hf
      refine j_aload_n C dX4_play_30 rfl 0 rfl 31 rfl ?_
      refine j4_get C 0 (by decide) qf_X4_9 (v := .ref (ad g 57)) rfl dX4_play_31 34 rfl ?_
      refine j_iconst C dX4_play_34 (v := 0) c_iconst_0 35 rfl ?_
      obtain ⟨v8, hv8, hf⟩ := bnd hf
      refine j4_ald 1 rfl C hv8 dX4_play_35 36 rfl ?_
      refine j_sipush C dX4_play_36 (v := 9900) c_sipush_9900 39 rfl ?_
      refine j_icmp_le C dX4_play_39 49 (by decide) 42 rfl (fun c9 => ?_) (fun c9 => ?_)
      · rw [if_pos c9] at hf
        refine j_aload_n C dX4_play_49 rfl 0 rfl 50 rfl ?_
        obtain ⟨r10, hr10, hf⟩ := bnd hf
        refine j_callVi (As := []) (rest := []) C (c_X4_gain l g sz x S   _ hr10) (j_cwV C qc_X4_gain qm_X4_186 qi_X4_gain qs_X4_gain qn_X4 hd_X4_gain ⟨rfl, rfl⟩ ⟨by decide, by decide⟩) (rcv_mo.cell C.2) rfl (Nat.le_of_ble_eq_true rfl) dX4_play_50 53 rfl ?_
        refine j_istore_n (lv2 := [(2, .int r10), (0, .ref (ad g 56)), (1, .int a1)]) C dX4_play_53 rfl (by decide) rfl 54 rfl ?_
        refine j_iconst C dX4_play_54 (v := 0) c_iconst_0 55 rfl ?_
        refine j_istore_n (lv2 := [(3, .int 0), (2, .int r10), (0, .ref (ad g 56)), (1, .int a1)]) C dX4_play_55 rfl (by decide) rfl 56 rfl ?_
        refine j_sub [2, 3, 1, 0] rfl ?_
        exact hL56 FU a1 r10 0 S hf
      · rw [if_neg c9] at hf
        refine j_aload_n C dX4_play_42 rfl 0 rfl 43 rfl ?_
        refine j_ldc C dX4_play_43 qk_X4_137 45 rfl ?_
        obtain ⟨⟨r19, S20⟩, hq18, hf⟩ := bnd hf
        dsimp only at hf
        refine j_callVi (As := [.int (-1000005)]) (rest := []) C (c_X4_finding l g sz x S  (-1000005) _ _ hq18) (j_cwV C qc_X4_finding qm_X4_99 qi_X4_finding qs_X4_finding qn_X4 hd_X4_finding ⟨rfl, rfl⟩ ⟨by decide, by decide⟩) (rcv_mo.cell C.2) rfl (Nat.le_of_ble_eq_true rfl) dX4_play_45 48 rfl ?_
        obtain ⟨rfl, rfl⟩ := Prod.mk.inj (Option.some.inj hf)
        exact j_iret C hr hlk dX4_play_48
  · rw [if_pos c1] at hf
    refine j_aload_n C dX4_play_10 rfl 0 rfl 11 rfl ?_
    refine j_ldc C dX4_play_11 qk_X4_72 13 rfl ?_
    obtain ⟨⟨r22, S23⟩, hq21, hf⟩ := bnd hf
    dsimp only at hf
    refine j_callVi (As := [.int (-1000001)]) (rest := []) C (c_X4_finding l g sz x S  (-1000001) _ _ hq21) (j_cwV C qc_X4_finding qm_X4_99 qi_X4_finding qs_X4_finding qn_X4 hd_X4_finding ⟨rfl, rfl⟩ ⟨by decide, by decide⟩) (rcv_mo.cell C.2) rfl (Nat.le_of_ble_eq_true rfl) dX4_play_13 16 rfl ?_
    obtain ⟨rfl, rfl⟩ := Prod.mk.inj (Option.some.inj hf)
    exact j_iret C hr hlk dX4_play_16
set_option maxRecDepth 100000 in
set_option maxHeartbeats 4000000 in
theorem c_X4_jolt (l : Launch) (g : GG) (sz : Nat) (x S : St) (r : Int32) (S' : St) (hf : X4_jolt S = some (r, S')) : Met l yX4_jolt (.code yX4_jolt cX4_jolt 6 (some .int) :: ALLW) (rmJ 4 88) (PcJ g sz x S [.ref (ad g 56)]) (QiJ g sz r x S') 0 0 (Ag sz) := by
  refine j_met (own := RX4) (by decide) rfl (Nat.le_of_ble_eq_true rfl) rfl ?_
  intro p e s m args below meth c C hr hlk
  have hL45 : ∀ (k4 : Int32 → Int32 → St → Option (Int32 × St)) (_ : ∀ (b1 : Int32) (b2 : Int32) (S : St), k4 b1 b2 S = some (r, S') → Wj p l e (rmJ 4 88) s m args below meth c (MQ below (QiJ g sz r x S') args s 0 0 (Ag sz)) 6 g sz x S 4 [(0, .ref (ad g 56)), (1, .int b1), (2, .int b2)] []) (k10 : Int32 → Int32 → Int32 → St → Option (Int32 × St)) (_ : ∀ (b1 : Int32) (b2 : Int32) (b3 : Int32) (S : St), k10 b1 b2 b3 S = some (r, S') → Wj p l e (rmJ 4 88) s m args below meth c (MQ below (QiJ g sz r x S') args s 0 0 (Ag sz)) 6 g sz x S 10 [(0, .ref (ad g 56)), (1, .int b1), (2, .int b2), (3, .int b3)] []), ∀ (b1 : Int32) (b2 : Int32) (b3 : Int32) (b4 : Int32) (t0 : Int32) (S : St), X4_jolt_L45 k4 k10 b1 b2 b3 b4 t0 S = some (r, S') → Wj p l e (rmJ 4 88) s m args below meth c (MQ below (QiJ g sz r x S') args s 0 0 (Ag sz)) 6 g sz x S 45 [(0, .ref (ad g 56)), (1, .int b1), (2, .int b2), (3, .int b3), (4, .int b4)] [.int t0] := by
    intro k4 hk4 k10 hk10 b1 b2 b3 b4 t0 S hf
    unfold X4_jolt_L45 at hf
    refine j_istore (lv2 := [(5, .int t0), (0, .ref (ad g 56)), (1, .int b1), (2, .int b2), (3, .int b3), (4, .int b4)]) C dX4_jolt_45 (by decide) rfl 47 rfl ?_
    refine j_aload_n C dX4_jolt_47 rfl 1 rfl 48 rfl ?_
    refine j_iload C dX4_jolt_48 5 rfl 50 rfl ?_
    obtain ⟨r4, hr4, hf⟩ := bnd hf
    refine j_callVi (As := [.int b4]) (rest := []) C (c_X4_highOf l g sz x S  b4 _ hr4) (j_cwV C qc_X4_highOf qm_X4_85 qi_X4_highOf qs_X4_highOf qn_X4 hd_X4_highOf ⟨rfl, rfl⟩ ⟨by decide, by decide⟩) (rcv_mo.cell C.2) rfl (Nat.le_of_ble_eq_true rfl) dX4_jolt_50 53 rfl ?_
    refine j_iconst C dX4_jolt_53 (v := 1) c_iconst_1 54 rfl ?_
    refine j_icmp_le C dX4_jolt_54 84 (by decide) 57 rfl (fun c5 => ?_) (fun c5 => ?_)
    · rw [if_pos c5] at hf
      refine j_iinc (lv2 := [(3, .int (b3 + 1)), (5, .int t0), (0, .ref (ad g 56)), (1, .int b1), (2, .int b2), (4, .int b4)]) C dX4_jolt_84 (k := 4) rfl (congrArg (HAdd.hAdd b3) c_oi_1) (by decide) rfl 87 rfl ?_
      refine j_goto C dX4_jolt_87 10 (by decide) ?_
      refine j_sub [2, 3, 4, 0] rfl ?_
      exact hk10 b1 b2 (b3 + 1) S hf
    · rw [if_neg c5] at hf
      refine j_iload C dX4_jolt_57 0 rfl 59 rfl ?_
      refine j_if_eq C dX4_jolt_59 84 (by decide) 62 rfl (fun c6 => ?_) (fun c6 => ?_)
      · rw [if_pos c6] at hf
        refine j_iinc (lv2 := [(3, .int (b3 + 1)), (5, .int t0), (0, .ref (ad g 56)), (1, .int b1), (2, .int b2), (4, .int b4)]) C dX4_jolt_84 (k := 4) rfl (congrArg (HAdd.hAdd b3) c_oi_1) (by decide) rfl 87 rfl ?_
        refine j_goto C dX4_jolt_87 10 (by decide) ?_
        refine j_sub [2, 3, 4, 0] rfl ?_
        exact hk10 b1 b2 (b3 + 1) S hf
      · rw [if_neg c6] at hf
        refine j_aload_n C dX4_jolt_62 rfl 1 rfl 63 rfl ?_
        refine j_aload_n C dX4_jolt_63 rfl 1 rfl 64 rfl ?_
        refine j_iload C dX4_jolt_64 5 rfl 66 rfl ?_
        obtain ⟨r7, hr7, hf⟩ := bnd hf
        refine j_callVi (As := [.int b4]) (rest := [.ref (ad g 56)]) C (c_X4_topOf l g sz x S  b4 _ hr7) (j_cwV C qc_X4_topOf qm_X4_93 qi_X4_topOf qs_X4_topOf qn_X4 hd_X4_topOf ⟨rfl, rfl⟩ ⟨by decide, by decide⟩) (rcv_mo.cell C.2) rfl (Nat.le_of_ble_eq_true rfl) dX4_jolt_66 69 rfl ?_
        obtain ⟨r8, hr8, hf⟩ := bnd hf
        refine j_callVi (As := [.int r7]) (rest := []) C (c_X4_slides l g sz x S  r7 _ hr8) (j_cwV C qc_X4_slides qm_X4_128 qi_X4_slides qs_X4_slides qn_X4 hd_X4_slides ⟨rfl, rfl⟩ ⟨by decide, by decide⟩) (rcv_mo.cell C.2) rfl (Nat.le_of_ble_eq_true rfl) dX4_jolt_69 72 rfl ?_
        refine j_if_eq C dX4_jolt_72 84 (by decide) 75 rfl (fun c9 => ?_) (fun c9 => ?_)
        · rw [if_pos c9] at hf
          refine j_iinc (lv2 := [(3, .int (b3 + 1)), (5, .int t0), (0, .ref (ad g 56)), (1, .int b1), (2, .int b2), (4, .int b4)]) C dX4_jolt_84 (k := 4) rfl (congrArg (HAdd.hAdd b3) c_oi_1) (by decide) rfl 87 rfl ?_
          refine j_goto C dX4_jolt_87 10 (by decide) ?_
          refine j_sub [2, 3, 4, 0] rfl ?_
          exact hk10 b1 b2 (b3 + 1) S hf
        · rw [if_neg c9] at hf
          refine j_aload_n C dX4_jolt_75 rfl 1 rfl 76 rfl ?_
          refine j_iload_n C dX4_jolt_76 rfl 4 rfl 77 rfl ?_
          refine j_iload_n C dX4_jolt_77 rfl 3 rfl 78 rfl ?_
          obtain ⟨S10, hS10, hf⟩ := bnd hf
          refine j_callVv (As := [.int b3, .int b2]) (rest := []) C (c_X4_slidesOff l g sz x S  b3 b2 _ hS10) (j_cwV C qc_X4_slidesOff qm_X4_171 qi_X4_slidesOff qs_X4_slidesOff qn_X4 hd_X4_slidesOff ⟨rfl, rfl⟩ ⟨by decide, by decide⟩) (rcv_mo.cell C.2) rfl (Nat.le_of_ble_eq_true rfl) dX4_jolt_78 81 rfl ?_
          refine j_iinc (lv2 := [(1, .int (b1 + 1)), (5, .int t0), (0, .ref (ad g 56)), (2, .int b2), (3, .int b3), (4, .int b4)]) C dX4_jolt_81 (k := 2) rfl (congrArg (HAdd.hAdd b1) c_oi_1) (by decide) rfl 84 rfl ?_
          refine j_iinc (lv2 := [(3, .int (b3 + 1)), (1, .int (b1 + 1)), (5, .int t0), (0, .ref (ad g 56)), (2, .int b2), (4, .int b4)]) C dX4_jolt_84 (k := 4) rfl (congrArg (HAdd.hAdd b3) c_oi_1) (by decide) rfl 87 rfl ?_
          refine j_goto C dX4_jolt_87 10 (by decide) ?_
          refine j_sub [3, 1, 4, 0] rfl ?_
          exact hk10 (b1 + 1) b2 (b3 + 1) S10 hf
  have hL40 : ∀ (k4 : Int32 → Int32 → St → Option (Int32 × St)) (_ : ∀ (b1 : Int32) (b2 : Int32) (S : St), k4 b1 b2 S = some (r, S') → Wj p l e (rmJ 4 88) s m args below meth c (MQ below (QiJ g sz r x S') args s 0 0 (Ag sz)) 6 g sz x S 4 [(0, .ref (ad g 56)), (1, .int b1), (2, .int b2)] []) (k10 : Int32 → Int32 → Int32 → St → Option (Int32 × St)) (_ : ∀ (b1 : Int32) (b2 : Int32) (b3 : Int32) (S : St), k10 b1 b2 b3 S = some (r, S') → Wj p l e (rmJ 4 88) s m args below meth c (MQ below (QiJ g sz r x S') args s 0 0 (Ag sz)) 6 g sz x S 10 [(0, .ref (ad g 56)), (1, .int b1), (2, .int b2), (3, .int b3)] []), ∀ (b1 : Int32) (b2 : Int32) (b3 : Int32) (b4 : Int32) (S : St), X4_jolt_L40 k4 k10 b1 b2 b3 b4 S = some (r, S') → Wj p l e (rmJ 4 88) s m args below meth c (MQ below (QiJ g sz r x S') args s 0 0 (Ag sz)) 6 g sz x S 40 [(0, .ref (ad g 56)), (1, .int b1), (2, .int b2), (3, .int b3), (4, .int b4)] [] := by
    intro k4 hk4 k10 hk10 b1 b2 b3 b4 S hf
    unfold X4_jolt_L40 at hf
    refine j_iconst C dX4_jolt_40 (v := 1) c_iconst_1 41 rfl ?_
    refine j_goto C dX4_jolt_41 45 (by decide) ?_
    exact hL45 k4 hk4 k10 hk10 b1 b2 b3 b4 1 S hf
  have hL10 : ∀ (k4 : Int32 → Int32 → St → Option (Int32 × St)) (_ : ∀ (b1 : Int32) (b2 : Int32) (S : St), k4 b1 b2 S = some (r, S') → Wj p l e (rmJ 4 88) s m args below meth c (MQ below (QiJ g sz r x S') args s 0 0 (Ag sz)) 6 g sz x S 4 [(0, .ref (ad g 56)), (1, .int b1), (2, .int b2)] []), ∀ (n : Nat), ∀ (b1 : Int32) (b2 : Int32) (b3 : Int32) (S : St), X4_jolt_L10 k4 n b1 b2 b3 S = some (r, S') → Wj p l e (rmJ 4 88) s m args below meth c (MQ below (QiJ g sz r x S') args s 0 0 (Ag sz)) 6 g sz x S 10 [(0, .ref (ad g 56)), (1, .int b1), (2, .int b2), (3, .int b3)] [] := by
    intro k4 hk4 n
    induction n with
    | zero =>
      intro b1 b2 b3 S hf
      rw [X4_jolt_L10] at hf
      cases hf
    | succ n ih =>
      intro b1 b2 b3 S hf
      rw [X4_jolt_L10] at hf
      refine j_iload_n C dX4_jolt_10 rfl 3 rfl 11 rfl ?_
      refine j_bipush C dX4_jolt_11 (v := 7) c_bipush_7 13 rfl ?_
      refine j_icmp_ge C dX4_jolt_13 90 (by decide) 16 rfl (fun c2 => ?_) (fun c2 => ?_)
      · rw [if_pos c2] at hf
        refine j_iinc (lv2 := [(2, .int (b2 + (-1))), (0, .ref (ad g 56)), (1, .int b1), (3, .int b3)]) C dX4_jolt_90 (k := 2) rfl (congrArg (HAdd.hAdd b2) c_oi_m1) (by decide) rfl 93 rfl ?_
        refine j_goto C dX4_jolt_93 4 (by decide) ?_
        refine j_sub [1, 2, 0] rfl ?_
        exact hk4 b1 (b2 + (-1)) S hf
      · rw [if_neg c2] at hf
        refine j_iload_n C dX4_jolt_16 rfl 3 rfl 17 rfl ?_
        refine j_iload_n C dX4_jolt_17 rfl 2 rfl 18 rfl ?_
        refine j_callSi (As := [.int b3, .int b2]) (rest := []) C (c_X4_cellOf l g sz x S b3 b2 _ rfl) (j_cwS C qc_X4_cellOf qm_X4_119 qs_X4_cellOf qn_X4 hd_X4_cellOf ⟨rfl, rfl⟩ ⟨by decide, by decide⟩)  rfl (Nat.le_of_ble_eq_true rfl) dX4_jolt_18 21 rfl ?_
        refine j_istore (lv2 := [(4, .int (X4_cellOf b3 b2)), (0, .ref (ad g 56)), (1, .int b1), (2, .int b2), (3, .int b3)]) C dX4_jolt_21 (by decide) rfl 23 rfl ?_
        refine j_iload_n C dX4_jolt_23 rfl 3 rfl 24 rfl ?_
        refine j_iconst C dX4_jolt_24 (v := 5) c_iconst_5 25 rfl ?_
        refine j_icmp_eq C dX4_jolt_25 40 (by decide) 28 rfl (fun c3 => ?_) (fun c3 => ?_)
        · rw [if_pos c3] at hf
          refine j_sub [1, 2, 3, 4, 0] rfl ?_
          exact hL40 k4 hk4 _ ih b1 b2 b3 (X4_cellOf b3 b2) S hf
        · rw [if_neg c3] at hf
          refine j_aload_n C dX4_jolt_28 rfl 1 rfl 29 rfl ?_
          refine j_iload C dX4_jolt_29 0 rfl 31 rfl ?_
          refine j_iconst C dX4_jolt_31 (v := 1) c_iconst_1 32 rfl ?_
          refine j_iadd C dX4_jolt_32 33 rfl ?_
          obtain ⟨r11, hr11, hf⟩ := bnd hf
          refine j_callVi (As := [.int ((X4_cellOf b3 b2) + 1)]) (rest := []) C (c_X4_highOf l g sz x S  ((X4_cellOf b3 b2) + 1) _ hr11) (j_cwV C qc_X4_highOf qm_X4_85 qi_X4_highOf qs_X4_highOf qn_X4 hd_X4_highOf ⟨rfl, rfl⟩ ⟨by decide, by decide⟩) (rcv_mo.cell C.2) rfl (Nat.le_of_ble_eq_true rfl) dX4_jolt_33 36 rfl ?_
          refine j_iconst C dX4_jolt_36 (v := 4) c_iconst_4 37 rfl ?_
          refine j_icmp_ge C dX4_jolt_37 44 (by decide) 40 rfl (fun c12 => ?_) (fun c12 => ?_)
          · rw [if_pos c12] at hf
            refine j_iconst C dX4_jolt_44 (v := 0) c_iconst_0 45 rfl ?_
            refine j_sub [1, 2, 3, 4, 0] rfl ?_
            exact hL45 k4 hk4 _ ih b1 b2 b3 (X4_cellOf b3 b2) 0 S hf
          · rw [if_neg c12] at hf
            refine j_sub [1, 2, 3, 4, 0] rfl ?_
            exact hL40 k4 hk4 _ ih b1 b2 b3 (X4_cellOf b3 b2) S hf
  have hL4 : ∀ (n : Nat), ∀ (b1 : Int32) (b2 : Int32) (S : St), X4_jolt_L4 n b1 b2 S = some (r, S') → Wj p l e (rmJ 4 88) s m args below meth c (MQ below (QiJ g sz r x S') args s 0 0 (Ag sz)) 6 g sz x S 4 [(0, .ref (ad g 56)), (1, .int b1), (2, .int b2)] [] := by
    intro  n
    induction n with
    | zero =>
      intro b1 b2 S hf
      rw [X4_jolt_L4] at hf
      cases hf
    | succ n ih =>
      intro b1 b2 S hf
      rw [X4_jolt_L4] at hf
      refine j_iload_n C dX4_jolt_4 rfl 2 rfl 5 rfl ?_
      refine j_if_lt C dX4_jolt_5 96 (by decide) 8 rfl (fun c1 => ?_) (fun c1 => ?_)
      · rw [if_pos c1] at hf
        refine j_iload_n C dX4_jolt_96 rfl 1 rfl 97 rfl ?_
        obtain ⟨rfl, rfl⟩ := Prod.mk.inj (Option.some.inj hf)
        exact j_iret C hr hlk dX4_jolt_97
      · rw [if_neg c1] at hf
        refine j_iconst C dX4_jolt_8 (v := 0) c_iconst_0 9 rfl ?_
        refine j_istore_n (lv2 := [(3, .int 0), (0, .ref (ad g 56)), (1, .int b1), (2, .int b2)]) C dX4_jolt_9 rfl (by decide) rfl 10 rfl ?_
        refine j_sub [1, 2, 3, 0] rfl ?_
        exact hL10 _ ih FU b1 b2 0 S hf
  unfold X4_jolt at hf
  refine j_iconst C dX4_jolt_0 (v := 0) c_iconst_0 1 rfl ?_
  refine j_istore_n (lv2 := [(1, .int 0), (0, .ref (ad g 56))]) C dX4_jolt_1 rfl (by decide) rfl 2 rfl ?_
  refine j_iconst C dX4_jolt_2 (v := 5) c_iconst_5 3 rfl ?_
  refine j_istore_n (lv2 := [(2, .int 5), (1, .int 0), (0, .ref (ad g 56))]) C dX4_jolt_3 rfl (by decide) rfl 4 rfl ?_
  refine j_sub [2, 1, 0] rfl ?_
  exact hL4 FU 0 5 S hf
set_option maxRecDepth 100000 in
set_option maxHeartbeats 4000000 in
theorem c_X4_jolted (l : Launch) (g : GG) (sz : Nat) (x S : St) (r : Int32) (S' : St) (hf : X4_jolted S = some (r, S')) : Met l yX4_jolted (.code yX4_jolted cX4_jolted 3 (some .int) :: ALLW) (rmJ 5 113) (PcJ g sz x S [.ref (ad g 56)]) (QiJ g sz r x S') 0 0 (Ag sz) := by
  refine j_met (own := RX4) (by decide) rfl (Nat.le_of_ble_eq_true rfl) rfl ?_
  intro p e s m args below meth c C hr hlk
  unfold X4_jolted at hf
  refine j_aload_n C dX4_jolted_0 rfl 0 rfl 1 rfl ?_
  refine j4_get C 0 (by decide) qf_X4_9 (v := .ref (ad g 57)) rfl dX4_jolted_1 4 rfl ?_
  refine j_aload_n C dX4_jolted_4 rfl 0 rfl 5 rfl ?_
  refine j4_get C 2 (by decide) qf_X4_16 (v := .ref (ad g 59)) rfl dX4_jolted_5 8 rfl ?_
  obtain ⟨S1, hS1, hf⟩ := bnd hf
  refine j_callSv (As := [.ref (ad g 57), .ref (ad g 59)]) (rest := []) C (c_X4_copyRow l g sz x S  1 rfl 3 rfl _ hS1) (j_cwS C qc_X4_copyRow qm_X4_73 qs_X4_copyRow qn_X4 hd_X4_copyRow ⟨rfl, rfl⟩ ⟨by decide, by decide⟩)  rfl (Nat.le_of_ble_eq_true rfl) dX4_jolted_8 11 rfl ?_
  refine j_aload_n C dX4_jolted_11 rfl 0 rfl 12 rfl ?_
  refine j_bipush C dX4_jolted_12 (v := 101) c_bipush_101 14 rfl ?_
  obtain ⟨r2, hr2, hf⟩ := bnd hf
  refine j_callVi (As := [.int 101]) (rest := []) C (c_X4_setOf l g sz x S1  101 _ hr2) (j_cwV C qc_X4_setOf qm_X4_177 qi_X4_setOf qs_X4_setOf qn_X4 hd_X4_setOf ⟨rfl, rfl⟩ ⟨by decide, by decide⟩) (rcv_mo.cell C.2) rfl (Nat.le_of_ble_eq_true rfl) dX4_jolted_14 17 rfl ?_
  refine j_istore_n (lv2 := [(1, .int r2), (0, .ref (ad g 56))]) C dX4_jolted_17 rfl (by decide) rfl 18 rfl ?_
  refine j_aload_n C dX4_jolted_18 rfl 1 rfl 19 rfl ?_
  obtain ⟨⟨r4, S5⟩, hq3, hf⟩ := bnd hf
  dsimp only at hf
  refine j_callVi (As := []) (rest := []) C (c_X4_jolt l g sz x S1   _ _ hq3) (j_cwV C qc_X4_jolt qm_X4_270 qi_X4_jolt qs_X4_jolt qn_X4 hd_X4_jolt ⟨rfl, rfl⟩ ⟨by decide, by decide⟩) (rcv_mo.cell C.2) rfl (Nat.le_of_ble_eq_true rfl) dX4_jolted_19 22 rfl ?_
  refine j_istore_n (lv2 := [(2, .int r4), (1, .int r2), (0, .ref (ad g 56))]) C dX4_jolted_22 rfl (by decide) rfl 23 rfl ?_
  refine j_aload_n C dX4_jolted_23 rfl 2 rfl 24 rfl ?_
  refine j_iload_n C dX4_jolted_24 rfl 0 rfl 25 rfl ?_
  refine j_if_ge C dX4_jolted_25 32 (by decide) 28 rfl (fun c6 => ?_) (fun c6 => ?_)
  · rw [if_pos c6] at hf
    refine j_aload_n C dX4_jolted_32 rfl 2 rfl 33 rfl ?_
    refine j_aload_n C dX4_jolted_33 rfl 2 rfl 34 rfl ?_
    refine j_bipush C dX4_jolted_34 (v := 101) c_bipush_101 36 rfl ?_
    obtain ⟨r7, hr7, hf⟩ := bnd hf
    refine j_callVi (As := [.int 101]) (rest := [.ref (ad g 56), .ref (ad g 56)]) C (c_X4_setOf l g sz x S5  101 _ hr7) (j_cwV C qc_X4_setOf qm_X4_177 qi_X4_setOf qs_X4_setOf qn_X4 hd_X4_setOf ⟨rfl, rfl⟩ ⟨by decide, by decide⟩) (rcv_mo.cell C.2) rfl (Nat.le_of_ble_eq_true rfl) dX4_jolted_36 39 rfl ?_
    refine j_iload_n C dX4_jolted_39 rfl 1 rfl 40 rfl ?_
    refine j_iconst C dX4_jolted_40 (v := (-1)) c_iconst_m1 41 rfl ?_
    refine j_ixor C dX4_jolted_41 42 rfl ?_
    refine j_iand C dX4_jolted_42 43 rfl ?_
    obtain ⟨r8, hr8, hf⟩ := bnd hf
    refine j_callVi (As := [.int (r7 &&& (r2 ^^^ (-1)))]) (rest := [.ref (ad g 56)]) C (c_X4_worthOf l g sz x S5  (r7 &&& (r2 ^^^ (-1))) _ hr8) (j_cwV C qc_X4_worthOf qm_X4_180 qi_X4_worthOf qs_X4_worthOf qn_X4 hd_X4_worthOf ⟨rfl, rfl⟩ ⟨by decide, by decide⟩) (rcv_mo.cell C.2) rfl (Nat.le_of_ble_eq_true rfl) dX4_jolted_43 46 rfl ?_
    obtain ⟨⟨r10, S11⟩, hq9, hf⟩ := bnd hf
    dsimp only at hf
    refine j_callVi (As := [.int r8]) (rest := []) C (c_X4_putBack l g sz x S5  r8 _ _ hq9) (j_cwV C qc_X4_putBack qm_X4_210 qi_X4_putBack qs_X4_putBack qn_X4 hd_X4_putBack ⟨rfl, rfl⟩ ⟨by decide, by decide⟩) (rcv_mo.cell C.2) rfl (Nat.le_of_ble_eq_true rfl) dX4_jolted_46 49 rfl ?_
    obtain ⟨rfl, rfl⟩ := Prod.mk.inj (Option.some.inj hf)
    exact j_iret C hr hlk dX4_jolted_49
  · rw [if_neg c6] at hf
    refine j_iload_n C dX4_jolted_28 rfl 0 rfl 29 rfl ?_
    refine j_goto C dX4_jolted_29 46 (by decide) ?_
    obtain ⟨⟨r13, S14⟩, hq12, hf⟩ := bnd hf
    dsimp only at hf
    refine j_callVi (As := [.int r4]) (rest := []) C (c_X4_putBack l g sz x S5  r4 _ _ hq12) (j_cwV C qc_X4_putBack qm_X4_210 qi_X4_putBack qs_X4_putBack qn_X4 hd_X4_putBack ⟨rfl, rfl⟩ ⟨by decide, by decide⟩) (rcv_mo.cell C.2) rfl (Nat.le_of_ble_eq_true rfl) dX4_jolted_46 49 rfl ?_
    obtain ⟨rfl, rfl⟩ := Prod.mk.inj (Option.some.inj hf)
    exact j_iret C hr hlk dX4_jolted_49
set_option maxRecDepth 100000 in
set_option maxHeartbeats 4000000 in
theorem c_X4_wonIn (l : Launch) (g : GG) (sz : Nat) (x S : St) (a1 : Int32) (a2 : Int32) (r : Int32) (S' : St) (hf : X4_wonIn a1 a2 S = some (r, S')) : Met l yX4_wonIn (.code yX4_wonIn cX4_wonIn 4 (some .int) :: ALLW) (rmJ 7 155) (PcJ g sz x S [.ref (ad g 56), .int a1, .int a2]) (QiJ g sz r x S') 0 0 (Ag sz) := by
  refine j_met (own := RX4) (by decide) rfl (Nat.le_of_ble_eq_true rfl) rfl ?_
  intro p e s m args below meth c C hr hlk
  unfold X4_wonIn at hf
  refine j_aload_n C dX4_wonIn_0 rfl 0 rfl 1 rfl ?_
  refine j_iload_n C dX4_wonIn_1 rfl 1 rfl 2 rfl ?_
  obtain ⟨⟨r2, S3⟩, hq1, hf⟩ := bnd hf
  dsimp only at hf
  refine j_callVi (As := [.int a1]) (rest := []) C (c_X4_beatsGo l g sz x S  a1 _ _ hq1) (j_cwV C qc_X4_beatsGo qm_X4_196 qi_X4_beatsGo qs_X4_beatsGo qn_X4 hd_X4_beatsGo ⟨rfl, rfl⟩ ⟨by decide, by decide⟩) (rcv_mo.cell C.2) rfl (Nat.le_of_ble_eq_true rfl) dX4_wonIn_2 5 rfl ?_
  refine j_istore_n (lv2 := [(3, .int r2), (0, .ref (ad g 56)), (1, .int a1), (2, .int a2)]) C dX4_wonIn_5 rfl (by decide) rfl 6 rfl ?_
  refine j_aload_n C dX4_wonIn_6 rfl 1 rfl 7 rfl ?_
  refine j_iload_n C dX4_wonIn_7 rfl 0 rfl 8 rfl ?_
  refine j_if_ge C dX4_wonIn_8 15 (by decide) 11 rfl (fun c4 => ?_) (fun c4 => ?_)
  · rw [if_pos c4] at hf
    refine j_aload_n C dX4_wonIn_15 rfl 1 rfl 16 rfl ?_
    refine j_aload_n C dX4_wonIn_16 rfl 1 rfl 17 rfl ?_
    refine j_bipush C dX4_wonIn_17 (v := 101) c_bipush_101 19 rfl ?_
    obtain ⟨r5, hr5, hf⟩ := bnd hf
    refine j_callVi (As := [.int 101]) (rest := [.ref (ad g 56), .ref (ad g 56)]) C (c_X4_setOf l g sz x S3  101 _ hr5) (j_cwV C qc_X4_setOf qm_X4_177 qi_X4_setOf qs_X4_setOf qn_X4 hd_X4_setOf ⟨rfl, rfl⟩ ⟨by decide, by decide⟩) (rcv_mo.cell C.2) rfl (Nat.le_of_ble_eq_true rfl) dX4_wonIn_19 22 rfl ?_
    refine j_iload_n C dX4_wonIn_22 rfl 3 rfl 23 rfl ?_
    refine j_iand C dX4_wonIn_23 24 rfl ?_
    obtain ⟨r6, hr6, hf⟩ := bnd hf
    refine j_callVi (As := [.int (r5 &&& a2)]) (rest := [.ref (ad g 56)]) C (c_X4_worthOf l g sz x S3  (r5 &&& a2) _ hr6) (j_cwV C qc_X4_worthOf qm_X4_180 qi_X4_worthOf qs_X4_worthOf qn_X4 hd_X4_worthOf ⟨rfl, rfl⟩ ⟨by decide, by decide⟩) (rcv_mo.cell C.2) rfl (Nat.le_of_ble_eq_true rfl) dX4_wonIn_24 27 rfl ?_
    obtain ⟨⟨r8, S9⟩, hq7, hf⟩ := bnd hf
    dsimp only at hf
    refine j_callVi (As := [.int r6]) (rest := []) C (c_X4_putBack l g sz x S3  r6 _ _ hq7) (j_cwV C qc_X4_putBack qm_X4_210 qi_X4_putBack qs_X4_putBack qn_X4 hd_X4_putBack ⟨rfl, rfl⟩ ⟨by decide, by decide⟩) (rcv_mo.cell C.2) rfl (Nat.le_of_ble_eq_true rfl) dX4_wonIn_27 30 rfl ?_
    obtain ⟨rfl, rfl⟩ := Prod.mk.inj (Option.some.inj hf)
    exact j_iret C hr hlk dX4_wonIn_30
  · rw [if_neg c4] at hf
    refine j_iload_n C dX4_wonIn_11 rfl 0 rfl 12 rfl ?_
    refine j_goto C dX4_wonIn_12 27 (by decide) ?_
    obtain ⟨⟨r11, S12⟩, hq10, hf⟩ := bnd hf
    dsimp only at hf
    refine j_callVi (As := [.int r2]) (rest := []) C (c_X4_putBack l g sz x S3  r2 _ _ hq10) (j_cwV C qc_X4_putBack qm_X4_210 qi_X4_putBack qs_X4_putBack qn_X4 hd_X4_putBack ⟨rfl, rfl⟩ ⟨by decide, by decide⟩) (rcv_mo.cell C.2) rfl (Nat.le_of_ble_eq_true rfl) dX4_wonIn_27 30 rfl ?_
    obtain ⟨rfl, rfl⟩ := Prod.mk.inj (Option.some.inj hf)
    exact j_iret C hr hlk dX4_wonIn_30
set_option maxRecDepth 100000 in
set_option maxHeartbeats 4000000 in
theorem c_X4_stroke (l : Launch) (g : GG) (sz : Nat) (x S : St) (a1 : Int32) (r : Int32) (S' : St) (hf : X4_stroke a1 S = some (r, S')) : Met l yX4_stroke (.code yX4_stroke cX4_stroke 7 (some .int) :: ALLW) (rmJ 8 178) (PcJ g sz x S [.ref (ad g 56), .int a1]) (QiJ g sz r x S') 0 0 (Ag sz) := by
  refine j_met (own := RX4) (by decide) rfl (Nat.le_of_ble_eq_true rfl) rfl ?_
  intro p e s m args below meth c C hr hlk
  have hL60 : ∀ (n : Nat), ∀ (b1 : Int32) (b2 : Int32) (b3 : Int32) (b4 : Int32) (b5 : Int32) (S : St), X4_stroke_L60 n b1 b2 b3 b4 b5 S = some (r, S') → Wj p l e (rmJ 8 178) s m args below meth c (MQ below (QiJ g sz r x S') args s 0 0 (Ag sz)) 7 g sz x S 60 [(0, .ref (ad g 56)), (1, .int b1), (2, .int b2), (3, .int b3), (4, .int b4), (5, .int b5)] [] := by
    intro  n
    induction n with
    | zero =>
      intro b1 b2 b3 b4 b5 S hf
      rw [X4_stroke_L60] at hf
      cases hf
    | succ n ih =>
      intro b1 b2 b3 b4 b5 S hf
      rw [X4_stroke_L60] at hf
      refine j_iload C dX4_stroke_60 5 rfl 62 rfl ?_
      refine j_bipush C dX4_stroke_62 (v := 6) c_bipush_6 64 rfl ?_
      refine j_icmp_gt C dX4_stroke_64 107 (by decide) 67 rfl (fun c6 => ?_) (fun c6 => ?_)
      · rw [if_pos c6] at hf
        refine j_iload_n C dX4_stroke_107 rfl 3 rfl 108 rfl ?_
        obtain ⟨rfl, rfl⟩ := Prod.mk.inj (Option.some.inj hf)
        exact j_iret C hr hlk dX4_stroke_108
      · rw [if_neg c6] at hf
        refine j_aload_n C dX4_stroke_67 rfl 0 rfl 68 rfl ?_
        refine j4_get C 0 (by decide) qf_X4_9 (v := .ref (ad g 57)) rfl dX4_stroke_68 71 rfl ?_
        refine j_iconst C dX4_stroke_71 (v := 2) c_iconst_2 72 rfl ?_
        refine j_iload C dX4_stroke_72 5 rfl 74 rfl ?_
        obtain ⟨S7, hS7, hf⟩ := bnd hf
        refine j4_ast 1 rfl C hS7 dX4_stroke_74 75 rfl ?_
        refine j_aload_n C dX4_stroke_75 rfl 0 rfl 76 rfl ?_
        refine j_iload_n C dX4_stroke_76 rfl 1 rfl 77 rfl ?_
        refine j_iload_n C dX4_stroke_77 rfl 2 rfl 78 rfl ?_
        obtain ⟨⟨r9, S10⟩, hq8, hf⟩ := bnd hf
        dsimp only at hf
        refine j_callVi (As := [.int b1, .int b2]) (rest := []) C (c_X4_wonIn l g sz x S7  b1 b2 _ _ hq8) (j_cwV C qc_X4_wonIn qm_X4_273 qi_X4_wonIn qs_X4_wonIn qn_X4 hd_X4_wonIn ⟨rfl, rfl⟩ ⟨by decide, by decide⟩) (rcv_mo.cell C.2) rfl (Nat.le_of_ble_eq_true rfl) dX4_stroke_78 81 rfl ?_
        refine j_istore (lv2 := [(6, .int r9), (0, .ref (ad g 56)), (1, .int b1), (2, .int b2), (3, .int b3), (4, .int b4), (5, .int b5)]) C dX4_stroke_81 (by decide) rfl 83 rfl ?_
        refine j_iload_n C dX4_stroke_83 rfl 4 rfl 84 rfl ?_
        refine j_if_eq C dX4_stroke_84 94 (by decide) 87 rfl (fun c11 => ?_) (fun c11 => ?_)
        · rw [if_pos c11] at hf
          refine j_iload C dX4_stroke_94 6 rfl 96 rfl ?_
          refine j_istore_n (lv2 := [(3, .int b5), (6, .int r9), (0, .ref (ad g 56)), (1, .int b1), (2, .int b2), (4, .int b4), (5, .int b5)]) C dX4_stroke_96 rfl (by decide) rfl 97 rfl ?_
          refine j_iload C dX4_stroke_97 1 rfl 99 rfl ?_
          refine j_istore (lv2 := [(4, .int r9), (3, .int b5), (6, .int r9), (0, .ref (ad g 56)), (1, .int b1), (2, .int b2), (5, .int b5)]) C dX4_stroke_99 (by decide) rfl 101 rfl ?_
          refine j_iinc (lv2 := [(5, .int (b5 + 1)), (4, .int r9), (3, .int b5), (6, .int r9), (0, .ref (ad g 56)), (1, .int b1), (2, .int b2)]) C dX4_stroke_101 (k := 6) rfl (congrArg (HAdd.hAdd b5) c_oi_1) (by decide) rfl 104 rfl ?_
          refine j_goto C dX4_stroke_104 60 (by decide) ?_
          refine j_sub [4, 5, 6, 2, 1, 0] rfl ?_
          exact ih b1 b2 b5 r9 (b5 + 1) S10 hf
        · rw [if_neg c11] at hf
          refine j_iload C dX4_stroke_87 0 rfl 89 rfl ?_
          refine j_iload C dX4_stroke_89 5 rfl 91 rfl ?_
          refine j_icmp_ge C dX4_stroke_91 101 (by decide) 94 rfl (fun c12 => ?_) (fun c12 => ?_)
          · rw [if_pos c12] at hf
            refine j_iinc (lv2 := [(5, .int (b5 + 1)), (6, .int r9), (0, .ref (ad g 56)), (1, .int b1), (2, .int b2), (3, .int b3), (4, .int b4)]) C dX4_stroke_101 (k := 6) rfl (congrArg (HAdd.hAdd b5) c_oi_1) (by decide) rfl 104 rfl ?_
            refine j_goto C dX4_stroke_104 60 (by decide) ?_
            refine j_sub [2, 3, 4, 5, 6, 0] rfl ?_
            exact ih b1 b2 b3 b4 (b5 + 1) S10 hf
          · rw [if_neg c12] at hf
            refine j_iload C dX4_stroke_94 6 rfl 96 rfl ?_
            refine j_istore_n (lv2 := [(3, .int b5), (6, .int r9), (0, .ref (ad g 56)), (1, .int b1), (2, .int b2), (4, .int b4), (5, .int b5)]) C dX4_stroke_96 rfl (by decide) rfl 97 rfl ?_
            refine j_iload C dX4_stroke_97 1 rfl 99 rfl ?_
            refine j_istore (lv2 := [(4, .int r9), (3, .int b5), (6, .int r9), (0, .ref (ad g 56)), (1, .int b1), (2, .int b2), (5, .int b5)]) C dX4_stroke_99 (by decide) rfl 101 rfl ?_
            refine j_iinc (lv2 := [(5, .int (b5 + 1)), (4, .int r9), (3, .int b5), (6, .int r9), (0, .ref (ad g 56)), (1, .int b1), (2, .int b2)]) C dX4_stroke_101 (k := 6) rfl (congrArg (HAdd.hAdd b5) c_oi_1) (by decide) rfl 104 rfl ?_
            refine j_goto C dX4_stroke_104 60 (by decide) ?_
            refine j_sub [4, 5, 6, 2, 1, 0] rfl ?_
            exact ih b1 b2 b5 r9 (b5 + 1) S10 hf
  unfold X4_stroke at hf
  refine j_iload_n C dX4_stroke_0 rfl 1 rfl 1 rfl ?_
  refine j_iconst C dX4_stroke_1 (v := 1) c_iconst_1 2 rfl ?_
  refine j_bipush C dX4_stroke_2 (v := 60) c_bipush_60 4 rfl ?_
  refine j_callSi (As := [.int a1, .int 1, .int 60]) (rest := []) C (c_X4_within l g sz x S a1 1 60 _ rfl) (j_cwS C qc_X4_within qm_X4_77 qs_X4_within qn_X4 hd_X4_within ⟨rfl, rfl⟩ ⟨by decide, by decide⟩)  rfl (Nat.le_of_ble_eq_true rfl) dX4_stroke_4 7 rfl ?_
  refine j_if_ne C dX4_stroke_7 17 (by decide) 10 rfl (fun c1 => ?_) (fun c1 => ?_)
  · rw [if_neg c1] at hf
    refine j_aload_n C dX4_stroke_17 rfl 0 rfl 18 rfl ?_
    refine j_iload_n C dX4_stroke_18 rfl 1 rfl 19 rfl ?_
    obtain ⟨r2, hr2, hf⟩ := bnd hf
    refine j_callVi (As := [.int a1]) (rest := []) C (c_X4_isTooLate l g sz x S  a1 _ hr2) (j_cwV C qc_X4_isTooLate qm_X4_193 qi_X4_isTooLate qs_X4_isTooLate qn_X4 hd_X4_isTooLate ⟨rfl, rfl⟩ ⟨by decide, by decide⟩) (rcv_mo.cell C.2) rfl (Nat.le_of_ble_eq_true rfl) dX4_stroke_19 22 rfl ?_
    refine j_if_eq C dX4_stroke_22 32 (by decide) 25 rfl (fun c3 => ?_) (fun c3 => ?_)
    · rw [if_pos c3] at hf
      refine j_aload_n C dX4_stroke_32 rfl 0 rfl 33 rfl ?_
      refine j4_get C 0 (by decide) qf_X4_9 (v := .ref (ad g 57)) rfl dX4_stroke_33 36 rfl ?_
      refine j_aload_n C dX4_stroke_36 rfl 0 rfl 37 rfl ?_
      refine j4_get C 2 (by decide) qf_X4_16 (v := .ref (ad g 59)) rfl dX4_stroke_37 40 rfl ?_
      obtain ⟨S4, hS4, hf⟩ := bnd hf
      refine j_callSv (As := [.ref (ad g 57), .ref (ad g 59)]) (rest := []) C (c_X4_copyRow l g sz x S  1 rfl 3 rfl _ hS4) (j_cwS C qc_X4_copyRow qm_X4_73 qs_X4_copyRow qn_X4 hd_X4_copyRow ⟨rfl, rfl⟩ ⟨by decide, by decide⟩)  rfl (Nat.le_of_ble_eq_true rfl) dX4_stroke_40 43 rfl ?_
      refine j_aload_n C dX4_stroke_43 rfl 0 rfl 44 rfl ?_
      refine j_bipush C dX4_stroke_44 (v := 101) c_bipush_101 46 rfl ?_
      obtain ⟨r5, hr5, hf⟩ := bnd hf
      refine j_callVi (As := [.int 101]) (rest := []) C (c_X4_setOf l g sz x S4  101 _ hr5) (j_cwV C qc_X4_setOf qm_X4_177 qi_X4_setOf qs_X4_setOf qn_X4 hd_X4_setOf ⟨rfl, rfl⟩ ⟨by decide, by decide⟩) (rcv_mo.cell C.2) rfl (Nat.le_of_ble_eq_true rfl) dX4_stroke_46 49 rfl ?_
      refine j_iconst C dX4_stroke_49 (v := (-1)) c_iconst_m1 50 rfl ?_
      refine j_ixor C dX4_stroke_50 51 rfl ?_
      refine j_istore_n (lv2 := [(2, .int (r5 ^^^ (-1))), (0, .ref (ad g 56)), (1, .int a1)]) C dX4_stroke_51 rfl (by decide) rfl 52 rfl ?_
      refine j_iconst C dX4_stroke_52 (v := 0) c_iconst_0 53 rfl ?_
      refine j_istore_n (lv2 := [(3, .int 0), (2, .int (r5 ^^^ (-1))), (0, .ref (ad g 56)), (1, .int a1)]) C dX4_stroke_53 rfl (by decide) rfl 54 rfl ?_
      refine j_iconst C dX4_stroke_54 (v := 0) c_iconst_0 55 rfl ?_
      refine j_istore (lv2 := [(4, .int 0), (3, .int 0), (2, .int (r5 ^^^ (-1))), (0, .ref (ad g 56)), (1, .int a1)]) C dX4_stroke_55 (by decide) rfl 57 rfl ?_
      refine j_iconst C dX4_stroke_57 (v := 1) c_iconst_1 58 rfl ?_
      refine j_istore (lv2 := [(5, .int 1), (4, .int 0), (3, .int 0), (2, .int (r5 ^^^ (-1))), (0, .ref (ad g 56)), (1, .int a1)]) C dX4_stroke_58 (by decide) rfl 60 rfl ?_
      refine j_sub [4, 5, 3, 2, 1, 0] rfl ?_
      exact hL60 FU a1 (r5 ^^^ (-1)) 0 0 1 S4 hf
    · rw [if_neg c3] at hf
      refine j_aload_n C dX4_stroke_25 rfl 0 rfl 26 rfl ?_
      refine j_ldc C dX4_stroke_26 qk_X4_137 28 rfl ?_
      obtain ⟨⟨r14, S15⟩, hq13, hf⟩ := bnd hf
      dsimp only at hf
      refine j_callVi (As := [.int (-1000005)]) (rest := []) C (c_X4_finding l g sz x S  (-1000005) _ _ hq13) (j_cwV C qc_X4_finding qm_X4_99 qi_X4_finding qs_X4_finding qn_X4 hd_X4_finding ⟨rfl, rfl⟩ ⟨by decide, by decide⟩) (rcv_mo.cell C.2) rfl (Nat.le_of_ble_eq_true rfl) dX4_stroke_28 31 rfl ?_
      obtain ⟨rfl, rfl⟩ := Prod.mk.inj (Option.some.inj hf)
      exact j_iret C hr hlk dX4_stroke_31
  · rw [if_pos c1] at hf
    refine j_aload_n C dX4_stroke_10 rfl 0 rfl 11 rfl ?_
    refine j_ldc C dX4_stroke_11 qk_X4_72 13 rfl ?_
    obtain ⟨⟨r17, S18⟩, hq16, hf⟩ := bnd hf
    dsimp only at hf
    refine j_callVi (As := [.int (-1000001)]) (rest := []) C (c_X4_finding l g sz x S  (-1000001) _ _ hq16) (j_cwV C qc_X4_finding qm_X4_99 qi_X4_finding qs_X4_finding qn_X4 hd_X4_finding ⟨rfl, rfl⟩ ⟨by decide, by decide⟩) (rcv_mo.cell C.2) rfl (Nat.le_of_ble_eq_true rfl) dX4_stroke_13 16 rfl ?_
    obtain ⟨rfl, rfl⟩ := Prod.mk.inj (Option.some.inj hf)
    exact j_iret C hr hlk dX4_stroke_16
set_option maxRecDepth 100000 in
set_option maxHeartbeats 4000000 in
theorem c_X4_refusesShelf (l : Launch) (g : GG) (sz : Nat) (x S : St) (a1 : Int32) (a2 : Int32) (r : Int32) (hf : X4_refusesShelf a1 a2 S = some r) : Met l yX4_refusesShelf (.code yX4_refusesShelf cX4_refusesShelf 3 (some .int) :: ALLW) (rmJ 2 43) (PcJ g sz x S [.ref (ad g 56), .int a1, .int a2]) (QiJ g sz r x S) 0 0 (Ag sz) := by
  refine j_met (own := RX4) (by decide) rfl (Nat.le_of_ble_eq_true rfl) rfl ?_
  intro p e s m args below meth c C hr hlk
  unfold X4_refusesShelf at hf
  refine j_aload_n C dX4_refusesShelf_0 rfl 0 rfl 1 rfl ?_
  refine j_iload_n C dX4_refusesShelf_1 rfl 1 rfl 2 rfl ?_
  obtain ⟨r1, hr1, hf⟩ := bnd hf
  refine j_callVi (As := [.int a1]) (rest := []) C (c_X4_isCoin l g sz x S  a1 _ hr1) (j_cwV C qc_X4_isCoin qm_X4_116 qi_X4_isCoin qs_X4_isCoin qn_X4 hd_X4_isCoin ⟨rfl, rfl⟩ ⟨by decide, by decide⟩) (rcv_mo.cell C.2) rfl (Nat.le_of_ble_eq_true rfl) dX4_refusesShelf_2 5 rfl ?_
  refine j_if_eq C dX4_refusesShelf_5 18 (by decide) 8 rfl (fun c2 => ?_) (fun c2 => ?_)
  · rw [if_pos c2] at hf
    refine j_ldc C dX4_refusesShelf_18 qk_X4_72 20 rfl ?_
    refine j_goto C dX4_refusesShelf_20 45 (by decide) ?_
    obtain rfl := Option.some.inj hf
    exact j_iret C hr hlk dX4_refusesShelf_45
  · rw [if_neg c2] at hf
    refine j_iload_n C dX4_refusesShelf_8 rfl 2 rfl 9 rfl ?_
    refine j_iconst C dX4_refusesShelf_9 (v := 1) c_iconst_1 10 rfl ?_
    refine j_bipush C dX4_refusesShelf_10 (v := 60) c_bipush_60 12 rfl ?_
    refine j_callSi (As := [.int a2, .int 1, .int 60]) (rest := []) C (c_X4_within l g sz x S a2 1 60 _ rfl) (j_cwS C qc_X4_within qm_X4_77 qs_X4_within qn_X4 hd_X4_within ⟨rfl, rfl⟩ ⟨by decide, by decide⟩)  rfl (Nat.le_of_ble_eq_true rfl) dX4_refusesShelf_12 15 rfl ?_
    refine j_if_ne C dX4_refusesShelf_15 23 (by decide) 18 rfl (fun c3 => ?_) (fun c3 => ?_)
    · rw [if_neg c3] at hf
      refine j_aload_n C dX4_refusesShelf_23 rfl 0 rfl 24 rfl ?_
      refine j_iload_n C dX4_refusesShelf_24 rfl 1 rfl 25 rfl ?_
      obtain ⟨r4, hr4, hf⟩ := bnd hf
      refine j_callVi (As := [.int a1]) (rest := []) C (c_X4_isOnShelf l g sz x S  a1 _ hr4) (j_cwV C qc_X4_isOnShelf qm_X4_213 qi_X4_isOnShelf qs_X4_isOnShelf qn_X4 hd_X4_isOnShelf ⟨rfl, rfl⟩ ⟨by decide, by decide⟩) (rcv_mo.cell C.2) rfl (Nat.le_of_ble_eq_true rfl) dX4_refusesShelf_25 28 rfl ?_
      refine j_if_eq C dX4_refusesShelf_28 39 (by decide) 31 rfl (fun c5 => ?_) (fun c5 => ?_)
      · rw [if_pos c5] at hf
        refine j_ldc C dX4_refusesShelf_39 qk_X4_137 41 rfl ?_
        refine j_goto C dX4_refusesShelf_41 45 (by decide) ?_
        obtain rfl := Option.some.inj hf
        exact j_iret C hr hlk dX4_refusesShelf_45
      · rw [if_neg c5] at hf
        refine j_aload_n C dX4_refusesShelf_31 rfl 0 rfl 32 rfl ?_
        refine j_iload_n C dX4_refusesShelf_32 rfl 2 rfl 33 rfl ?_
        obtain ⟨r6, hr6, hf⟩ := bnd hf
        refine j_callVi (As := [.int a2]) (rest := []) C (c_X4_isTooLate l g sz x S  a2 _ hr6) (j_cwV C qc_X4_isTooLate qm_X4_193 qi_X4_isTooLate qs_X4_isTooLate qn_X4 hd_X4_isTooLate ⟨rfl, rfl⟩ ⟨by decide, by decide⟩) (rcv_mo.cell C.2) rfl (Nat.le_of_ble_eq_true rfl) dX4_refusesShelf_33 36 rfl ?_
        refine j_if_eq C dX4_refusesShelf_36 44 (by decide) 39 rfl (fun c7 => ?_) (fun c7 => ?_)
        · rw [if_pos c7] at hf
          refine j_iconst C dX4_refusesShelf_44 (v := 0) c_iconst_0 45 rfl ?_
          obtain rfl := Option.some.inj hf
          exact j_iret C hr hlk dX4_refusesShelf_45
        · rw [if_neg c7] at hf
          refine j_ldc C dX4_refusesShelf_39 qk_X4_137 41 rfl ?_
          refine j_goto C dX4_refusesShelf_41 45 (by decide) ?_
          obtain rfl := Option.some.inj hf
          exact j_iret C hr hlk dX4_refusesShelf_45
    · rw [if_pos c3] at hf
      refine j_ldc C dX4_refusesShelf_18 qk_X4_72 20 rfl ?_
      refine j_goto C dX4_refusesShelf_20 45 (by decide) ?_
      obtain rfl := Option.some.inj hf
      exact j_iret C hr hlk dX4_refusesShelf_45
set_option maxRecDepth 100000 in
set_option maxHeartbeats 4000000 in
theorem c_X4_force (l : Launch) (g : GG) (sz : Nat) (x S : St) (a1 : Int32) (a2 : Int32) (r : Int32) (S' : St) (hf : X4_force a1 a2 S = some (r, S')) : Met l yX4_force (.code yX4_force cX4_force 6 (some .int) :: ALLW) (rmJ 7 155) (PcJ g sz x S [.ref (ad g 56), .int a1, .int a2]) (QiJ g sz r x S') 0 0 (Ag sz) := by
  refine j_met (own := RX4) (by decide) rfl (Nat.le_of_ble_eq_true rfl) rfl ?_
  intro p e s m args below meth c C hr hlk
  have hL73 : ∀ (k31 : Int32 → Int32 → Int32 → St → Option (Int32 × St)) (_ : ∀ (b1 : Int32) (b2 : Int32) (b4 : Int32) (S : St), k31 b1 b2 b4 S = some (r, S') → Wj p l e (rmJ 7 155) s m args below meth c (MQ below (QiJ g sz r x S') args s 0 0 (Ag sz)) 6 g sz x S 31 [(0, .ref (ad g 56)), (1, .int b1), (2, .int b2), (4, .int b4)] []), ∀ (b1 : Int32) (b2 : Int32) (b4 : Int32) (t0 : Int32) (S : St), X4_force_L73 k31 b1 b2 b4 t0 S = some (r, S') → Wj p l e (rmJ 7 155) s m args below meth c (MQ below (QiJ g sz r x S') args s 0 0 (Ag sz)) 6 g sz x S 73 [(0, .ref (ad g 56)), (1, .int b1), (2, .int b2), (4, .int b4)] [.int t0, .ref (ad g 56)] := by
    intro k31 hk31 b1 b2 b4 t0 S hf
    unfold X4_force_L73 at hf
    obtain ⟨⟨r15, S16⟩, hq14, hf⟩ := bnd hf
    dsimp only at hf
    refine j_callVi (As := [.int t0]) (rest := []) C (c_X4_putBack l g sz x S  t0 _ _ hq14) (j_cwV C qc_X4_putBack qm_X4_210 qi_X4_putBack qs_X4_putBack qn_X4 hd_X4_putBack ⟨rfl, rfl⟩ ⟨by decide, by decide⟩) (rcv_mo.cell C.2) rfl (Nat.le_of_ble_eq_true rfl) dX4_force_73 76 rfl ?_
    refine j_bipush C dX4_force_76 (v := 100) c_bipush_100 78 rfl ?_
    refine j_icmp_le C dX4_force_78 84 (by decide) 81 rfl (fun c17 => ?_) (fun c17 => ?_)
    · rw [if_pos c17] at hf
      refine j_iinc (lv2 := [(4, .int (b4 + 1)), (0, .ref (ad g 56)), (1, .int b1), (2, .int b2)]) C dX4_force_84 (k := 3) rfl (congrArg (HAdd.hAdd b4) c_oi_1) (by decide) rfl 87 rfl ?_
      refine j_goto C dX4_force_87 31 (by decide) ?_
      refine j_sub [1, 2, 3, 0] rfl ?_
      exact hk31 b1 b2 (b4 + 1) S16 hf
    · rw [if_neg c17] at hf
      refine j_iload C dX4_force_81 3 rfl 83 rfl ?_
      obtain ⟨rfl, rfl⟩ := Prod.mk.inj (Option.some.inj hf)
      exact j_iret C hr hlk dX4_force_83
  have hL31 : ∀ (n : Nat), ∀ (b1 : Int32) (b2 : Int32) (b4 : Int32) (S : St), X4_force_L31 n b1 b2 b4 S = some (r, S') → Wj p l e (rmJ 7 155) s m args below meth c (MQ below (QiJ g sz r x S') args s 0 0 (Ag sz)) 6 g sz x S 31 [(0, .ref (ad g 56)), (1, .int b1), (2, .int b2), (4, .int b4)] [] := by
    intro  n
    induction n with
    | zero =>
      intro b1 b2 b4 S hf
      rw [X4_force_L31] at hf
      cases hf
    | succ n ih =>
      intro b1 b2 b4 S hf
      rw [X4_force_L31] at hf
      refine j_iload C dX4_force_31 3 rfl 33 rfl ?_
      refine j_bipush C dX4_force_33 (v := 60) c_bipush_60 35 rfl ?_
      refine j_icmp_gt C dX4_force_35 90 (by decide) 38 rfl (fun c4 => ?_) (fun c4 => ?_)
      · rw [if_pos c4] at hf
        refine j_aload_n C dX4_force_90 rfl 0 rfl 91 rfl ?_
        refine j_ldc C dX4_force_91 qk_X4_142 93 rfl ?_
        obtain ⟨⟨r6, S7⟩, hq5, hf⟩ := bnd hf
        dsimp only at hf
        refine j_callVi (As := [.int (-1000004)]) (rest := []) C (c_X4_finding l g sz x S  (-1000004) _ _ hq5) (j_cwV C qc_X4_finding qm_X4_99 qi_X4_finding qs_X4_finding qn_X4 hd_X4_finding ⟨rfl, rfl⟩ ⟨by decide, by decide⟩) (rcv_mo.cell C.2) rfl (Nat.le_of_ble_eq_true rfl) dX4_force_93 96 rfl ?_
        obtain ⟨rfl, rfl⟩ := Prod.mk.inj (Option.some.inj hf)
        exact j_iret C hr hlk dX4_force_96
      · rw [if_neg c4] at hf
        refine j_aload_n C dX4_force_38 rfl 0 rfl 39 rfl ?_
        refine j4_get C 0 (by decide) qf_X4_9 (v := .ref (ad g 57)) rfl dX4_force_39 42 rfl ?_
        refine j_iconst C dX4_force_42 (v := 1) c_iconst_1 43 rfl ?_
        refine j_iload C dX4_force_43 3 rfl 45 rfl ?_
        obtain ⟨S8, hS8, hf⟩ := bnd hf
        refine j4_ast 1 rfl C hS8 dX4_force_45 46 rfl ?_
        refine j_aload_n C dX4_force_46 rfl 0 rfl 47 rfl ?_
        refine j_iload_n C dX4_force_47 rfl 2 rfl 48 rfl ?_
        obtain ⟨⟨r10, S11⟩, hq9, hf⟩ := bnd hf
        dsimp only at hf
        refine j_callVi (As := [.int b2]) (rest := []) C (c_X4_beatsGo l g sz x S8  b2 _ _ hq9) (j_cwV C qc_X4_beatsGo qm_X4_196 qi_X4_beatsGo qs_X4_beatsGo qn_X4 hd_X4_beatsGo ⟨rfl, rfl⟩ ⟨by decide, by decide⟩) (rcv_mo.cell C.2) rfl (Nat.le_of_ble_eq_true rfl) dX4_force_48 51 rfl ?_
        refine j_istore (lv2 := [(5, .int r10), (0, .ref (ad g 56)), (1, .int b1), (2, .int b2), (4, .int b4)]) C dX4_force_51 (by decide) rfl 53 rfl ?_
        refine j_aload_n C dX4_force_53 rfl 1 rfl 54 rfl ?_
        refine j_iload C dX4_force_54 0 rfl 56 rfl ?_
        refine j_if_ge C dX4_force_56 64 (by decide) 59 rfl (fun c12 => ?_) (fun c12 => ?_)
        · rw [if_pos c12] at hf
          refine j_aload_n C dX4_force_64 rfl 1 rfl 65 rfl ?_
          refine j4_get C 0 (by decide) qf_X4_9 (v := .ref (ad g 57)) rfl dX4_force_65 68 rfl ?_
          refine j_bipush C dX4_force_68 (v := 41) c_bipush_41 70 rfl ?_
          refine j_iload_n C dX4_force_70 rfl 2 rfl 71 rfl ?_
          refine j_iadd C dX4_force_71 72 rfl ?_
          obtain ⟨v13, hv13, hf⟩ := bnd hf
          refine j4_ald 1 rfl C hv13 dX4_force_72 73 rfl ?_
          refine j_sub [1, 2, 3, 4] rfl ?_
          exact hL73 _ ih b1 b2 b4 v13 S11 hf
        · rw [if_neg c12] at hf
          refine j_iload C dX4_force_59 0 rfl 61 rfl ?_
          refine j_goto C dX4_force_61 73 (by decide) ?_
          refine j_sub [1, 2, 3, 4] rfl ?_
          exact hL73 _ ih b1 b2 b4 r10 S11 hf
  unfold X4_force at hf
  refine j_aload_n C dX4_force_0 rfl 0 rfl 1 rfl ?_
  refine j_iload_n C dX4_force_1 rfl 1 rfl 2 rfl ?_
  refine j_iload_n C dX4_force_2 rfl 2 rfl 3 rfl ?_
  obtain ⟨r1, hr1, hf⟩ := bnd hf
  refine j_callVi (As := [.int a1, .int a2]) (rest := []) C (c_X4_refusesShelf l g sz x S  a1 a2 _ hr1) (j_cwV C qc_X4_refusesShelf qm_X4_276 qi_X4_refusesShelf qs_X4_refusesShelf qn_X4 hd_X4_refusesShelf ⟨rfl, rfl⟩ ⟨by decide, by decide⟩) (rcv_mo.cell C.2) rfl (Nat.le_of_ble_eq_true rfl) dX4_force_3 6 rfl ?_
  refine j_istore_n (lv2 := [(3, .int r1), (0, .ref (ad g 56)), (1, .int a1), (2, .int a2)]) C dX4_force_6 rfl (by decide) rfl 7 rfl ?_
  refine j_iload_n C dX4_force_7 rfl 0 rfl 8 rfl ?_
  refine j_if_eq C dX4_force_8 17 (by decide) 11 rfl (fun c2 => ?_) (fun c2 => ?_)
  · rw [if_pos c2] at hf
    refine j_aload_n C dX4_force_17 rfl 1 rfl 18 rfl ?_
    refine j4_get C 0 (by decide) qf_X4_9 (v := .ref (ad g 57)) rfl dX4_force_18 21 rfl ?_
    refine j_aload_n C dX4_force_21 rfl 1 rfl 22 rfl ?_
    refine j4_get C 2 (by decide) qf_X4_16 (v := .ref (ad g 59)) rfl dX4_force_22 25 rfl ?_
    obtain ⟨S3, hS3, hf⟩ := bnd hf
    refine j_callSv (As := [.ref (ad g 57), .ref (ad g 59)]) (rest := []) C (c_X4_copyRow l g sz x S  1 rfl 3 rfl _ hS3) (j_cwS C qc_X4_copyRow qm_X4_73 qs_X4_copyRow qn_X4 hd_X4_copyRow ⟨rfl, rfl⟩ ⟨by decide, by decide⟩)  rfl (Nat.le_of_ble_eq_true rfl) dX4_force_25 28 rfl ?_
    refine j_iconst C dX4_force_28 (v := 0) c_iconst_0 29 rfl ?_
    refine j_istore (lv2 := [(4, .int 0), (3, .int r1), (0, .ref (ad g 56)), (1, .int a1), (2, .int a2)]) C dX4_force_29 (by decide) rfl 31 rfl ?_
    refine j_sub [2, 3, 4, 0] rfl ?_
    exact hL31 FU a1 a2 0 S3 hf
  · rw [if_neg c2] at hf
    refine j_aload_n C dX4_force_11 rfl 1 rfl 12 rfl ?_
    refine j_iload_n C dX4_force_12 rfl 0 rfl 13 rfl ?_
    obtain ⟨⟨r19, S20⟩, hq18, hf⟩ := bnd hf
    dsimp only at hf
    refine j_callVi (As := [.int r1]) (rest := []) C (c_X4_finding l g sz x S  r1 _ _ hq18) (j_cwV C qc_X4_finding qm_X4_99 qi_X4_finding qs_X4_finding qn_X4 hd_X4_finding ⟨rfl, rfl⟩ ⟨by decide, by decide⟩) (rcv_mo.cell C.2) rfl (Nat.le_of_ble_eq_true rfl) dX4_force_13 16 rfl ?_
    obtain ⟨rfl, rfl⟩ := Prod.mk.inj (Option.some.inj hf)
    exact j_iret C hr hlk dX4_force_16
set_option maxRecDepth 100000 in
set_option maxHeartbeats 4000000 in
theorem c_X4_kindFor (l : Launch) (g : GG) (sz : Nat) (x S : St) (a1 : Int32) (a2 : Int32) (r : Int32) (S' : St) (hf : X4_kindFor a1 a2 S = some (r, S')) : Met l yX4_kindFor (.code yX4_kindFor cX4_kindFor 9 (some .int) :: ALLW) (rmJ 8 178) (PcJ g sz x S [.ref (ad g 56), .int a1, .int a2]) (QiJ g sz r x S') 0 0 (Ag sz) := by
  refine j_met (own := RX4) (by decide) rfl (Nat.le_of_ble_eq_true rfl) rfl ?_
  intro p e s m args below meth c C hr hlk
  have hL94 : ∀ (k53 : Int32 → Int32 → Int32 → Int32 → Int32 → Int32 → St → Option (Int32 × St)) (_ : ∀ (b1 : Int32) (b2 : Int32) (b4 : Int32) (b5 : Int32) (b6 : Int32) (b7 : Int32) (S : St), k53 b1 b2 b4 b5 b6 b7 S = some (r, S') → Wj p l e (rmJ 8 178) s m args below meth c (MQ below (QiJ g sz r x S') args s 0 0 (Ag sz)) 9 g sz x S 53 [(0, .ref (ad g 56)), (1, .int b1), (2, .int b2), (4, .int b4), (5, .int b5), (6, .int b6), (7, .int b7)] []), ∀ (b1 : Int32) (b2 : Int32) (b4 : Int32) (b6 : Int32) (b7 : Int32) (b8 : Int32) (t0 : Int32) (S : St), X4_kindFor_L94 k53 b1 b2 b4 b6 b7 b8 t0 S = some (r, S') → Wj p l e (rmJ 8 178) s m args below meth c (MQ below (QiJ g sz r x S') args s 0 0 (Ag sz)) 9 g sz x S 94 [(0, .ref (ad g 56)), (1, .int b1), (2, .int b2), (4, .int b4), (6, .int b6), (7, .int b7), (8, .int b8)] [.int t0] := by
    intro k53 hk53 b1 b2 b4 b6 b7 b8 t0 S hf
    unfold X4_kindFor_L94 at hf
    refine j_istore (lv2 := [(5, .int t0), (0, .ref (ad g 56)), (1, .int b1), (2, .int b2), (4, .int b4), (6, .int b6), (7, .int b7), (8, .int b8)]) C dX4_kindFor_94 (by decide) rfl 96 rfl ?_
    refine j_iload C dX4_kindFor_96 5 rfl 98 rfl ?_
    refine j_iload C dX4_kindFor_98 7 rfl 100 rfl ?_
    refine j_mmax C qm_X4_199 dX4_kindFor_100 (Nat.le_of_ble_eq_true rfl) (Nat.le_of_ble_eq_true rfl) 103 rfl ?_
    refine j_istore (lv2 := [(6, .int (mxI b6 b8)), (5, .int t0), (0, .ref (ad g 56)), (1, .int b1), (2, .int b2), (4, .int b4), (7, .int b7), (8, .int b8)]) C dX4_kindFor_103 (by decide) rfl 105 rfl ?_
    refine j_iinc (lv2 := [(7, .int (b7 + 1)), (6, .int (mxI b6 b8)), (5, .int t0), (0, .ref (ad g 56)), (1, .int b1), (2, .int b2), (4, .int b4), (8, .int b8)]) C dX4_kindFor_105 (k := 6) rfl (congrArg (HAdd.hAdd b7) c_oi_1) (by decide) rfl 108 rfl ?_
    refine j_goto C dX4_kindFor_108 53 (by decide) ?_
    refine j_sub [3, 4, 5, 6, 2, 1, 0] rfl ?_
    exact hk53 b1 b2 b4 t0 (mxI b6 b8) (b7 + 1) S hf
  have hL53 : ∀ (n : Nat), ∀ (b1 : Int32) (b2 : Int32) (b4 : Int32) (b5 : Int32) (b6 : Int32) (b7 : Int32) (S : St), X4_kindFor_L53 n b1 b2 b4 b5 b6 b7 S = some (r, S') → Wj p l e (rmJ 8 178) s m args below meth c (MQ below (QiJ g sz r x S') args s 0 0 (Ag sz)) 9 g sz x S 53 [(0, .ref (ad g 56)), (1, .int b1), (2, .int b2), (4, .int b4), (5, .int b5), (6, .int b6), (7, .int b7)] [] := by
    intro  n
    induction n with
    | zero =>
      intro b1 b2 b4 b5 b6 b7 S hf
      rw [X4_kindFor_L53] at hf
      cases hf
    | succ n ih =>
      intro b1 b2 b4 b5 b6 b7 S hf
      rw [X4_kindFor_L53] at hf
      refine j_iload C dX4_kindFor_53 6 rfl 55 rfl ?_
      refine j_bipush C dX4_kindFor_55 (v := 6) c_bipush_6 57 rfl ?_
      refine j_icmp_gt C dX4_kindFor_57 111 (by decide) 60 rfl (fun c5 => ?_) (fun c5 => ?_)
      · rw [if_pos c5] at hf
        refine j_iload C dX4_kindFor_111 4 rfl 113 rfl ?_
        obtain ⟨rfl, rfl⟩ := Prod.mk.inj (Option.some.inj hf)
        exact j_iret C hr hlk dX4_kindFor_113
      · rw [if_neg c5] at hf
        refine j_aload_n C dX4_kindFor_60 rfl 0 rfl 61 rfl ?_
        refine j4_get C 0 (by decide) qf_X4_9 (v := .ref (ad g 57)) rfl dX4_kindFor_61 64 rfl ?_
        refine j_bipush C dX4_kindFor_64 (v := 17) c_bipush_17 66 rfl ?_
        refine j_iload_n C dX4_kindFor_66 rfl 1 rfl 67 rfl ?_
        refine j_iadd C dX4_kindFor_67 68 rfl ?_
        refine j_iload C dX4_kindFor_68 6 rfl 70 rfl ?_
        obtain ⟨S6, hS6, hf⟩ := bnd hf
        refine j4_ast 1 rfl C hS6 dX4_kindFor_70 71 rfl ?_
        refine j_aload_n C dX4_kindFor_71 rfl 0 rfl 72 rfl ?_
        refine j_iload_n C dX4_kindFor_72 rfl 2 rfl 73 rfl ?_
        refine j_iload C dX4_kindFor_73 3 rfl 75 rfl ?_
        obtain ⟨⟨r8, S9⟩, hq7, hf⟩ := bnd hf
        dsimp only at hf
        refine j_callVi (As := [.int b2, .int b4]) (rest := []) C (c_X4_wonIn l g sz x S6  b2 b4 _ _ hq7) (j_cwV C qc_X4_wonIn qm_X4_273 qi_X4_wonIn qs_X4_wonIn qn_X4 hd_X4_wonIn ⟨rfl, rfl⟩ ⟨by decide, by decide⟩) (rcv_mo.cell C.2) rfl (Nat.le_of_ble_eq_true rfl) dX4_kindFor_75 78 rfl ?_
        refine j_istore (lv2 := [(8, .int r8), (0, .ref (ad g 56)), (1, .int b1), (2, .int b2), (4, .int b4), (5, .int b5), (6, .int b6), (7, .int b7)]) C dX4_kindFor_78 (by decide) rfl 80 rfl ?_
        refine j_iload C dX4_kindFor_80 0 rfl 82 rfl ?_
        refine j_iload C dX4_kindFor_82 6 rfl 84 rfl ?_
        refine j_icmp_le C dX4_kindFor_84 92 (by decide) 87 rfl (fun c10 => ?_) (fun c10 => ?_)
        · rw [if_pos c10] at hf
          refine j_iload C dX4_kindFor_92 5 rfl 94 rfl ?_
          refine j_sub [1, 2, 3, 4, 6, 7, 0] rfl ?_
          exact hL94 _ ih b1 b2 b4 b6 b7 r8 b5 S9 hf
        · rw [if_neg c10] at hf
          refine j_iload C dX4_kindFor_87 7 rfl 89 rfl ?_
          refine j_goto C dX4_kindFor_89 94 (by decide) ?_
          refine j_sub [1, 2, 3, 4, 6, 7, 0] rfl ?_
          exact hL94 _ ih b1 b2 b4 b6 b7 r8 b7 S9 hf
  unfold X4_kindFor at hf
  refine j_aload_n C dX4_kindFor_0 rfl 0 rfl 1 rfl ?_
  refine j_iload_n C dX4_kindFor_1 rfl 1 rfl 2 rfl ?_
  refine j_iload_n C dX4_kindFor_2 rfl 2 rfl 3 rfl ?_
  obtain ⟨r1, hr1, hf⟩ := bnd hf
  refine j_callVi (As := [.int a1, .int a2]) (rest := []) C (c_X4_refusesShelf l g sz x S  a1 a2 _ hr1) (j_cwV C qc_X4_refusesShelf qm_X4_276 qi_X4_refusesShelf qs_X4_refusesShelf qn_X4 hd_X4_refusesShelf ⟨rfl, rfl⟩ ⟨by decide, by decide⟩) (rcv_mo.cell C.2) rfl (Nat.le_of_ble_eq_true rfl) dX4_kindFor_3 6 rfl ?_
  refine j_istore_n (lv2 := [(3, .int r1), (0, .ref (ad g 56)), (1, .int a1), (2, .int a2)]) C dX4_kindFor_6 rfl (by decide) rfl 7 rfl ?_
  refine j_iload_n C dX4_kindFor_7 rfl 0 rfl 8 rfl ?_
  refine j_if_eq C dX4_kindFor_8 17 (by decide) 11 rfl (fun c2 => ?_) (fun c2 => ?_)
  · rw [if_pos c2] at hf
    refine j_aload_n C dX4_kindFor_17 rfl 1 rfl 18 rfl ?_
    refine j4_get C 0 (by decide) qf_X4_9 (v := .ref (ad g 57)) rfl dX4_kindFor_18 21 rfl ?_
    refine j_aload_n C dX4_kindFor_21 rfl 1 rfl 22 rfl ?_
    refine j4_get C 2 (by decide) qf_X4_16 (v := .ref (ad g 59)) rfl dX4_kindFor_22 25 rfl ?_
    obtain ⟨S3, hS3, hf⟩ := bnd hf
    refine j_callSv (As := [.ref (ad g 57), .ref (ad g 59)]) (rest := []) C (c_X4_copyRow l g sz x S  1 rfl 3 rfl _ hS3) (j_cwS C qc_X4_copyRow qm_X4_73 qs_X4_copyRow qn_X4 hd_X4_copyRow ⟨rfl, rfl⟩ ⟨by decide, by decide⟩)  rfl (Nat.le_of_ble_eq_true rfl) dX4_kindFor_25 28 rfl ?_
    refine j_aload_n C dX4_kindFor_28 rfl 1 rfl 29 rfl ?_
    refine j_bipush C dX4_kindFor_29 (v := 101) c_bipush_101 31 rfl ?_
    obtain ⟨r4, hr4, hf⟩ := bnd hf
    refine j_callVi (As := [.int 101]) (rest := []) C (c_X4_setOf l g sz x S3  101 _ hr4) (j_cwV C qc_X4_setOf qm_X4_177 qi_X4_setOf qs_X4_setOf qn_X4 hd_X4_setOf ⟨rfl, rfl⟩ ⟨by decide, by decide⟩) (rcv_mo.cell C.2) rfl (Nat.le_of_ble_eq_true rfl) dX4_kindFor_31 34 rfl ?_
    refine j_iconst C dX4_kindFor_34 (v := (-1)) c_iconst_m1 35 rfl ?_
    refine j_ixor C dX4_kindFor_35 36 rfl ?_
    refine j_iconst C dX4_kindFor_36 (v := 1) c_iconst_1 37 rfl ?_
    refine j_iload_n C dX4_kindFor_37 rfl 2 rfl 38 rfl ?_
    refine j_ishl C dX4_kindFor_38 39 rfl ?_
    refine j_iconst C dX4_kindFor_39 (v := (-1)) c_iconst_m1 40 rfl ?_
    refine j_ixor C dX4_kindFor_40 41 rfl ?_
    refine j_iand C dX4_kindFor_41 42 rfl ?_
    refine j_istore (lv2 := [(4, .int ((r4 ^^^ (-1)) &&& ((shl32 1 a1) ^^^ (-1)))), (3, .int r1), (0, .ref (ad g 56)), (1, .int a1), (2, .int a2)]) C dX4_kindFor_42 (by decide) rfl 44 rfl ?_
    refine j_iconst C dX4_kindFor_44 (v := (-1)) c_iconst_m1 45 rfl ?_
    refine j_istore (lv2 := [(5, .int (-1)), (4, .int ((r4 ^^^ (-1)) &&& ((shl32 1 a1) ^^^ (-1)))), (3, .int r1), (0, .ref (ad g 56)), (1, .int a1), (2, .int a2)]) C dX4_kindFor_45 (by decide) rfl 47 rfl ?_
    refine j_iconst C dX4_kindFor_47 (v := (-1)) c_iconst_m1 48 rfl ?_
    refine j_istore (lv2 := [(6, .int (-1)), (5, .int (-1)), (4, .int ((r4 ^^^ (-1)) &&& ((shl32 1 a1) ^^^ (-1)))), (3, .int r1), (0, .ref (ad g 56)), (1, .int a1), (2, .int a2)]) C dX4_kindFor_48 (by decide) rfl 50 rfl ?_
    refine j_iconst C dX4_kindFor_50 (v := 0) c_iconst_0 51 rfl ?_
    refine j_istore (lv2 := [(7, .int 0), (6, .int (-1)), (5, .int (-1)), (4, .int ((r4 ^^^ (-1)) &&& ((shl32 1 a1) ^^^ (-1)))), (3, .int r1), (0, .ref (ad g 56)), (1, .int a1), (2, .int a2)]) C dX4_kindFor_51 (by decide) rfl 53 rfl ?_
    refine j_sub [5, 6, 7, 3, 2, 1, 0] rfl ?_
    exact hL53 FU a1 a2 ((r4 ^^^ (-1)) &&& ((shl32 1 a1) ^^^ (-1))) (-1) (-1) 0 S3 hf
  · rw [if_neg c2] at hf
    refine j_aload_n C dX4_kindFor_11 rfl 1 rfl 12 rfl ?_
    refine j_iload_n C dX4_kindFor_12 rfl 0 rfl 13 rfl ?_
    obtain ⟨⟨r12, S13⟩, hq11, hf⟩ := bnd hf
    dsimp only at hf
    refine j_callVi (As := [.int r1]) (rest := []) C (c_X4_finding l g sz x S  r1 _ _ hq11) (j_cwV C qc_X4_finding qm_X4_99 qi_X4_finding qs_X4_finding qn_X4 hd_X4_finding ⟨rfl, rfl⟩ ⟨by decide, by decide⟩) (rcv_mo.cell C.2) rfl (Nat.le_of_ble_eq_true rfl) dX4_kindFor_13 16 rfl ?_
    obtain ⟨rfl, rfl⟩ := Prod.mk.inj (Option.some.inj hf)
    exact j_iret C hr hlk dX4_kindFor_16
set_option maxRecDepth 100000 in
set_option maxHeartbeats 4000000 in
theorem c_X4_seed (l : Launch) (g : GG) (sz : Nat) (x S : St) (a1 : Int32) (r : Int32) (S' : St) (hf : X4_seed a1 S = some (r, S')) : Met l yX4_seed (.code yX4_seed cX4_seed 2 (some .int) :: ALLW) (rmJ 1 23) (PcJ g sz x S [.ref (ad g 56), .int a1]) (QiJ g sz r x S') 0 0 (Ag sz) := by
  refine j_met (own := RX4) (by decide) rfl (Nat.le_of_ble_eq_true rfl) rfl ?_
  intro p e s m args below meth c C hr hlk
  unfold X4_seed at hf
  refine j_aload_n C dX4_seed_0 rfl 0 rfl 1 rfl ?_
  refine j_bipush C dX4_seed_1 (v := 6) c_bipush_6 3 rfl ?_
  refine j_iload_n C dX4_seed_3 rfl 1 rfl 4 rfl ?_
  obtain ⟨⟨r2, S3⟩, hq1, hf⟩ := bnd hf
  dsimp only at hf
  refine j_callVi (As := [.int 6, .int a1]) (rest := []) C (c_X4_become l g sz x S  6 a1 _ _ hq1) (j_cwV C qc_X4_become qm_X4_131 qi_X4_become qs_X4_become qn_X4 hd_X4_become ⟨rfl, rfl⟩ ⟨by decide, by decide⟩) (rcv_mo.cell C.2) rfl (Nat.le_of_ble_eq_true rfl) dX4_seed_4 7 rfl ?_
  obtain ⟨rfl, rfl⟩ := Prod.mk.inj (Option.some.inj hf)
  exact j_iret C hr hlk dX4_seed_7
set_option maxRecDepth 100000 in
set_option maxHeartbeats 4000000 in
theorem c_X4_feed (l : Launch) (g : GG) (sz : Nat) (x S : St) (a1 : Int32) (a2 : Int32) (r : Int32) (S' : St) (hf : X4_feed a1 a2 S = some (r, S')) : Met l yX4_feed (.code yX4_feed cX4_feed 4 (some .int) :: ALLW) (rmJ 1 22) (PcJ g sz x S [.ref (ad g 56), .int a1, .int a2]) (QiJ g sz r x S') 0 0 (Ag sz) := by
  refine j_met (own := RX4) (by decide) rfl (Nat.le_of_ble_eq_true rfl) rfl ?_
  intro p e s m args below meth c C hr hlk
  have hL38 : ∀ (n : Nat), ∀ (b1 : Int32) (b3 : Int32) (S : St), X4_feed_L38 n b1 b3 S = some (r, S') → Wj p l e (rmJ 1 22) s m args below meth c (MQ below (QiJ g sz r x S') args s 0 0 (Ag sz)) 4 g sz x S 38 [(0, .ref (ad g 56)), (1, .int b1), (3, .int b3)] [] := by
    intro  n
    induction n with
    | zero =>
      intro b1 b3 S hf
      rw [X4_feed_L38] at hf
      cases hf
    | succ n ih =>
      intro b1 b3 S hf
      rw [X4_feed_L38] at hf
      refine j_iload_n C dX4_feed_38 rfl 2 rfl 39 rfl ?_
      refine j_if_lt C dX4_feed_39 77 (by decide) 42 rfl (fun c3 => ?_) (fun c3 => ?_)
      · rw [if_pos c3] at hf
        refine j_aload_n C dX4_feed_77 rfl 0 rfl 78 rfl ?_
        refine j4_get C 11 (by decide) qf_X4_279 (v := .int (S 0 11)) rfl dX4_feed_78 81 rfl ?_
        obtain ⟨rfl, rfl⟩ := Prod.mk.inj (Option.some.inj hf)
        exact j_iret C hr hlk dX4_feed_81
      · rw [if_neg c3] at hf
        refine j_aload_n C dX4_feed_42 rfl 0 rfl 43 rfl ?_
        refine j4_get C 10 (by decide) qf_X4_22 (v := .ref (ad g 61)) rfl dX4_feed_43 46 rfl ?_
        refine j_aload_n C dX4_feed_46 rfl 0 rfl 47 rfl ?_
        refine j4_get C 11 (by decide) qf_X4_279 (v := .int (S 0 11)) rfl dX4_feed_47 50 rfl ?_
        refine j_iload_n C dX4_feed_50 rfl 1 rfl 51 rfl ?_
        refine j_bipush C dX4_feed_51 (v := 8) c_bipush_8 53 rfl ?_
        refine j_iload_n C dX4_feed_53 rfl 2 rfl 54 rfl ?_
        refine j_imul C dX4_feed_54 55 rfl ?_
        refine j_ishr C dX4_feed_55 56 rfl ?_
        refine j_sipush C dX4_feed_56 (v := 255) c_sipush_255 59 rfl ?_
        refine j_iand C dX4_feed_59 60 rfl ?_
        obtain ⟨S4, hS4, hf⟩ := bnd hf
        refine j4_ast 5 rfl C hS4 dX4_feed_60 61 rfl ?_
        refine j_aload_n C dX4_feed_61 rfl 0 rfl 62 rfl ?_
        refine j_dup C dX4_feed_62 rfl 63 rfl ?_
        refine j4_get C 11 (by decide) qf_X4_279 (v := .int (S4 0 11)) rfl dX4_feed_63 66 rfl ?_
        refine j_iconst C dX4_feed_66 (v := 1) c_iconst_1 67 rfl ?_
        refine j_iadd C dX4_feed_67 68 rfl ?_
        obtain ⟨S5, hS5, hf⟩ := bnd hf
        refine j4_put C 11 rfl rfl rfl qf_X4_279 dX4_feed_68 71 rfl ?_
        rw [Option.some.inj hS5]
        refine j_iinc (lv2 := [(3, .int (b3 + (-1))), (0, .ref (ad g 56)), (1, .int b1)]) C dX4_feed_71 (k := 2) rfl (congrArg (HAdd.hAdd b3) c_oi_m1) (by decide) rfl 74 rfl ?_
        refine j_goto C dX4_feed_74 38 (by decide) ?_
        refine j_sub [1, 2, 0] rfl ?_
        exact ih b1 (b3 + (-1)) S5 hf
  unfold X4_feed at hf
  refine j_iload_n C dX4_feed_0 rfl 2 rfl 1 rfl ?_
  refine j_iconst C dX4_feed_1 (v := 1) c_iconst_1 2 rfl ?_
  refine j_iconst C dX4_feed_2 (v := 4) c_iconst_4 3 rfl ?_
  refine j_callSi (As := [.int a2, .int 1, .int 4]) (rest := []) C (c_X4_within l g sz x S a2 1 4 _ rfl) (j_cwS C qc_X4_within qm_X4_77 qs_X4_within qn_X4 hd_X4_within ⟨rfl, rfl⟩ ⟨by decide, by decide⟩)  rfl (Nat.le_of_ble_eq_true rfl) dX4_feed_3 6 rfl ?_
  refine j_if_ne C dX4_feed_6 16 (by decide) 9 rfl (fun c1 => ?_) (fun c1 => ?_)
  · rw [if_neg c1] at hf
    refine j_aload_n C dX4_feed_16 rfl 0 rfl 17 rfl ?_
    refine j4_get C 11 (by decide) qf_X4_279 (v := .int (S 0 11)) rfl dX4_feed_17 20 rfl ?_
    refine j_iload_n C dX4_feed_20 rfl 2 rfl 21 rfl ?_
    refine j_iadd C dX4_feed_21 22 rfl ?_
    refine j_bipush C dX4_feed_22 (v := 120) c_bipush_120 24 rfl ?_
    refine j_icmp_le C dX4_feed_24 34 (by decide) 27 rfl (fun c2 => ?_) (fun c2 => ?_)
    · rw [if_pos c2] at hf
      refine j_iload_n C dX4_feed_34 rfl 2 rfl 35 rfl ?_
      refine j_iconst C dX4_feed_35 (v := 1) c_iconst_1 36 rfl ?_
      refine j_isub C dX4_feed_36 37 rfl ?_
      refine j_istore_n (lv2 := [(3, .int (a2 - 1)), (0, .ref (ad g 56)), (1, .int a1), (2, .int a2)]) C dX4_feed_37 rfl (by decide) rfl 38 rfl ?_
      refine j_sub [1, 2, 0] rfl ?_
      exact hL38 FU a1 (a2 - 1) S hf
    · rw [if_neg c2] at hf
      refine j_aload_n C dX4_feed_27 rfl 0 rfl 28 rfl ?_
      refine j_ldc C dX4_feed_28 qk_X4_102 30 rfl ?_
      obtain ⟨⟨r7, S8⟩, hq6, hf⟩ := bnd hf
      dsimp only at hf
      refine j_callVi (As := [.int (-1000002)]) (rest := []) C (c_X4_finding l g sz x S  (-1000002) _ _ hq6) (j_cwV C qc_X4_finding qm_X4_99 qi_X4_finding qs_X4_finding qn_X4 hd_X4_finding ⟨rfl, rfl⟩ ⟨by decide, by decide⟩) (rcv_mo.cell C.2) rfl (Nat.le_of_ble_eq_true rfl) dX4_feed_30 33 rfl ?_
      obtain ⟨rfl, rfl⟩ := Prod.mk.inj (Option.some.inj hf)
      exact j_iret C hr hlk dX4_feed_33
  · rw [if_pos c1] at hf
    refine j_aload_n C dX4_feed_9 rfl 0 rfl 10 rfl ?_
    refine j_ldc C dX4_feed_10 qk_X4_72 12 rfl ?_
    obtain ⟨⟨r10, S11⟩, hq9, hf⟩ := bnd hf
    dsimp only at hf
    refine j_callVi (As := [.int (-1000001)]) (rest := []) C (c_X4_finding l g sz x S  (-1000001) _ _ hq9) (j_cwV C qc_X4_finding qm_X4_99 qi_X4_finding qs_X4_finding qn_X4 hd_X4_finding ⟨rfl, rfl⟩ ⟨by decide, by decide⟩) (rcv_mo.cell C.2) rfl (Nat.le_of_ble_eq_true rfl) dX4_feed_12 15 rfl ?_
    obtain ⟨rfl, rfl⟩ := Prod.mk.inj (Option.some.inj hf)
    exact j_iret C hr hlk dX4_feed_15
set_option maxRecDepth 100000 in
set_option maxHeartbeats 4000000 in
theorem c_X4_wipe (l : Launch) (g : GG) (sz : Nat) (x S : St) (r : Int32) (S' : St) (hf : X4_wipe S = some (r, S')) : Met l yX4_wipe (.code yX4_wipe cX4_wipe 2 (some .int) :: ALLW) (rmJ 0 0) (PcJ g sz x S [.ref (ad g 56)]) (QiJ g sz r x S') 0 0 (Ag sz) := by
  refine j_met (own := RX4) (by decide) rfl (Nat.le_of_ble_eq_true rfl) rfl ?_
  intro p e s m args below meth c C hr hlk
  unfold X4_wipe at hf
  refine j_aload_n C dX4_wipe_0 rfl 0 rfl 1 rfl ?_
  refine j4_get C 11 (by decide) qf_X4_279 (v := .int (S 0 11)) rfl dX4_wipe_1 4 rfl ?_
  refine j_istore_n (lv2 := [(1, .int (S 0 11)), (0, .ref (ad g 56))]) C dX4_wipe_4 rfl (by decide) rfl 5 rfl ?_
  refine j_aload_n C dX4_wipe_5 rfl 1 rfl 6 rfl ?_
  refine j_iconst C dX4_wipe_6 (v := 0) c_iconst_0 7 rfl ?_
  obtain ⟨S1, hS1, hf⟩ := bnd hf
  refine j4_put C 11 rfl rfl rfl qf_X4_279 dX4_wipe_7 10 rfl ?_
  rw [Option.some.inj hS1]
  refine j_iload_n C dX4_wipe_10 rfl 0 rfl 11 rfl ?_
  obtain ⟨rfl, rfl⟩ := Prod.mk.inj (Option.some.inj hf)
  exact j_iret C hr hlk dX4_wipe_11
set_option maxRecDepth 100000 in
set_option maxHeartbeats 4000000 in
theorem c_X4_byteAt (l : Launch) (g : GG) (sz : Nat) (x S : St) (a1 : Int32) (r : Int32) (hf : X4_byteAt a1 S = some r) : Met l yX4_byteAt (.code yX4_byteAt cX4_byteAt 2 (some .int) :: ALLW) (rmJ 0 0) (PcJ g sz x S [.ref (ad g 56), .int a1]) (QiJ g sz r x S) 0 0 (Ag sz) := by
  refine j_met (own := RX4) (by decide) rfl (Nat.le_of_ble_eq_true rfl) rfl ?_
  intro p e s m args below meth c C hr hlk
  unfold X4_byteAt at hf
  refine j_iload_n C dX4_byteAt_0 rfl 1 rfl 1 rfl ?_
  refine j_aload_n C dX4_byteAt_1 rfl 0 rfl 2 rfl ?_
  refine j4_get C 11 (by decide) qf_X4_279 (v := .int (S 0 11)) rfl dX4_byteAt_2 5 rfl ?_
  refine j_icmp_ge C dX4_byteAt_5 17 (by decide) 8 rfl (fun c1 => ?_) (fun c1 => ?_)
  · rw [if_pos c1] at hf
    refine j_iconst C dX4_byteAt_17 (v := (-1)) c_iconst_m1 18 rfl ?_
    obtain rfl := Option.some.inj hf
    exact j_iret C hr hlk dX4_byteAt_18
  · rw [if_neg c1] at hf
    refine j_aload_n C dX4_byteAt_8 rfl 0 rfl 9 rfl ?_
    refine j4_get C 10 (by decide) qf_X4_22 (v := .ref (ad g 61)) rfl dX4_byteAt_9 12 rfl ?_
    refine j_iload_n C dX4_byteAt_12 rfl 1 rfl 13 rfl ?_
    obtain ⟨v2, hv2, hf⟩ := bnd hf
    refine j4_ald 5 rfl C hv2 dX4_byteAt_13 14 rfl ?_
    refine j_goto C dX4_byteAt_14 18 (by decide) ?_
    obtain rfl := Option.some.inj hf
    exact j_iret C hr hlk dX4_byteAt_18
set_option maxRecDepth 100000 in
set_option maxHeartbeats 4000000 in
theorem c_X4_next (l : Launch) (g : GG) (sz : Nat) (x S : St) (S' : St) (hf : X4_next S = some S') : Met l yX4_next (.code yX4_next cX4_next 2 none :: ALLW) (rmJ 1 22) (PcJ g sz x S [.ref (ad g 56)]) (QvJ g sz x S') 0 0 (Ag sz) := by
  refine j_met (own := RX4) (by decide) rfl (Nat.le_of_ble_eq_true rfl) rfl ?_
  intro p e s m args below meth c C hr hlk
  have hL131 : ∀ (n : Nat), ∀ (S : St), X4_next_L131 n S = some S' → Wj p l e (rmJ 1 22) s m args below meth c (MQ below (QvJ g sz x S') args s 0 0 (Ag sz)) 2 g sz x S 131 [(0, .ref (ad g 56))] [] := by
    intro  n
    induction n with
    | zero =>
      intro S hf
      rw [X4_next_L131] at hf
      cases hf
    | succ n ih =>
      intro S hf
      rw [X4_next_L131] at hf
      refine j_aload_n C dX4_next_131 rfl 0 rfl 132 rfl ?_
      refine j_aload_n C dX4_next_132 rfl 0 rfl 133 rfl ?_
      refine j4_get C 13 (by decide) qf_X4_282 (v := .int (S 0 13)) rfl dX4_next_133 136 rfl ?_
      obtain ⟨r13, hr13, hf⟩ := bnd hf
      refine j_callVi (As := [.int (S 0 13)]) (rest := []) C (c_X4_byteAt l g sz x S  (S 0 13) _ hr13) (j_cwV C qc_X4_byteAt qm_X4_288 qi_X4_byteAt qs_X4_byteAt qn_X4 hd_X4_byteAt ⟨rfl, rfl⟩ ⟨by decide, by decide⟩) (rcv_mo.cell C.2) rfl (Nat.le_of_ble_eq_true rfl) dX4_next_136 139 rfl ?_
      refine j_bipush C dX4_next_139 (v := 48) c_bipush_48 141 rfl ?_
      refine j_bipush C dX4_next_141 (v := 57) c_bipush_57 143 rfl ?_
      refine j_callSi (As := [.int r13, .int 48, .int 57]) (rest := []) C (c_X4_within l g sz x S r13 48 57 _ rfl) (j_cwS C qc_X4_within qm_X4_77 qs_X4_within qn_X4 hd_X4_within ⟨rfl, rfl⟩ ⟨by decide, by decide⟩)  rfl (Nat.le_of_ble_eq_true rfl) dX4_next_143 146 rfl ?_
      refine j_if_eq C dX4_next_146 206 (by decide) 149 rfl (fun c14 => ?_) (fun c14 => ?_)
      · rw [if_pos c14] at hf
        obtain rfl := Option.some.inj hf
        exact j_vret C hr hlk dX4_next_206
      · rw [if_neg c14] at hf
        refine j_aload_n C dX4_next_149 rfl 0 rfl 150 rfl ?_
        refine j_sipush C dX4_next_150 (v := 10000) c_sipush_10000 153 rfl ?_
        refine j_bipush C dX4_next_153 (v := 10) c_bipush_10 155 rfl ?_
        refine j_aload_n C dX4_next_155 rfl 0 rfl 156 rfl ?_
        refine j4_get C 15 (by decide) qf_X4_291 (v := .int (S 0 15)) rfl dX4_next_156 159 rfl ?_
        refine j_imul C dX4_next_159 160 rfl ?_
        refine j_aload_n C dX4_next_160 rfl 0 rfl 161 rfl ?_
        refine j_aload_n C dX4_next_161 rfl 0 rfl 162 rfl ?_
        refine j4_get C 13 (by decide) qf_X4_282 (v := .int (S 0 13)) rfl dX4_next_162 165 rfl ?_
        obtain ⟨r15, hr15, hf⟩ := bnd hf
        refine j_callVi (As := [.int (S 0 13)]) (rest := [.int (10 * (S 0 15)), .int 10000, .ref (ad g 56)]) C (c_X4_byteAt l g sz x S  (S 0 13) _ hr15) (j_cwV C qc_X4_byteAt qm_X4_288 qi_X4_byteAt qs_X4_byteAt qn_X4 hd_X4_byteAt ⟨rfl, rfl⟩ ⟨by decide, by decide⟩) (rcv_mo.cell C.2) rfl (Nat.le_of_ble_eq_true rfl) dX4_next_165 168 rfl ?_
        refine j_iadd C dX4_next_168 169 rfl ?_
        refine j_bipush C dX4_next_169 (v := 48) c_bipush_48 171 rfl ?_
        refine j_isub C dX4_next_171 172 rfl ?_
        refine j_mmin C qm_X4_251 dX4_next_172 (Nat.le_of_ble_eq_true rfl) (Nat.le_of_ble_eq_true rfl) 175 rfl ?_
        obtain ⟨S16, hS16, hf⟩ := bnd hf
        refine j4_put C 15 rfl rfl rfl qf_X4_291 dX4_next_175 178 rfl ?_
        rw [Option.some.inj hS16]
        refine j_aload_n C dX4_next_178 rfl 0 rfl 179 rfl ?_
        refine j_dup C dX4_next_179 rfl 180 rfl ?_
        refine j4_get C 13 (by decide) qf_X4_282 (v := .int (S16 0 13)) rfl dX4_next_180 183 rfl ?_
        refine j_iconst C dX4_next_183 (v := 1) c_iconst_1 184 rfl ?_
        refine j_iadd C dX4_next_184 185 rfl ?_
        obtain ⟨S17, hS17, hf⟩ := bnd hf
        refine j4_put C 13 rfl rfl rfl qf_X4_282 dX4_next_185 188 rfl ?_
        rw [Option.some.inj hS17]
        refine j_goto C dX4_next_188 131 (by decide) ?_
        exact ih S17 hf
  have hL84 : ∀ (n : Nat), ∀ (S : St), X4_next_L84 n S = some S' → Wj p l e (rmJ 1 22) s m args below meth c (MQ below (QvJ g sz x S') args s 0 0 (Ag sz)) 2 g sz x S 84 [(0, .ref (ad g 56))] [] := by
    intro  n
    induction n with
    | zero =>
      intro S hf
      rw [X4_next_L84] at hf
      cases hf
    | succ n ih =>
      intro S hf
      rw [X4_next_L84] at hf
      refine j_aload_n C dX4_next_84 rfl 0 rfl 85 rfl ?_
      refine j_aload_n C dX4_next_85 rfl 0 rfl 86 rfl ?_
      refine j4_get C 13 (by decide) qf_X4_282 (v := .int (S 0 13)) rfl dX4_next_86 89 rfl ?_
      obtain ⟨r19, hr19, hf⟩ := bnd hf
      refine j_callVi (As := [.int (S 0 13)]) (rest := []) C (c_X4_byteAt l g sz x S  (S 0 13) _ hr19) (j_cwV C qc_X4_byteAt qm_X4_288 qi_X4_byteAt qs_X4_byteAt qn_X4 hd_X4_byteAt ⟨rfl, rfl⟩ ⟨by decide, by decide⟩) (rcv_mo.cell C.2) rfl (Nat.le_of_ble_eq_true rfl) dX4_next_89 92 rfl ?_
      refine j_bipush C dX4_next_92 (v := 97) c_bipush_97 94 rfl ?_
      refine j_bipush C dX4_next_94 (v := 122) c_bipush_122 96 rfl ?_
      refine j_callSi (As := [.int r19, .int 97, .int 122]) (rest := []) C (c_X4_within l g sz x S r19 97 122 _ rfl) (j_cwS C qc_X4_within qm_X4_77 qs_X4_within qn_X4 hd_X4_within ⟨rfl, rfl⟩ ⟨by decide, by decide⟩)  rfl (Nat.le_of_ble_eq_true rfl) dX4_next_96 99 rfl ?_
      refine j_if_eq C dX4_next_99 206 (by decide) 102 rfl (fun c20 => ?_) (fun c20 => ?_)
      · rw [if_pos c20] at hf
        obtain rfl := Option.some.inj hf
        exact j_vret C hr hlk dX4_next_206
      · rw [if_neg c20] at hf
        refine j_aload_n C dX4_next_102 rfl 0 rfl 103 rfl ?_
        refine j_dup C dX4_next_103 rfl 104 rfl ?_
        refine j4_get C 13 (by decide) qf_X4_282 (v := .int (S 0 13)) rfl dX4_next_104 107 rfl ?_
        refine j_iconst C dX4_next_107 (v := 1) c_iconst_1 108 rfl ?_
        refine j_iadd C dX4_next_108 109 rfl ?_
        obtain ⟨S21, hS21, hf⟩ := bnd hf
        refine j4_put C 13 rfl rfl rfl qf_X4_282 dX4_next_109 112 rfl ?_
        rw [Option.some.inj hS21]
        refine j_goto C dX4_next_112 84 (by decide) ?_
        exact ih S21 hf
  have hL8 : ∀ (n : Nat), ∀ (S : St), X4_next_L8 n S = some S' → Wj p l e (rmJ 1 22) s m args below meth c (MQ below (QvJ g sz x S') args s 0 0 (Ag sz)) 2 g sz x S 8 [(0, .ref (ad g 56))] [] := by
    intro  n
    induction n with
    | zero =>
      intro S hf
      rw [X4_next_L8] at hf
      cases hf
    | succ n ih =>
      intro S hf
      rw [X4_next_L8] at hf
      refine j_aload_n C dX4_next_8 rfl 0 rfl 9 rfl ?_
      refine j_aload_n C dX4_next_9 rfl 0 rfl 10 rfl ?_
      refine j4_get C 12 (by decide) qf_X4_285 (v := .int (S 0 12)) rfl dX4_next_10 13 rfl ?_
      obtain ⟨r2, hr2, hf⟩ := bnd hf
      refine j_callVi (As := [.int (S 0 12)]) (rest := []) C (c_X4_byteAt l g sz x S  (S 0 12) _ hr2) (j_cwV C qc_X4_byteAt qm_X4_288 qi_X4_byteAt qs_X4_byteAt qn_X4 hd_X4_byteAt ⟨rfl, rfl⟩ ⟨by decide, by decide⟩) (rcv_mo.cell C.2) rfl (Nat.le_of_ble_eq_true rfl) dX4_next_13 16 rfl ?_
      refine j_bipush C dX4_next_16 (v := 32) c_bipush_32 18 rfl ?_
      refine j_icmp_ne C dX4_next_18 34 (by decide) 21 rfl (fun c3 => ?_) (fun c3 => ?_)
      · rw [if_neg c3] at hf
        refine j_aload_n C dX4_next_34 rfl 0 rfl 35 rfl ?_
        refine j_aload_n C dX4_next_35 rfl 0 rfl 36 rfl ?_
        refine j4_get C 12 (by decide) qf_X4_285 (v := .int (S 0 12)) rfl dX4_next_36 39 rfl ?_
        obtain ⟨r4, hr4, hf⟩ := bnd hf
        refine j_callVi (As := [.int (S 0 12)]) (rest := []) C (c_X4_byteAt l g sz x S  (S 0 12) _ hr4) (j_cwV C qc_X4_byteAt qm_X4_288 qi_X4_byteAt qs_X4_byteAt qn_X4 hd_X4_byteAt ⟨rfl, rfl⟩ ⟨by decide, by decide⟩) (rcv_mo.cell C.2) rfl (Nat.le_of_ble_eq_true rfl) dX4_next_39 42 rfl ?_
        refine j_istore_n (lv2 := [(1, .int r4), (0, .ref (ad g 56))]) C dX4_next_42 rfl (by decide) rfl 43 rfl ?_
        refine j_aload_n C dX4_next_43 rfl 1 rfl 44 rfl ?_
        refine j_aload_n C dX4_next_44 rfl 1 rfl 45 rfl ?_
        refine j4_get C 12 (by decide) qf_X4_285 (v := .int (S 0 12)) rfl dX4_next_45 48 rfl ?_
        obtain ⟨S5, hS5, hf⟩ := bnd hf
        refine j4_put C 13 rfl rfl rfl qf_X4_282 dX4_next_48 51 rfl ?_
        rw [Option.some.inj hS5]
        refine j_aload_n C dX4_next_51 rfl 1 rfl 52 rfl ?_
        refine j_iconst C dX4_next_52 (v := 0) c_iconst_0 53 rfl ?_
        obtain ⟨S6, hS6, hf⟩ := bnd hf
        refine j4_put C 15 rfl rfl rfl qf_X4_291 dX4_next_53 56 rfl ?_
        rw [Option.some.inj hS6]
        refine j_iload_n C dX4_next_56 rfl 0 rfl 57 rfl ?_
        refine j_if_ge C dX4_next_57 68 (by decide) 60 rfl (fun c7 => ?_) (fun c7 => ?_)
        · rw [if_pos c7] at hf
          refine j_iload_n C dX4_next_68 rfl 0 rfl 69 rfl ?_
          refine j_bipush C dX4_next_69 (v := 97) c_bipush_97 71 rfl ?_
          refine j_bipush C dX4_next_71 (v := 122) c_bipush_122 73 rfl ?_
          refine j_callSi (As := [.int r4, .int 97, .int 122]) (rest := []) C (c_X4_within l g sz x S6 r4 97 122 _ rfl) (j_cwS C qc_X4_within qm_X4_77 qs_X4_within qn_X4 hd_X4_within ⟨rfl, rfl⟩ ⟨by decide, by decide⟩)  rfl (Nat.le_of_ble_eq_true rfl) dX4_next_73 76 rfl ?_
          refine j_if_eq C dX4_next_76 115 (by decide) 79 rfl (fun c8 => ?_) (fun c8 => ?_)
          · rw [if_pos c8] at hf
            refine j_iload_n C dX4_next_115 rfl 0 rfl 116 rfl ?_
            refine j_bipush C dX4_next_116 (v := 48) c_bipush_48 118 rfl ?_
            refine j_bipush C dX4_next_118 (v := 57) c_bipush_57 120 rfl ?_
            refine j_callSi (As := [.int r4, .int 48, .int 57]) (rest := []) C (c_X4_within l g sz x S6 r4 48 57 _ rfl) (j_cwS C qc_X4_within qm_X4_77 qs_X4_within qn_X4 hd_X4_within ⟨rfl, rfl⟩ ⟨by decide, by decide⟩)  rfl (Nat.le_of_ble_eq_true rfl) dX4_next_120 123 rfl ?_
            refine j_if_eq C dX4_next_123 191 (by decide) 126 rfl (fun c9 => ?_) (fun c9 => ?_)
            · rw [if_pos c9] at hf
              refine j_aload_n C dX4_next_191 rfl 1 rfl 192 rfl ?_
              refine j_iconst C dX4_next_192 (v := 3) c_iconst_3 193 rfl ?_
              obtain ⟨S10, hS10, hf⟩ := bnd hf
              refine j4_put C 14 rfl rfl rfl qf_X4_294 dX4_next_193 196 rfl ?_
              rw [Option.some.inj hS10]
              refine j_aload_n C dX4_next_196 rfl 1 rfl 197 rfl ?_
              refine j_dup C dX4_next_197 rfl 198 rfl ?_
              refine j4_get C 13 (by decide) qf_X4_282 (v := .int (S10 0 13)) rfl dX4_next_198 201 rfl ?_
              refine j_iconst C dX4_next_201 (v := 1) c_iconst_1 202 rfl ?_
              refine j_iadd C dX4_next_202 203 rfl ?_
              obtain ⟨S11, hS11, hf⟩ := bnd hf
              refine j4_put C 13 rfl rfl rfl qf_X4_282 dX4_next_203 206 rfl ?_
              rw [Option.some.inj hS11]
              obtain rfl := Option.some.inj hf
              exact j_vret C hr hlk dX4_next_206
            · rw [if_neg c9] at hf
              refine j_aload_n C dX4_next_126 rfl 1 rfl 127 rfl ?_
              refine j_iconst C dX4_next_127 (v := 2) c_iconst_2 128 rfl ?_
              obtain ⟨S12, hS12, hf⟩ := bnd hf
              refine j4_put C 14 rfl rfl rfl qf_X4_294 dX4_next_128 131 rfl ?_
              rw [Option.some.inj hS12]
              refine j_sub [1] rfl ?_
              exact hL131 FU S12 hf
          · rw [if_neg c8] at hf
            refine j_aload_n C dX4_next_79 rfl 1 rfl 80 rfl ?_
            refine j_iconst C dX4_next_80 (v := 1) c_iconst_1 81 rfl ?_
            obtain ⟨S18, hS18, hf⟩ := bnd hf
            refine j4_put C 14 rfl rfl rfl qf_X4_294 dX4_next_81 84 rfl ?_
            rw [Option.some.inj hS18]
            refine j_sub [1] rfl ?_
            exact hL84 FU S18 hf
        · rw [if_neg c7] at hf
          refine j_aload_n C dX4_next_60 rfl 1 rfl 61 rfl ?_
          refine j_iconst C dX4_next_61 (v := 0) c_iconst_0 62 rfl ?_
          obtain ⟨S22, hS22, hf⟩ := bnd hf
          refine j4_put C 14 rfl rfl rfl qf_X4_294 dX4_next_62 65 rfl ?_
          rw [Option.some.inj hS22]
          refine j_goto C dX4_next_65 206 (by decide) ?_
          obtain rfl := Option.some.inj hf
          exact j_vret C hr hlk dX4_next_206
      · rw [if_pos c3] at hf
        refine j_aload_n C dX4_next_21 rfl 0 rfl 22 rfl ?_
        refine j_dup C dX4_next_22 rfl 23 rfl ?_
        refine j4_get C 12 (by decide) qf_X4_285 (v := .int (S 0 12)) rfl dX4_next_23 26 rfl ?_
        refine j_iconst C dX4_next_26 (v := 1) c_iconst_1 27 rfl ?_
        refine j_iadd C dX4_next_27 28 rfl ?_
        obtain ⟨S23, hS23, hf⟩ := bnd hf
        refine j4_put C 12 rfl rfl rfl qf_X4_285 dX4_next_28 31 rfl ?_
        rw [Option.some.inj hS23]
        refine j_goto C dX4_next_31 8 (by decide) ?_
        exact ih S23 hf
  unfold X4_next at hf
  refine j_aload_n C dX4_next_0 rfl 0 rfl 1 rfl ?_
  refine j_aload_n C dX4_next_1 rfl 0 rfl 2 rfl ?_
  refine j4_get C 13 (by decide) qf_X4_282 (v := .int (S 0 13)) rfl dX4_next_2 5 rfl ?_
  obtain ⟨S1, hS1, hf⟩ := bnd hf
  refine j4_put C 12 rfl rfl rfl qf_X4_285 dX4_next_5 8 rfl ?_
  rw [Option.some.inj hS1]
  exact hL8 FU S1 hf
set_option maxRecDepth 100000 in
set_option maxHeartbeats 4000000 in
theorem c_X4_isWord (l : Launch) (g : GG) (sz : Nat) (x S : St) (w1 : Nat) (hw1 : w1 < 11) (r : Int32) (hf : X4_isWord w1 S = some r) : Met l yX4_isWord (.code yX4_isWord cX4_isWord 4 (some .boolean) :: ALLW) (rmJ 4 85) (PcJ g sz x S [.ref (ad g 56), .ref (adK g w1)]) (QiJ g sz r x S) 0 0 (Ag sz) := by
  refine j_met (own := RX4) (by decide) rfl (Nat.le_of_ble_eq_true rfl) rfl ?_
  intro p e s m args below meth c C hr hlk
  have hL32 : ∀ (n : Nat), ∀ (b2 : Int32) (b3 : Int32) (S : St), X4_isWord_L32 w1 n b2 b3 S = some r → Wj p l e (rmJ 4 85) s m args below meth c (MQ below (QiJ g sz r x S) args s 0 0 (Ag sz)) 4 g sz x S 32 [(0, .ref (ad g 56)), (1, .ref (adK g w1)), (2, .int b2), (3, .int b3)] [] := by
    intro  n
    induction n with
    | zero =>
      intro b2 b3 S hf
      rw [X4_isWord_L32] at hf
      cases hf
    | succ n ih =>
      intro b2 b3 S hf
      rw [X4_isWord_L32] at hf
      refine j_iload_n C dX4_isWord_32 rfl 3 rfl 33 rfl ?_
      refine j_aload_n C dX4_isWord_33 rfl 1 rfl 34 rfl ?_
      refine j_callVi (As := []) (rest := [.int b3]) C (c_J0_length l g sz x S w1 hw1 _ rfl) (j_cwV C qc_J0_length_8abf5 qm_X4_297 qi_J0_length_8abf5 qs_J0_length_8abf5 qn_J0 hd_J0_length_8abf5 ⟨rfl, rfl⟩ ⟨by decide, by decide⟩) (fun H locs _ hS => vk_recv C.2.2.2.1 hw1 hS) rfl (Nat.le_of_ble_eq_true rfl) dX4_isWord_34 37 rfl ?_
      refine j_icmp_ge C dX4_isWord_37 75 (by decide) 40 rfl (fun c2 => ?_) (fun c2 => ?_)
      · rw [if_pos c2] at hf
        refine j_iload_n C dX4_isWord_75 rfl 2 rfl 76 rfl ?_
        obtain ⟨v3, hv3, hf⟩ := bnd hf
        obtain rfl := Option.some.inj hf
        exact j_zret C hr hlk (bl_ok hv3).2 dX4_isWord_76
      · rw [if_neg c2] at hf
        refine j_iload_n C dX4_isWord_40 rfl 2 rfl 41 rfl ?_
        refine j_if_eq C dX4_isWord_41 75 (by decide) 44 rfl (fun c4 => ?_) (fun c4 => ?_)
        · rw [if_pos c4] at hf
          refine j_iload_n C dX4_isWord_75 rfl 2 rfl 76 rfl ?_
          obtain ⟨v5, hv5, hf⟩ := bnd hf
          obtain rfl := Option.some.inj hf
          exact j_zret C hr hlk (bl_ok hv5).2 dX4_isWord_76
        · rw [if_neg c4] at hf
          refine j_aload_n C dX4_isWord_44 rfl 0 rfl 45 rfl ?_
          refine j4_get C 10 (by decide) qf_X4_22 (v := .ref (ad g 61)) rfl dX4_isWord_45 48 rfl ?_
          refine j_aload_n C dX4_isWord_48 rfl 0 rfl 49 rfl ?_
          refine j4_get C 12 (by decide) qf_X4_285 (v := .int (S 0 12)) rfl dX4_isWord_49 52 rfl ?_
          refine j_iload_n C dX4_isWord_52 rfl 3 rfl 53 rfl ?_
          refine j_iadd C dX4_isWord_53 54 rfl ?_
          obtain ⟨v6, hv6, hf⟩ := bnd hf
          refine j4_ald 5 rfl C hv6 dX4_isWord_54 55 rfl ?_
          refine j_aload_n C dX4_isWord_55 rfl 1 rfl 56 rfl ?_
          refine j_iload_n C dX4_isWord_56 rfl 3 rfl 57 rfl ?_
          obtain ⟨r7, hr7, hf⟩ := bnd hf
          refine j_callVi (As := [.int b3]) (rest := [.int v6]) C (c_J0_charAt l g sz x S w1 hw1 b3 _ hr7) (j_cwV C qc_J0_charAt_5068e qm_X4_300 qi_J0_charAt_5068e qs_J0_charAt_5068e qn_J0 hd_J0_charAt_5068e ⟨rfl, rfl⟩ ⟨by decide, by decide⟩) (fun H locs _ hS => vk_recv C.2.2.2.1 hw1 hS) rfl (Nat.le_of_ble_eq_true rfl) dX4_isWord_57 60 rfl ?_
          refine j_icmp_ne C dX4_isWord_60 67 (by decide) 63 rfl (fun c8 => ?_) (fun c8 => ?_)
          · rw [if_neg c8] at hf
            refine j_iconst C dX4_isWord_67 (v := 0) c_iconst_0 68 rfl ?_
            refine j_istore_n (lv2 := [(2, .int 0), (0, .ref (ad g 56)), (1, .ref (adK g w1)), (3, .int b3)]) C dX4_isWord_68 rfl (by decide) rfl 69 rfl ?_
            refine j_iinc (lv2 := [(3, .int (b3 + 1)), (2, .int 0), (0, .ref (ad g 56)), (1, .ref (adK g w1))]) C dX4_isWord_69 (k := 3) rfl (congrArg (HAdd.hAdd b3) c_oi_1) (by decide) rfl 72 rfl ?_
            refine j_goto C dX4_isWord_72 32 (by decide) ?_
            refine j_sub [2, 3, 1, 0] rfl ?_
            exact ih 0 (b3 + 1) S hf
          · rw [if_pos c8] at hf
            refine j_iconst C dX4_isWord_63 (v := 1) c_iconst_1 64 rfl ?_
            refine j_goto C dX4_isWord_64 68 (by decide) ?_
            refine j_istore_n (lv2 := [(2, .int 1), (0, .ref (ad g 56)), (1, .ref (adK g w1)), (3, .int b3)]) C dX4_isWord_68 rfl (by decide) rfl 69 rfl ?_
            refine j_iinc (lv2 := [(3, .int (b3 + 1)), (2, .int 1), (0, .ref (ad g 56)), (1, .ref (adK g w1))]) C dX4_isWord_69 (k := 3) rfl (congrArg (HAdd.hAdd b3) c_oi_1) (by decide) rfl 72 rfl ?_
            refine j_goto C dX4_isWord_72 32 (by decide) ?_
            refine j_sub [2, 3, 1, 0] rfl ?_
            exact ih 1 (b3 + 1) S hf
  unfold X4_isWord at hf
  refine j_aload_n C dX4_isWord_0 rfl 0 rfl 1 rfl ?_
  refine j4_get C 14 (by decide) qf_X4_294 (v := .int (S 0 14)) rfl dX4_isWord_1 4 rfl ?_
  refine j_iconst C dX4_isWord_4 (v := 1) c_iconst_1 5 rfl ?_
  refine j_icmp_ne C dX4_isWord_5 28 (by decide) 8 rfl (fun c1 => ?_) (fun c1 => ?_)
  · rw [if_neg c1] at hf
    refine j_iconst C dX4_isWord_28 (v := 0) c_iconst_0 29 rfl ?_
    refine j_istore_n (lv2 := [(2, .int 0), (0, .ref (ad g 56)), (1, .ref (adK g w1))]) C dX4_isWord_29 rfl (by decide) rfl 30 rfl ?_
    refine j_iconst C dX4_isWord_30 (v := 0) c_iconst_0 31 rfl ?_
    refine j_istore_n (lv2 := [(3, .int 0), (2, .int 0), (0, .ref (ad g 56)), (1, .ref (adK g w1))]) C dX4_isWord_31 rfl (by decide) rfl 32 rfl ?_
    refine j_sub [2, 3, 1, 0] rfl ?_
    exact hL32 FU 0 0 S hf
  · rw [if_pos c1] at hf
    refine j_aload_n C dX4_isWord_8 rfl 0 rfl 9 rfl ?_
    refine j4_get C 13 (by decide) qf_X4_282 (v := .int (S 0 13)) rfl dX4_isWord_9 12 rfl ?_
    refine j_aload_n C dX4_isWord_12 rfl 0 rfl 13 rfl ?_
    refine j4_get C 12 (by decide) qf_X4_285 (v := .int (S 0 12)) rfl dX4_isWord_13 16 rfl ?_
    refine j_isub C dX4_isWord_16 17 rfl ?_
    refine j_aload_n C dX4_isWord_17 rfl 1 rfl 18 rfl ?_
    refine j_callVi (As := []) (rest := [.int ((S 0 13) - (S 0 12))]) C (c_J0_length l g sz x S w1 hw1 _ rfl) (j_cwV C qc_J0_length_8abf5 qm_X4_297 qi_J0_length_8abf5 qs_J0_length_8abf5 qn_J0 hd_J0_length_8abf5 ⟨rfl, rfl⟩ ⟨by decide, by decide⟩) (fun H locs _ hS => vk_recv C.2.2.2.1 hw1 hS) rfl (Nat.le_of_ble_eq_true rfl) dX4_isWord_18 21 rfl ?_
    refine j_icmp_ne C dX4_isWord_21 28 (by decide) 24 rfl (fun c9 => ?_) (fun c9 => ?_)
    · rw [if_neg c9] at hf
      refine j_iconst C dX4_isWord_28 (v := 0) c_iconst_0 29 rfl ?_
      refine j_istore_n (lv2 := [(2, .int 0), (0, .ref (ad g 56)), (1, .ref (adK g w1))]) C dX4_isWord_29 rfl (by decide) rfl 30 rfl ?_
      refine j_iconst C dX4_isWord_30 (v := 0) c_iconst_0 31 rfl ?_
      refine j_istore_n (lv2 := [(3, .int 0), (2, .int 0), (0, .ref (ad g 56)), (1, .ref (adK g w1))]) C dX4_isWord_31 rfl (by decide) rfl 32 rfl ?_
      refine j_sub [2, 3, 1, 0] rfl ?_
      exact hL32 FU 0 0 S hf
    · rw [if_pos c9] at hf
      refine j_iconst C dX4_isWord_24 (v := 1) c_iconst_1 25 rfl ?_
      refine j_goto C dX4_isWord_25 29 (by decide) ?_
      refine j_istore_n (lv2 := [(2, .int 1), (0, .ref (ad g 56)), (1, .ref (adK g w1))]) C dX4_isWord_29 rfl (by decide) rfl 30 rfl ?_
      refine j_iconst C dX4_isWord_30 (v := 0) c_iconst_0 31 rfl ?_
      refine j_istore_n (lv2 := [(3, .int 0), (2, .int 1), (0, .ref (ad g 56)), (1, .ref (adK g w1))]) C dX4_isWord_31 rfl (by decide) rfl 32 rfl ?_
      refine j_sub [2, 3, 1, 0] rfl ?_
      exact hL32 FU 1 0 S hf
set_option maxRecDepth 100000 in
set_option maxHeartbeats 4000000 in
theorem c_X4_must (l : Launch) (g : GG) (sz : Nat) (x S : St) (a1 : Int32) (S' : St) (hf : X4_must a1 S = some S') : Met l yX4_must (.code yX4_must cX4_must 2 none :: ALLW) (rmJ 2 43) (PcJ g sz x S [.ref (ad g 56), .int a1]) (QvJ g sz x S') 0 0 (Ag sz) := by
  refine j_met (own := RX4) (by decide) rfl (Nat.le_of_ble_eq_true rfl) rfl ?_
  intro p e s m args below meth c C hr hlk
  have hL17 : ∀ (t0 : Int32) (S : St), X4_must_L17 t0 S = some S' → Wj p l e (rmJ 2 43) s m args below meth c (MQ below (QvJ g sz x S') args s 0 0 (Ag sz)) 2 g sz x S 17 [(0, .ref (ad g 56))] [.int t0, .ref (ad g 56)] := by
    intro  t0 S hf
    unfold X4_must_L17 at hf
    obtain ⟨v2, hv2, hf⟩ := bnd hf
    obtain ⟨S3, hS3, hf⟩ := bnd hf
    refine j4_putz C 16 rfl rfl rfl qf_X4_304 (bl_ok hv2).2 dX4_must_17 20 rfl ?_
    rw [Option.some.inj hS3]
    refine j_aload_n C dX4_must_20 rfl 0 rfl 21 rfl ?_
    refine j4_get C 16 (by decide) qf_X4_304 (v := .int (S3 0 16)) rfl dX4_must_21 24 rfl ?_
    refine j_if_ne C dX4_must_24 31 (by decide) 27 rfl (fun c4 => ?_) (fun c4 => ?_)
    · rw [if_neg c4] at hf
      obtain rfl := Option.some.inj hf
      exact j_vret C hr hlk dX4_must_31
    · rw [if_pos c4] at hf
      refine j_aload_n C dX4_must_27 rfl 0 rfl 28 rfl ?_
      obtain ⟨S5, hS5, hf⟩ := bnd hf
      refine j_callVv (As := []) (rest := []) C (c_X4_next l g sz x S3   _ hS5) (j_cwV C qc_X4_next qm_X4_308 qi_X4_next qs_X4_next qn_X4 hd_X4_next ⟨rfl, rfl⟩ ⟨by decide, by decide⟩) (rcv_mo.cell C.2) rfl (Nat.le_of_ble_eq_true rfl) dX4_must_28 31 rfl ?_
      obtain rfl := Option.some.inj hf
      exact j_vret C hr hlk dX4_must_31
  have hL12 : ∀ (S : St), X4_must_L12 S = some S' → Wj p l e (rmJ 2 43) s m args below meth c (MQ below (QvJ g sz x S') args s 0 0 (Ag sz)) 2 g sz x S 12 [(0, .ref (ad g 56))] [.ref (ad g 56)] := by
    intro  S hf
    unfold X4_must_L12 at hf
    refine j_iconst C dX4_must_12 (v := 1) c_iconst_1 13 rfl ?_
    refine j_goto C dX4_must_13 17 (by decide) ?_
    exact hL17 1 S hf
  unfold X4_must at hf
  refine j_aload_n C dX4_must_0 rfl 0 rfl 1 rfl ?_
  refine j_aload_n C dX4_must_1 rfl 0 rfl 2 rfl ?_
  refine j4_get C 16 (by decide) qf_X4_304 (v := .int (S 0 16)) rfl dX4_must_2 5 rfl ?_
  refine j_if_ne C dX4_must_5 12 (by decide) 8 rfl (fun c1 => ?_) (fun c1 => ?_)
  · rw [if_neg c1] at hf
    refine j_sub [0] rfl ?_
    exact hL12 S hf
  · rw [if_pos c1] at hf
    refine j_iload_n C dX4_must_8 rfl 1 rfl 9 rfl ?_
    refine j_if_ne C dX4_must_9 16 (by decide) 12 rfl (fun c6 => ?_) (fun c6 => ?_)
    · rw [if_neg c6] at hf
      refine j_iconst C dX4_must_16 (v := 0) c_iconst_0 17 rfl ?_
      refine j_sub [0] rfl ?_
      exact hL17 0 S hf
    · rw [if_pos c6] at hf
      refine j_sub [0] rfl ?_
      exact hL12 S hf
set_option maxRecDepth 100000 in
set_option maxHeartbeats 4000000 in
theorem c_X4_number (l : Launch) (g : GG) (sz : Nat) (x S : St) (a1 : Int32) (a2 : Int32) (r : Int32) (S' : St) (hf : X4_number a1 a2 S = some (r, S')) : Met l yX4_number (.code yX4_number cX4_number 4 (some .int) :: ALLW) (rmJ 3 64) (PcJ g sz x S [.ref (ad g 56), .int a1, .int a2]) (QiJ g sz r x S') 0 0 (Ag sz) := by
  refine j_met (own := RX4) (by decide) rfl (Nat.le_of_ble_eq_true rfl) rfl ?_
  intro p e s m args below meth c C hr hlk
  unfold X4_number at hf
  refine j_aload_n C dX4_number_0 rfl 0 rfl 1 rfl ?_
  refine j4_get C 15 (by decide) qf_X4_291 (v := .int (S 0 15)) rfl dX4_number_1 4 rfl ?_
  refine j_istore_n (lv2 := [(3, .int (S 0 15)), (0, .ref (ad g 56)), (1, .int a1), (2, .int a2)]) C dX4_number_4 rfl (by decide) rfl 5 rfl ?_
  refine j_aload_n C dX4_number_5 rfl 1 rfl 6 rfl ?_
  refine j_aload_n C dX4_number_6 rfl 1 rfl 7 rfl ?_
  refine j4_get C 14 (by decide) qf_X4_294 (v := .int (S 0 14)) rfl dX4_number_7 10 rfl ?_
  refine j_iconst C dX4_number_10 (v := 2) c_iconst_2 11 rfl ?_
  refine j_icmp_ne C dX4_number_11 27 (by decide) 14 rfl (fun c1 => ?_) (fun c1 => ?_)
  · rw [if_neg c1] at hf
    refine j_iconst C dX4_number_27 (v := 0) c_iconst_0 28 rfl ?_
    obtain ⟨S2, hS2, hf⟩ := bnd hf
    refine j_callVv (As := [.int 0]) (rest := []) C (c_X4_must l g sz x S  0 _ hS2) (j_cwV C qc_X4_must qm_X4_311 qi_X4_must qs_X4_must qn_X4 hd_X4_must ⟨rfl, rfl⟩ ⟨by decide, by decide⟩) (rcv_mo.cell C.2) rfl (Nat.le_of_ble_eq_true rfl) dX4_number_28 31 rfl ?_
    refine j_iload_n C dX4_number_31 rfl 0 rfl 32 rfl ?_
    obtain ⟨rfl, rfl⟩ := Prod.mk.inj (Option.some.inj hf)
    exact j_iret C hr hlk dX4_number_32
  · rw [if_pos c1] at hf
    refine j_iload_n C dX4_number_14 rfl 0 rfl 15 rfl ?_
    refine j_iload_n C dX4_number_15 rfl 2 rfl 16 rfl ?_
    refine j_iload_n C dX4_number_16 rfl 3 rfl 17 rfl ?_
    refine j_callSi (As := [.int (S 0 15), .int a1, .int a2]) (rest := [.ref (ad g 56)]) C (c_X4_within l g sz x S (S 0 15) a1 a2 _ rfl) (j_cwS C qc_X4_within qm_X4_77 qs_X4_within qn_X4 hd_X4_within ⟨rfl, rfl⟩ ⟨by decide, by decide⟩)  rfl (Nat.le_of_ble_eq_true rfl) dX4_number_17 20 rfl ?_
    refine j_if_eq C dX4_number_20 27 (by decide) 23 rfl (fun c3 => ?_) (fun c3 => ?_)
    · rw [if_pos c3] at hf
      refine j_iconst C dX4_number_27 (v := 0) c_iconst_0 28 rfl ?_
      obtain ⟨S4, hS4, hf⟩ := bnd hf
      refine j_callVv (As := [.int 0]) (rest := []) C (c_X4_must l g sz x S  0 _ hS4) (j_cwV C qc_X4_must qm_X4_311 qi_X4_must qs_X4_must qn_X4 hd_X4_must ⟨rfl, rfl⟩ ⟨by decide, by decide⟩) (rcv_mo.cell C.2) rfl (Nat.le_of_ble_eq_true rfl) dX4_number_28 31 rfl ?_
      refine j_iload_n C dX4_number_31 rfl 0 rfl 32 rfl ?_
      obtain ⟨rfl, rfl⟩ := Prod.mk.inj (Option.some.inj hf)
      exact j_iret C hr hlk dX4_number_32
    · rw [if_neg c3] at hf
      refine j_iconst C dX4_number_23 (v := 1) c_iconst_1 24 rfl ?_
      refine j_goto C dX4_number_24 28 (by decide) ?_
      obtain ⟨S5, hS5, hf⟩ := bnd hf
      refine j_callVv (As := [.int 1]) (rest := []) C (c_X4_must l g sz x S  1 _ hS5) (j_cwV C qc_X4_must qm_X4_311 qi_X4_must qs_X4_must qn_X4 hd_X4_must ⟨rfl, rfl⟩ ⟨by decide, by decide⟩) (rcv_mo.cell C.2) rfl (Nat.le_of_ble_eq_true rfl) dX4_number_28 31 rfl ?_
      refine j_iload_n C dX4_number_31 rfl 0 rfl 32 rfl ?_
      obtain ⟨rfl, rfl⟩ := Prod.mk.inj (Option.some.inj hf)
      exact j_iret C hr hlk dX4_number_32
set_option maxRecDepth 100000 in
set_option maxHeartbeats 4000000 in
theorem c_X4_item (l : Launch) (g : GG) (sz : Nat) (x S : St) (a1 : Int32) (a2 : Int32) (S' : St) (hf : X4_item a1 a2 S = some S') : Met l yX4_item (.code yX4_item cX4_item 3 none :: ALLW) (rmJ 0 0) (PcJ g sz x S [.ref (ad g 56), .int a1, .int a2]) (QvJ g sz x S') 0 0 (Ag sz) := by
  refine j_met (own := RX4) (by decide) rfl (Nat.le_of_ble_eq_true rfl) rfl ?_
  intro p e s m args below meth c C hr hlk
  unfold X4_item at hf
  refine j_aload_n C dX4_item_0 rfl 0 rfl 1 rfl ?_
  refine j4_get C 19 (by decide) qf_X4_54 (v := .ref (ad g 64)) rfl dX4_item_1 4 rfl ?_
  refine j_iconst C dX4_item_4 (v := 2) c_iconst_2 5 rfl ?_
  refine j_aload_n C dX4_item_5 rfl 0 rfl 6 rfl ?_
  refine j4_get C 20 (by decide) qf_X4_315 (v := .int (S 0 20)) rfl dX4_item_6 9 rfl ?_
  refine j_imul C dX4_item_9 10 rfl ?_
  refine j_iload_n C dX4_item_10 rfl 1 rfl 11 rfl ?_
  obtain ⟨S1, hS1, hf⟩ := bnd hf
  refine j4_ast 8 rfl C hS1 dX4_item_11 12 rfl ?_
  refine j_aload_n C dX4_item_12 rfl 0 rfl 13 rfl ?_
  refine j4_get C 19 (by decide) qf_X4_54 (v := .ref (ad g 64)) rfl dX4_item_13 16 rfl ?_
  refine j_iconst C dX4_item_16 (v := 2) c_iconst_2 17 rfl ?_
  refine j_aload_n C dX4_item_17 rfl 0 rfl 18 rfl ?_
  refine j4_get C 20 (by decide) qf_X4_315 (v := .int (S1 0 20)) rfl dX4_item_18 21 rfl ?_
  refine j_imul C dX4_item_21 22 rfl ?_
  refine j_iconst C dX4_item_22 (v := 1) c_iconst_1 23 rfl ?_
  refine j_iadd C dX4_item_23 24 rfl ?_
  refine j_iload_n C dX4_item_24 rfl 2 rfl 25 rfl ?_
  obtain ⟨S2, hS2, hf⟩ := bnd hf
  refine j4_ast 8 rfl C hS2 dX4_item_25 26 rfl ?_
  refine j_aload_n C dX4_item_26 rfl 0 rfl 27 rfl ?_
  refine j_dup C dX4_item_27 rfl 28 rfl ?_
  refine j4_get C 20 (by decide) qf_X4_315 (v := .int (S2 0 20)) rfl dX4_item_28 31 rfl ?_
  refine j_iconst C dX4_item_31 (v := 1) c_iconst_1 32 rfl ?_
  refine j_iadd C dX4_item_32 33 rfl ?_
  obtain ⟨S3, hS3, hf⟩ := bnd hf
  refine j4_put C 20 rfl rfl rfl qf_X4_315 dX4_item_33 36 rfl ?_
  rw [Option.some.inj hS3]
  obtain rfl := Option.some.inj hf
  exact j_vret C hr hlk dX4_item_36
set_option maxRecDepth 100000 in
set_option maxHeartbeats 4000000 in
theorem c_X4_which (l : Launch) (g : GG) (sz : Nat) (x S : St) (q1 : Nat) (hq1 : isSA q1 = true) (r : Int32) (hf : X4_which q1 S = some r) : Met l yX4_which (.code yX4_which cX4_which 4 (some .int) :: ALLW) (rmJ 5 108) (PcJ g sz x S [.ref (ad g 56), .ref (ad g (56 + q1))]) (QiJ g sz r x S) 0 0 (Ag sz) := by
  refine j_met (own := RX4) (by decide) rfl (Nat.le_of_ble_eq_true rfl) rfl ?_
  intro p e s m args below meth c C hr hlk
  have hL4 : ∀ (n : Nat), ∀ (b2 : Int32) (b3 : Int32) (S : St), X4_which_L4 q1 n b2 b3 S = some r → Wj p l e (rmJ 5 108) s m args below meth c (MQ below (QiJ g sz r x S) args s 0 0 (Ag sz)) 4 g sz x S 4 [(0, .ref (ad g 56)), (1, .ref (ad g (56 + q1))), (2, .int b2), (3, .int b3)] [] := by
    intro  n
    induction n with
    | zero =>
      intro b2 b3 S hf
      rw [X4_which_L4] at hf
      cases hf
    | succ n ih =>
      intro b2 b3 S hf
      rw [X4_which_L4] at hf
      refine j_iload_n C dX4_which_4 rfl 3 rfl 5 rfl ?_
      refine j_aload_n C dX4_which_5 rfl 1 rfl 6 rfl ?_
      refine j4_wlen C q1 hq1 dX4_which_6 7 rfl ?_
      refine j_icmp_ge C dX4_which_7 32 (by decide) 10 rfl (fun c1 => ?_) (fun c1 => ?_)
      · rw [if_pos c1] at hf
        refine j_iload_n C dX4_which_32 rfl 2 rfl 33 rfl ?_
        obtain rfl := Option.some.inj hf
        exact j_iret C hr hlk dX4_which_33
      · rw [if_neg c1] at hf
        refine j_aload_n C dX4_which_10 rfl 0 rfl 11 rfl ?_
        refine j_aload_n C dX4_which_11 rfl 1 rfl 12 rfl ?_
        refine j_iload_n C dX4_which_12 rfl 3 rfl 13 rfl ?_
        obtain ⟨w2, hw2, hf⟩ := bnd hf
        refine j4_words C q1 hq1 hw2 dX4_which_13 14 rfl ?_
        obtain ⟨r3, hr3, hf⟩ := bnd hf
        refine j_callVi (As := [.ref (adK g w2)]) (rest := []) C (c_X4_isWord l g sz x S  w2 (stb_ok hq1 hw2) _ hr3) (j_cwV C qc_X4_isWord qm_X4_318 qi_X4_isWord qs_X4_isWord qn_X4 hd_X4_isWord ⟨rfl, rfl⟩ ⟨by decide, by decide⟩) (rcv_mo.cell C.2) rfl (Nat.le_of_ble_eq_true rfl) dX4_which_14 17 rfl ?_
        refine j_if_eq C dX4_which_17 24 (by decide) 20 rfl (fun c4 => ?_) (fun c4 => ?_)
        · rw [if_pos c4] at hf
          refine j_iload_n C dX4_which_24 rfl 2 rfl 25 rfl ?_
          refine j_istore_n (lv2 := [(2, .int b2), (0, .ref (ad g 56)), (1, .ref (ad g (56 + q1))), (3, .int b3)]) C dX4_which_25 rfl (by decide) rfl 26 rfl ?_
          refine j_iinc (lv2 := [(3, .int (b3 + 1)), (2, .int b2), (0, .ref (ad g 56)), (1, .ref (ad g (56 + q1)))]) C dX4_which_26 (k := 3) rfl (congrArg (HAdd.hAdd b3) c_oi_1) (by decide) rfl 29 rfl ?_
          refine j_goto C dX4_which_29 4 (by decide) ?_
          refine j_sub [2, 3, 1, 0] rfl ?_
          exact ih b2 (b3 + 1) S hf
        · rw [if_neg c4] at hf
          refine j_iload_n C dX4_which_20 rfl 3 rfl 21 rfl ?_
          refine j_goto C dX4_which_21 25 (by decide) ?_
          refine j_istore_n (lv2 := [(2, .int b3), (0, .ref (ad g 56)), (1, .ref (ad g (56 + q1))), (3, .int b3)]) C dX4_which_25 rfl (by decide) rfl 26 rfl ?_
          refine j_iinc (lv2 := [(3, .int (b3 + 1)), (2, .int b3), (0, .ref (ad g 56)), (1, .ref (ad g (56 + q1)))]) C dX4_which_26 (k := 3) rfl (congrArg (HAdd.hAdd b3) c_oi_1) (by decide) rfl 29 rfl ?_
          refine j_goto C dX4_which_29 4 (by decide) ?_
          refine j_sub [2, 3, 1, 0] rfl ?_
          exact ih b3 (b3 + 1) S hf
  unfold X4_which at hf
  refine j_iconst C dX4_which_0 (v := (-1)) c_iconst_m1 1 rfl ?_
  refine j_istore_n (lv2 := [(2, .int (-1)), (0, .ref (ad g 56)), (1, .ref (ad g (56 + q1)))]) C dX4_which_1 rfl (by decide) rfl 2 rfl ?_
  refine j_iconst C dX4_which_2 (v := 0) c_iconst_0 3 rfl ?_
  refine j_istore_n (lv2 := [(3, .int 0), (2, .int (-1)), (0, .ref (ad g 56)), (1, .ref (ad g (56 + q1)))]) C dX4_which_3 rfl (by decide) rfl 4 rfl ?_
  refine j_sub [2, 3, 1, 0] rfl ?_
  exact hL4 FU (-1) 0 S hf
set_option maxRecDepth 100000 in
set_option maxHeartbeats 4000000 in
theorem c_X4_readCell (l : Launch) (g : GG) (sz : Nat) (x S : St) (r : Int32) (S' : St) (hf : X4_readCell S = some (r, S')) : Met l yX4_readCell (.code yX4_readCell cX4_readCell 4 (some .int) :: ALLW) (rmJ 4 87) (PcJ g sz x S [.ref (ad g 56)]) (QiJ g sz r x S') 0 0 (Ag sz) := by
  refine j_met (own := RX4) (by decide) rfl (Nat.le_of_ble_eq_true rfl) rfl ?_
  intro p e s m args below meth c C hr hlk
  have hL55 : ∀ (b1 : Int32) (b2 : Int32) (t0 : Int32) (S : St), X4_readCell_L55 b1 b2 t0 S = some (r, S') → Wj p l e (rmJ 4 87) s m args below meth c (MQ below (QiJ g sz r x S') args s 0 0 (Ag sz)) 4 g sz x S 55 [(0, .ref (ad g 56)), (1, .int b1), (2, .int b2)] [.int t0] := by
    intro  b1 b2 t0 S hf
    unfold X4_readCell_L55 at hf
    refine j_istore_n (lv2 := [(3, .int t0), (0, .ref (ad g 56)), (1, .int b1), (2, .int b2)]) C dX4_readCell_55 rfl (by decide) rfl 56 rfl ?_
    refine j_aload_n C dX4_readCell_56 rfl 1 rfl 57 rfl ?_
    refine j_iload_n C dX4_readCell_57 rfl 0 rfl 58 rfl ?_
    obtain ⟨S5, hS5, hf⟩ := bnd hf
    refine j_callVv (As := [.int t0]) (rest := []) C (c_X4_must l g sz x S  t0 _ hS5) (j_cwV C qc_X4_must qm_X4_311 qi_X4_must qs_X4_must qn_X4 hd_X4_must ⟨rfl, rfl⟩ ⟨by decide, by decide⟩) (rcv_mo.cell C.2) rfl (Nat.le_of_ble_eq_true rfl) dX4_readCell_58 61 rfl ?_
    refine j_iload_n C dX4_readCell_61 rfl 0 rfl 62 rfl ?_
    refine j_if_eq C dX4_readCell_62 79 (by decide) 65 rfl (fun c6 => ?_) (fun c6 => ?_)
    · rw [if_pos c6] at hf
      refine j_bipush C dX4_readCell_79 (v := 10) c_bipush_10 81 rfl ?_
      refine j_iload_n C dX4_readCell_81 rfl 2 rfl 82 rfl ?_
      refine j_imul C dX4_readCell_82 83 rfl ?_
      refine j_iload_n C dX4_readCell_83 rfl 3 rfl 84 rfl ?_
      refine j_iadd C dX4_readCell_84 85 rfl ?_
      obtain ⟨rfl, rfl⟩ := Prod.mk.inj (Option.some.inj hf)
      exact j_iret C hr hlk dX4_readCell_85
    · rw [if_neg c6] at hf
      refine j_aload_n C dX4_readCell_65 rfl 1 rfl 66 rfl ?_
      refine j4_get C 22 (by decide) qf_X4_57 (v := .ref (ad g 65)) rfl dX4_readCell_66 69 rfl ?_
      refine j_iload_n C dX4_readCell_69 rfl 2 rfl 70 rfl ?_
      refine j_iload_n C dX4_readCell_70 rfl 3 rfl 71 rfl ?_
      refine j_callSi (As := [.int b1, .int b2]) (rest := [.ref (ad g 65)]) C (c_X4_cellOf l g sz x S5 b1 b2 _ rfl) (j_cwS C qc_X4_cellOf qm_X4_119 qs_X4_cellOf qn_X4 hd_X4_cellOf ⟨rfl, rfl⟩ ⟨by decide, by decide⟩)  rfl (Nat.le_of_ble_eq_true rfl) dX4_readCell_71 74 rfl ?_
      refine j_dup2 C dX4_readCell_74 rfl rfl 75 rfl ?_
      obtain ⟨v7, hv7, hf⟩ := bnd hf
      refine j4_ald 9 rfl C hv7 dX4_readCell_75 76 rfl ?_
      refine j_iconst C dX4_readCell_76 (v := 1) c_iconst_1 77 rfl ?_
      refine j_iadd C dX4_readCell_77 78 rfl ?_
      obtain ⟨S8, hS8, hf⟩ := bnd hf
      refine j4_ast 9 rfl C hS8 dX4_readCell_78 79 rfl ?_
      refine j_bipush C dX4_readCell_79 (v := 10) c_bipush_10 81 rfl ?_
      refine j_iload_n C dX4_readCell_81 rfl 2 rfl 82 rfl ?_
      refine j_imul C dX4_readCell_82 83 rfl ?_
      refine j_iload_n C dX4_readCell_83 rfl 3 rfl 84 rfl ?_
      refine j_iadd C dX4_readCell_84 85 rfl ?_
      obtain ⟨rfl, rfl⟩ := Prod.mk.inj (Option.some.inj hf)
      exact j_iret C hr hlk dX4_readCell_85
  have hL54 : ∀ (b1 : Int32) (b2 : Int32) (S : St), X4_readCell_L54 b1 b2 S = some (r, S') → Wj p l e (rmJ 4 87) s m args below meth c (MQ below (QiJ g sz r x S') args s 0 0 (Ag sz)) 4 g sz x S 54 [(0, .ref (ad g 56)), (1, .int b1), (2, .int b2)] [] := by
    intro  b1 b2 S hf
    unfold X4_readCell_L54 at hf
    refine j_iconst C dX4_readCell_54 (v := 0) c_iconst_0 55 rfl ?_
    exact hL55 b1 b2 0 S hf
  unfold X4_readCell at hf
  refine j_aload_n C dX4_readCell_0 rfl 0 rfl 1 rfl ?_
  refine j_iconst C dX4_readCell_1 (v := 0) c_iconst_0 2 rfl ?_
  refine j_bipush C dX4_readCell_2 (v := 6) c_bipush_6 4 rfl ?_
  obtain ⟨⟨r2, S3⟩, hq1, hf⟩ := bnd hf
  dsimp only at hf
  refine j_callVi (As := [.int 0, .int 6]) (rest := []) C (c_X4_number l g sz x S  0 6 _ _ hq1) (j_cwV C qc_X4_number qm_X4_337 qi_X4_number qs_X4_number qn_X4 hd_X4_number ⟨rfl, rfl⟩ ⟨by decide, by decide⟩) (rcv_mo.cell C.2) rfl (Nat.le_of_ble_eq_true rfl) dX4_readCell_4 7 rfl ?_
  refine j_istore_n (lv2 := [(1, .int r2), (0, .ref (ad g 56))]) C dX4_readCell_7 rfl (by decide) rfl 8 rfl ?_
  refine j_aload_n C dX4_readCell_8 rfl 1 rfl 9 rfl ?_
  refine j4_get C 15 (by decide) qf_X4_291 (v := .int (S3 0 15)) rfl dX4_readCell_9 12 rfl ?_
  refine j_istore_n (lv2 := [(2, .int (S3 0 15)), (1, .int r2), (0, .ref (ad g 56))]) C dX4_readCell_12 rfl (by decide) rfl 13 rfl ?_
  refine j_aload_n C dX4_readCell_13 rfl 2 rfl 14 rfl ?_
  refine j4_get C 16 (by decide) qf_X4_304 (v := .int (S3 0 16)) rfl dX4_readCell_14 17 rfl ?_
  refine j_if_ne C dX4_readCell_17 54 (by decide) 20 rfl (fun c4 => ?_) (fun c4 => ?_)
  · rw [if_neg c4] at hf
    refine j_sub [2, 1, 0] rfl ?_
    exact hL54 r2 (S3 0 15) S3 hf
  · rw [if_pos c4] at hf
    refine j_aload_n C dX4_readCell_20 rfl 2 rfl 21 rfl ?_
    refine j4_get C 14 (by decide) qf_X4_294 (v := .int (S3 0 14)) rfl dX4_readCell_21 24 rfl ?_
    refine j_iconst C dX4_readCell_24 (v := 2) c_iconst_2 25 rfl ?_
    refine j_icmp_ne C dX4_readCell_25 54 (by decide) 28 rfl (fun c9 => ?_) (fun c9 => ?_)
    · rw [if_neg c9] at hf
      refine j_sub [2, 1, 0] rfl ?_
      exact hL54 r2 (S3 0 15) S3 hf
    · rw [if_pos c9] at hf
      refine j_iload_n C dX4_readCell_28 rfl 1 rfl 29 rfl ?_
      refine j_iload_n C dX4_readCell_29 rfl 0 rfl 30 rfl ?_
      refine j_callSi (As := [.int r2, .int (S3 0 15)]) (rest := []) C (c_X4_isCell l g sz x S3 r2 (S3 0 15) _ rfl) (j_cwS C qc_X4_isCell qm_X4_134 qs_X4_isCell qn_X4 hd_X4_isCell ⟨rfl, rfl⟩ ⟨by decide, by decide⟩)  rfl (Nat.le_of_ble_eq_true rfl) dX4_readCell_30 33 rfl ?_
      refine j_if_eq C dX4_readCell_33 54 (by decide) 36 rfl (fun c10 => ?_) (fun c10 => ?_)
      · rw [if_pos c10] at hf
        refine j_sub [2, 1, 0] rfl ?_
        exact hL54 r2 (S3 0 15) S3 hf
      · rw [if_neg c10] at hf
        refine j_aload_n C dX4_readCell_36 rfl 2 rfl 37 rfl ?_
        refine j4_get C 22 (by decide) qf_X4_57 (v := .ref (ad g 65)) rfl dX4_readCell_37 40 rfl ?_
        refine j_iload_n C dX4_readCell_40 rfl 1 rfl 41 rfl ?_
        refine j_iload_n C dX4_readCell_41 rfl 0 rfl 42 rfl ?_
        refine j_callSi (As := [.int r2, .int (S3 0 15)]) (rest := [.ref (ad g 65)]) C (c_X4_cellOf l g sz x S3 r2 (S3 0 15) _ rfl) (j_cwS C qc_X4_cellOf qm_X4_119 qs_X4_cellOf qn_X4 hd_X4_cellOf ⟨rfl, rfl⟩ ⟨by decide, by decide⟩)  rfl (Nat.le_of_ble_eq_true rfl) dX4_readCell_42 45 rfl ?_
        obtain ⟨v11, hv11, hf⟩ := bnd hf
        refine j4_ald 9 rfl C hv11 dX4_readCell_45 46 rfl ?_
        refine j_iconst C dX4_readCell_46 (v := 4) c_iconst_4 47 rfl ?_
        refine j_icmp_ge C dX4_readCell_47 54 (by decide) 50 rfl (fun c12 => ?_) (fun c12 => ?_)
        · rw [if_pos c12] at hf
          refine j_sub [2, 1, 0] rfl ?_
          exact hL54 r2 (S3 0 15) S3 hf
        · rw [if_neg c12] at hf
          refine j_iconst C dX4_readCell_50 (v := 1) c_iconst_1 51 rfl ?_
          refine j_goto C dX4_readCell_51 55 (by decide) ?_
          refine j_sub [2, 1, 0] rfl ?_
          exact hL55 r2 (S3 0 15) 1 S3 hf
set_option maxRecDepth 100000 in
set_option maxHeartbeats 4000000 in
theorem c_X4_readItem (l : Launch) (g : GG) (sz : Nat) (x S : St) (S' : St) (hf : X4_readItem S = some S') : Met l yX4_readItem (.code yX4_readItem cX4_readItem 4 none :: ALLW) (rmJ 6 131) (PcJ g sz x S [.ref (ad g 56)]) (QvJ g sz x S') 0 0 (Ag sz) := by
  refine j_met (own := RX4) (by decide) rfl (Nat.le_of_ble_eq_true rfl) rfl ?_
  intro p e s m args below meth c C hr hlk
  have hL133 : ∀ (b2 : Int32) (t0 : Int32) (t1 : Int32) (S : St), X4_readItem_L133 b2 t0 t1 S = some S' → Wj p l e (rmJ 6 131) s m args below meth c (MQ below (QvJ g sz x S') args s 0 0 (Ag sz)) 4 g sz x S 133 [(0, .ref (ad g 56)), (2, .int b2)] [.int t0, .int t1, .ref (ad g 56)] := by
    intro  b2 t0 t1 S hf
    unfold X4_readItem_L133 at hf
    obtain ⟨⟨r10, S11⟩, hq9, hf⟩ := bnd hf
    dsimp only at hf
    refine j_callVi (As := [.int t1, .int t0]) (rest := []) C (c_X4_number l g sz x S  t1 t0 _ _ hq9) (j_cwV C qc_X4_number qm_X4_337 qi_X4_number qs_X4_number qn_X4 hd_X4_number ⟨rfl, rfl⟩ ⟨by decide, by decide⟩) (rcv_mo.cell C.2) rfl (Nat.le_of_ble_eq_true rfl) dX4_readItem_133 136 rfl ?_
    refine j_istore_n (lv2 := [(3, .int r10), (0, .ref (ad g 56)), (2, .int b2)]) C dX4_readItem_136 rfl (by decide) rfl 137 rfl ?_
    refine j_aload_n C dX4_readItem_137 rfl 1 rfl 138 rfl ?_
    refine j_bipush C dX4_readItem_138 (v := 10) c_bipush_10 140 rfl ?_
    refine j_iload_n C dX4_readItem_140 rfl 2 rfl 141 rfl ?_
    refine j_iadd C dX4_readItem_141 142 rfl ?_
    refine j_iload_n C dX4_readItem_142 rfl 0 rfl 143 rfl ?_
    obtain ⟨S12, hS12, hf⟩ := bnd hf
    refine j_callVv (As := [.int (10 + b2), .int r10]) (rest := []) C (c_X4_item l g sz x S11  (10 + b2) r10 _ hS12) (j_cwV C qc_X4_item qm_X4_334 qi_X4_item qs_X4_item qn_X4 hd_X4_item ⟨rfl, rfl⟩ ⟨by decide, by decide⟩) (rcv_mo.cell C.2) rfl (Nat.le_of_ble_eq_true rfl) dX4_readItem_143 146 rfl ?_
    obtain rfl := Option.some.inj hf
    exact j_vret C hr hlk dX4_readItem_146
  have hL113 : ∀ (b2 : Int32) (t0 : Int32) (S : St), X4_readItem_L113 b2 t0 S = some S' → Wj p l e (rmJ 6 131) s m args below meth c (MQ below (QvJ g sz x S') args s 0 0 (Ag sz)) 4 g sz x S 113 [(0, .ref (ad g 56)), (2, .int b2)] [.int t0, .ref (ad g 56)] := by
    intro  b2 t0 S hf
    unfold X4_readItem_L113 at hf
    refine j_iload_n C dX4_readItem_113 rfl 1 rfl 114 rfl ?_
    refine j_if_ne C dX4_readItem_114 122 (by decide) 117 rfl (fun c7 => ?_) (fun c7 => ?_)
    · rw [if_neg c7] at hf
      refine j_iload_n C dX4_readItem_122 rfl 1 rfl 123 rfl ?_
      refine j_iconst C dX4_readItem_123 (v := 1) c_iconst_1 124 rfl ?_
      refine j_icmp_ne C dX4_readItem_124 132 (by decide) 127 rfl (fun c8 => ?_) (fun c8 => ?_)
      · rw [if_neg c8] at hf
        refine j_iconst C dX4_readItem_132 (v := 3) c_iconst_3 133 rfl ?_
        exact hL133 b2 3 t0 S hf
      · rw [if_pos c8] at hf
        refine j_bipush C dX4_readItem_127 (v := 6) c_bipush_6 129 rfl ?_
        refine j_goto C dX4_readItem_129 133 (by decide) ?_
        exact hL133 b2 6 t0 S hf
    · rw [if_pos c7] at hf
      refine j_bipush C dX4_readItem_117 (v := 60) c_bipush_60 119 rfl ?_
      refine j_goto C dX4_readItem_119 133 (by decide) ?_
      exact hL133 b2 60 t0 S hf
  have hL99 : ∀ (b2 : Int32) (t0 : Int32) (S : St), X4_readItem_L99 b2 t0 S = some S' → Wj p l e (rmJ 6 131) s m args below meth c (MQ below (QvJ g sz x S') args s 0 0 (Ag sz)) 4 g sz x S 99 [(0, .ref (ad g 56)), (2, .int b2)] [.int t0, .ref (ad g 56)] := by
    intro  b2 t0 S hf
    unfold X4_readItem_L99 at hf
    obtain ⟨S5, hS5, hf⟩ := bnd hf
    refine j_callVv (As := [.int t0]) (rest := []) C (c_X4_must l g sz x S  t0 _ hS5) (j_cwV C qc_X4_must qm_X4_311 qi_X4_must qs_X4_must qn_X4 hd_X4_must ⟨rfl, rfl⟩ ⟨by decide, by decide⟩) (rcv_mo.cell C.2) rfl (Nat.le_of_ble_eq_true rfl) dX4_readItem_99 102 rfl ?_
    refine j_aload_n C dX4_readItem_102 rfl 0 rfl 103 rfl ?_
    refine j_iload_n C dX4_readItem_103 rfl 1 rfl 104 rfl ?_
    refine j_iconst C dX4_readItem_104 (v := 1) c_iconst_1 105 rfl ?_
    refine j_icmp_ne C dX4_readItem_105 112 (by decide) 108 rfl (fun c6 => ?_) (fun c6 => ?_)
    · rw [if_neg c6] at hf
      refine j_iconst C dX4_readItem_112 (v := 0) c_iconst_0 113 rfl ?_
      exact hL113 b2 0 S5 hf
    · rw [if_pos c6] at hf
      refine j_iconst C dX4_readItem_108 (v := 1) c_iconst_1 109 rfl ?_
      refine j_goto C dX4_readItem_109 113 (by decide) ?_
      exact hL113 b2 1 S5 hf
  have hL37 : ∀ (b1 : Int32) (t0 : Int32) (S : St), X4_readItem_L37 b1 t0 S = some S' → Wj p l e (rmJ 6 131) s m args below meth c (MQ below (QvJ g sz x S') args s 0 0 (Ag sz)) 4 g sz x S 37 [(0, .ref (ad g 56)), (1, .int b1)] [.int t0, .ref (ad g 56)] := by
    intro  b1 t0 S hf
    unfold X4_readItem_L37 at hf
    obtain ⟨S14, hS14, hf⟩ := bnd hf
    refine j_callVv (As := [.int t0]) (rest := []) C (c_X4_must l g sz x S  t0 _ hS14) (j_cwV C qc_X4_must qm_X4_311 qi_X4_must qs_X4_must qn_X4 hd_X4_must ⟨rfl, rfl⟩ ⟨by decide, by decide⟩) (rcv_mo.cell C.2) rfl (Nat.le_of_ble_eq_true rfl) dX4_readItem_37 40 rfl ?_
    refine j_aload_n C dX4_readItem_40 rfl 0 rfl 41 rfl ?_
    refine j_dup C dX4_readItem_41 rfl 42 rfl ?_
    refine j4_get C 21 (by decide) qf_X4_326 (v := .int (S14 0 21)) rfl dX4_readItem_42 45 rfl ?_
    refine j_iconst C dX4_readItem_45 (v := 1) c_iconst_1 46 rfl ?_
    refine j_iadd C dX4_readItem_46 47 rfl ?_
    obtain ⟨S15, hS15, hf⟩ := bnd hf
    refine j4_put C 21 rfl rfl rfl qf_X4_326 dX4_readItem_47 50 rfl ?_
    rw [Option.some.inj hS15]
    refine j_bipush C dX4_readItem_50 (v := 100) c_bipush_100 52 rfl ?_
    refine j_istore_n (lv2 := [(3, .int 100), (0, .ref (ad g 56)), (1, .int b1)]) C dX4_readItem_52 rfl (by decide) rfl 53 rfl ?_
    refine j_aload_n C dX4_readItem_53 rfl 1 rfl 54 rfl ?_
    refine j4_get C 16 (by decide) qf_X4_304 (v := .int (S15 0 16)) rfl dX4_readItem_54 57 rfl ?_
    refine j_if_ne C dX4_readItem_57 80 (by decide) 60 rfl (fun c16 => ?_) (fun c16 => ?_)
    · rw [if_neg c16] at hf
      refine j_aload_n C dX4_readItem_80 rfl 1 rfl 81 rfl ?_
      refine j_iload_n C dX4_readItem_81 rfl 2 rfl 82 rfl ?_
      refine j_iload_n C dX4_readItem_82 rfl 0 rfl 83 rfl ?_
      obtain ⟨S17, hS17, hf⟩ := bnd hf
      refine j_callVv (As := [.int b1, .int 100]) (rest := []) C (c_X4_item l g sz x S15  b1 100 _ hS17) (j_cwV C qc_X4_item qm_X4_334 qi_X4_item qs_X4_item qn_X4 hd_X4_item ⟨rfl, rfl⟩ ⟨by decide, by decide⟩) (rcv_mo.cell C.2) rfl (Nat.le_of_ble_eq_true rfl) dX4_readItem_83 86 rfl ?_
      refine j_goto C dX4_readItem_86 146 (by decide) ?_
      obtain rfl := Option.some.inj hf
      exact j_vret C hr hlk dX4_readItem_146
    · rw [if_pos c16] at hf
      refine j_aload_n C dX4_readItem_60 rfl 1 rfl 61 rfl ?_
      refine j_ldcwS C (C.2.2.2.2.1 10 (by decide)).2 dX4_readItem_61 64 rfl ?_
      obtain ⟨r18, hr18, hf⟩ := bnd hf
      refine j_callVi (As := [.ref (adK g 10)]) (rest := []) C (c_X4_isWord l g sz x S15  10 (by decide) _ hr18) (j_cwV C qc_X4_isWord qm_X4_318 qi_X4_isWord qs_X4_isWord qn_X4 hd_X4_isWord ⟨rfl, rfl⟩ ⟨by decide, by decide⟩) (rcv_mo.cell C.2) rfl (Nat.le_of_ble_eq_true rfl) dX4_readItem_64 67 rfl ?_
      refine j_if_eq C dX4_readItem_67 80 (by decide) 70 rfl (fun c19 => ?_) (fun c19 => ?_)
      · rw [if_pos c19] at hf
        refine j_aload_n C dX4_readItem_80 rfl 1 rfl 81 rfl ?_
        refine j_iload_n C dX4_readItem_81 rfl 2 rfl 82 rfl ?_
        refine j_iload_n C dX4_readItem_82 rfl 0 rfl 83 rfl ?_
        obtain ⟨S20, hS20, hf⟩ := bnd hf
        refine j_callVv (As := [.int b1, .int 100]) (rest := []) C (c_X4_item l g sz x S15  b1 100 _ hS20) (j_cwV C qc_X4_item qm_X4_334 qi_X4_item qs_X4_item qn_X4 hd_X4_item ⟨rfl, rfl⟩ ⟨by decide, by decide⟩) (rcv_mo.cell C.2) rfl (Nat.le_of_ble_eq_true rfl) dX4_readItem_83 86 rfl ?_
        refine j_goto C dX4_readItem_86 146 (by decide) ?_
        obtain rfl := Option.some.inj hf
        exact j_vret C hr hlk dX4_readItem_146
      · rw [if_neg c19] at hf
        refine j_aload_n C dX4_readItem_70 rfl 1 rfl 71 rfl ?_
        refine j_iconst C dX4_readItem_71 (v := 1) c_iconst_1 72 rfl ?_
        obtain ⟨S21, hS21, hf⟩ := bnd hf
        refine j_callVv (As := [.int 1]) (rest := []) C (c_X4_must l g sz x S15  1 _ hS21) (j_cwV C qc_X4_must qm_X4_311 qi_X4_must qs_X4_must qn_X4 hd_X4_must ⟨rfl, rfl⟩ ⟨by decide, by decide⟩) (rcv_mo.cell C.2) rfl (Nat.le_of_ble_eq_true rfl) dX4_readItem_72 75 rfl ?_
        refine j_aload_n C dX4_readItem_75 rfl 1 rfl 76 rfl ?_
        obtain ⟨⟨r23, S24⟩, hq22, hf⟩ := bnd hf
        dsimp only at hf
        refine j_callVi (As := []) (rest := []) C (c_X4_readCell l g sz x S21   _ _ hq22) (j_cwV C qc_X4_readCell qm_X4_331 qi_X4_readCell qs_X4_readCell qn_X4 hd_X4_readCell ⟨rfl, rfl⟩ ⟨by decide, by decide⟩) (rcv_mo.cell C.2) rfl (Nat.le_of_ble_eq_true rfl) dX4_readItem_76 79 rfl ?_
        refine j_istore_n (lv2 := [(3, .int r23), (0, .ref (ad g 56)), (1, .int b1)]) C dX4_readItem_79 rfl (by decide) rfl 80 rfl ?_
        refine j_aload_n C dX4_readItem_80 rfl 1 rfl 81 rfl ?_
        refine j_iload_n C dX4_readItem_81 rfl 2 rfl 82 rfl ?_
        refine j_iload_n C dX4_readItem_82 rfl 0 rfl 83 rfl ?_
        obtain ⟨S25, hS25, hf⟩ := bnd hf
        refine j_callVv (As := [.int b1, .int r23]) (rest := []) C (c_X4_item l g sz x S24  b1 r23 _ hS25) (j_cwV C qc_X4_item qm_X4_334 qi_X4_item qs_X4_item qn_X4 hd_X4_item ⟨rfl, rfl⟩ ⟨by decide, by decide⟩) (rcv_mo.cell C.2) rfl (Nat.le_of_ble_eq_true rfl) dX4_readItem_83 86 rfl ?_
        refine j_goto C dX4_readItem_86 146 (by decide) ?_
        obtain rfl := Option.some.inj hf
        exact j_vret C hr hlk dX4_readItem_146
  unfold X4_readItem at hf
  refine j_aload_n C dX4_readItem_0 rfl 0 rfl 1 rfl ?_
  refine j_aload_n C dX4_readItem_1 rfl 0 rfl 2 rfl ?_
  refine j4_get C 17 (by decide) qf_X4_41 (v := .ref (ad g 62)) rfl dX4_readItem_2 5 rfl ?_
  obtain ⟨r1, hr1, hf⟩ := bnd hf
  refine j_callVi (As := [.ref (ad g 62)]) (rest := []) C (c_X4_which l g sz x S  6 rfl _ hr1) (j_cwV C qc_X4_which qm_X4_322 qi_X4_which qs_X4_which qn_X4 hd_X4_which ⟨rfl, rfl⟩ ⟨by decide, by decide⟩) (rcv_mo.cell C.2) rfl (Nat.le_of_ble_eq_true rfl) dX4_readItem_5 8 rfl ?_
  refine j_istore_n (lv2 := [(1, .int r1), (0, .ref (ad g 56))]) C dX4_readItem_8 rfl (by decide) rfl 9 rfl ?_
  refine j_aload_n C dX4_readItem_9 rfl 1 rfl 10 rfl ?_
  refine j_aload_n C dX4_readItem_10 rfl 1 rfl 11 rfl ?_
  refine j4_get C 18 (by decide) qf_X4_51 (v := .ref (ad g 63)) rfl dX4_readItem_11 14 rfl ?_
  obtain ⟨r2, hr2, hf⟩ := bnd hf
  refine j_callVi (As := [.ref (ad g 63)]) (rest := []) C (c_X4_which l g sz x S  7 rfl _ hr2) (j_cwV C qc_X4_which qm_X4_322 qi_X4_which qs_X4_which qn_X4 hd_X4_which ⟨rfl, rfl⟩ ⟨by decide, by decide⟩) (rcv_mo.cell C.2) rfl (Nat.le_of_ble_eq_true rfl) dX4_readItem_14 17 rfl ?_
  refine j_istore_n (lv2 := [(2, .int r2), (1, .int r1), (0, .ref (ad g 56))]) C dX4_readItem_17 rfl (by decide) rfl 18 rfl ?_
  refine j_iload_n C dX4_readItem_18 rfl 1 rfl 19 rfl ?_
  refine j_if_lt C dX4_readItem_19 89 (by decide) 22 rfl (fun c3 => ?_) (fun c3 => ?_)
  · rw [if_pos c3] at hf
    refine j_aload_n C dX4_readItem_89 rfl 2 rfl 90 rfl ?_
    refine j_iload_n C dX4_readItem_90 rfl 0 rfl 91 rfl ?_
    refine j_if_lt C dX4_readItem_91 98 (by decide) 94 rfl (fun c4 => ?_) (fun c4 => ?_)
    · rw [if_pos c4] at hf
      refine j_iconst C dX4_readItem_98 (v := 0) c_iconst_0 99 rfl ?_
      refine j_sub [2, 0] rfl ?_
      exact hL99 r2 0 S hf
    · rw [if_neg c4] at hf
      refine j_iconst C dX4_readItem_94 (v := 1) c_iconst_1 95 rfl ?_
      refine j_goto C dX4_readItem_95 99 (by decide) ?_
      refine j_sub [2, 0] rfl ?_
      exact hL99 r2 1 S hf
  · rw [if_neg c3] at hf
    refine j_aload_n C dX4_readItem_22 rfl 2 rfl 23 rfl ?_
    refine j_aload_n C dX4_readItem_23 rfl 2 rfl 24 rfl ?_
    refine j4_get C 21 (by decide) qf_X4_326 (v := .int (S 0 21)) rfl dX4_readItem_24 27 rfl ?_
    refine j_bipush C dX4_readItem_27 (v := 24) c_bipush_24 29 rfl ?_
    refine j_icmp_ge C dX4_readItem_29 36 (by decide) 32 rfl (fun c13 => ?_) (fun c13 => ?_)
    · rw [if_pos c13] at hf
      refine j_iconst C dX4_readItem_36 (v := 0) c_iconst_0 37 rfl ?_
      refine j_sub [2, 1] rfl ?_
      exact hL37 r1 0 S hf
    · rw [if_neg c13] at hf
      refine j_iconst C dX4_readItem_32 (v := 1) c_iconst_1 33 rfl ?_
      refine j_goto C dX4_readItem_33 37 (by decide) ?_
      refine j_sub [2, 1] rfl ?_
      exact hL37 r1 1 S hf
set_option maxRecDepth 100000 in
set_option maxHeartbeats 4000000 in
theorem c_X4_isSo (l : Launch) (g : GG) (sz : Nat) (x S : St) (a1 : Int32) (a2 : Int32) (S' : St) (hf : X4_isSo a1 a2 S = some S') : Met l yX4_isSo (.code yX4_isSo cX4_isSo 4 none :: ALLW) (rmJ 2 43) (PcJ g sz x S [.ref (ad g 56), .int a1, .int a2]) (QvJ g sz x S') 0 0 (Ag sz) := by
  refine j_met (own := RX4) (by decide) rfl (Nat.le_of_ble_eq_true rfl) rfl ?_
  intro p e s m args below meth c C hr hlk
  unfold X4_isSo at hf
  refine j_iload_n C dX4_isSo_0 rfl 1 rfl 1 rfl ?_
  refine j_bipush C dX4_isSo_1 (v := 10) c_bipush_10 3 rfl ?_
  refine j_icmp_lt C dX4_isSo_3 21 (by decide) 6 rfl (fun c1 => ?_) (fun c1 => ?_)
  · rw [if_pos c1] at hf
    refine j_aload_n C dX4_isSo_21 rfl 0 rfl 22 rfl ?_
    refine j_iload_n C dX4_isSo_22 rfl 1 rfl 23 rfl ?_
    obtain ⟨⟨r3, S4⟩, hq2, hf⟩ := bnd hf
    dsimp only at hf
    refine j_callVi (As := [.int a1]) (rest := []) C (c_X4_struck l g sz x S  a1 _ _ hq2) (j_cwV C qc_X4_struck qm_X4_103 qi_X4_struck qs_X4_struck qn_X4 hd_X4_struck ⟨rfl, rfl⟩ ⟨by decide, by decide⟩) (rcv_mo.cell C.2) rfl (Nat.le_of_ble_eq_true rfl) dX4_isSo_23 26 rfl ?_
    refine j_istore_n (lv2 := [(3, .int r3), (0, .ref (ad g 56)), (1, .int a1), (2, .int a2)]) C dX4_isSo_26 rfl (by decide) rfl 27 rfl ?_
    refine j_iload_n C dX4_isSo_27 rfl 3 rfl 28 rfl ?_
    refine j_bipush C dX4_isSo_28 (v := 100) c_bipush_100 30 rfl ?_
    refine j_icmp_ge C dX4_isSo_30 49 (by decide) 33 rfl (fun c5 => ?_) (fun c5 => ?_)
    · rw [if_pos c5] at hf
      obtain rfl := Option.some.inj hf
      exact j_vret C hr hlk dX4_isSo_49
    · rw [if_neg c5] at hf
      refine j_aload_n C dX4_isSo_33 rfl 1 rfl 34 rfl ?_
      refine j_iload_n C dX4_isSo_34 rfl 0 rfl 35 rfl ?_
      refine j_iload_n C dX4_isSo_35 rfl 3 rfl 36 rfl ?_
      refine j_bipush C dX4_isSo_36 (v := 10) c_bipush_10 38 rfl ?_
      refine j_idivc C dX4_isSo_38 (by decide) 39 rfl ?_
      refine j_iload_n C dX4_isSo_39 rfl 3 rfl 40 rfl ?_
      refine j_bipush C dX4_isSo_40 (v := 10) c_bipush_10 42 rfl ?_
      refine j_iremc C dX4_isSo_42 (by decide) 43 rfl ?_
      refine j_callSi (As := [.int (a2 / 10), .int (irm a2 10)]) (rest := [.int r3, .ref (ad g 56)]) C (c_X4_cellOf l g sz x S4 (a2 / 10) (irm a2 10) _ rfl) (j_cwS C qc_X4_cellOf qm_X4_119 qs_X4_cellOf qn_X4 hd_X4_cellOf ⟨rfl, rfl⟩ ⟨by decide, by decide⟩)  rfl (Nat.le_of_ble_eq_true rfl) dX4_isSo_43 46 rfl ?_
      obtain ⟨S6, hS6, hf⟩ := bnd hf
      refine j_callVv (As := [.int r3, .int (X4_cellOf (a2 / 10) (irm a2 10))]) (rest := []) C (c_X4_comesOn l g sz x S4  r3 (X4_cellOf (a2 / 10) (irm a2 10)) _ hS6) (j_cwV C qc_X4_comesOn qm_X4_138 qi_X4_comesOn qs_X4_comesOn qn_X4 hd_X4_comesOn ⟨rfl, rfl⟩ ⟨by decide, by decide⟩) (rcv_mo.cell C.2) rfl (Nat.le_of_ble_eq_true rfl) dX4_isSo_46 49 rfl ?_
      obtain rfl := Option.some.inj hf
      exact j_vret C hr hlk dX4_isSo_49
  · rw [if_neg c1] at hf
    refine j_aload_n C dX4_isSo_6 rfl 0 rfl 7 rfl ?_
    refine j4_get C 0 (by decide) qf_X4_9 (v := .ref (ad g 57)) rfl dX4_isSo_7 10 rfl ?_
    refine j_iconst C dX4_isSo_10 (v := 1) c_iconst_1 11 rfl ?_
    refine j_iload_n C dX4_isSo_11 rfl 1 rfl 12 rfl ?_
    refine j_iadd C dX4_isSo_12 13 rfl ?_
    refine j_bipush C dX4_isSo_13 (v := 10) c_bipush_10 15 rfl ?_
    refine j_isub C dX4_isSo_15 16 rfl ?_
    refine j_iload_n C dX4_isSo_16 rfl 2 rfl 17 rfl ?_
    obtain ⟨S7, hS7, hf⟩ := bnd hf
    refine j4_ast 1 rfl C hS7 dX4_isSo_17 18 rfl ?_
    refine j_goto C dX4_isSo_18 49 (by decide) ?_
    obtain rfl := Option.some.inj hf
    exact j_vret C hr hlk dX4_isSo_49
set_option maxRecDepth 100000 in
set_option maxHeartbeats 4000000 in
theorem c_X4_text (l : Launch) (g : GG) (sz : Nat) (x S : St) (r : Int32) (S' : St) (hf : X4_text S = some (r, S')) : Met l yX4_text (.code yX4_text cX4_text 2 (some .int) :: ALLW) (rmJ 7 154) (PcJ g sz x S [.ref (ad g 56)]) (QiJ g sz r x S') 0 0 (Ag sz) := by
  refine j_met (own := RX4) (by decide) rfl (Nat.le_of_ble_eq_true rfl) rfl ?_
  intro p e s m args below meth c C hr hlk
  have hL136 : ∀ (n : Nat), ∀ (b1 : Int32) (S : St), X4_text_L136 n b1 S = some (r, S') → Wj p l e (rmJ 7 154) s m args below meth c (MQ below (QiJ g sz r x S') args s 0 0 (Ag sz)) 2 g sz x S 136 [(0, .ref (ad g 56)), (1, .int b1)] [] := by
    intro  n
    induction n with
    | zero =>
      intro b1 S hf
      rw [X4_text_L136] at hf
      cases hf
    | succ n ih =>
      intro b1 S hf
      rw [X4_text_L136] at hf
      refine j_iload_n C dX4_text_136 rfl 1 rfl 137 rfl ?_
      refine j_aload_n C dX4_text_137 rfl 0 rfl 138 rfl ?_
      refine j4_get C 20 (by decide) qf_X4_315 (v := .int (S 0 20)) rfl dX4_text_138 141 rfl ?_
      refine j_icmp_ge C dX4_text_141 172 (by decide) 144 rfl (fun c14 => ?_) (fun c14 => ?_)
      · rw [if_pos c14] at hf
        refine j_aload_n C dX4_text_172 rfl 0 rfl 173 rfl ?_
        refine j4_get C 20 (by decide) qf_X4_315 (v := .int (S 0 20)) rfl dX4_text_173 176 rfl ?_
        obtain ⟨rfl, rfl⟩ := Prod.mk.inj (Option.some.inj hf)
        exact j_iret C hr hlk dX4_text_176
      · rw [if_neg c14] at hf
        refine j_aload_n C dX4_text_144 rfl 0 rfl 145 rfl ?_
        refine j_aload_n C dX4_text_145 rfl 0 rfl 146 rfl ?_
        refine j4_get C 19 (by decide) qf_X4_54 (v := .ref (ad g 64)) rfl dX4_text_146 149 rfl ?_
        refine j_iconst C dX4_text_149 (v := 2) c_iconst_2 150 rfl ?_
        refine j_iload_n C dX4_text_150 rfl 1 rfl 151 rfl ?_
        refine j_imul C dX4_text_151 152 rfl ?_
        obtain ⟨v15, hv15, hf⟩ := bnd hf
        refine j4_ald 8 rfl C hv15 dX4_text_152 153 rfl ?_
        refine j_aload_n C dX4_text_153 rfl 0 rfl 154 rfl ?_
        refine j4_get C 19 (by decide) qf_X4_54 (v := .ref (ad g 64)) rfl dX4_text_154 157 rfl ?_
        refine j_iconst C dX4_text_157 (v := 2) c_iconst_2 158 rfl ?_
        refine j_iload_n C dX4_text_158 rfl 1 rfl 159 rfl ?_
        refine j_imul C dX4_text_159 160 rfl ?_
        refine j_iconst C dX4_text_160 (v := 1) c_iconst_1 161 rfl ?_
        refine j_iadd C dX4_text_161 162 rfl ?_
        obtain ⟨v16, hv16, hf⟩ := bnd hf
        refine j4_ald 8 rfl C hv16 dX4_text_162 163 rfl ?_
        obtain ⟨S17, hS17, hf⟩ := bnd hf
        refine j_callVv (As := [.int v15, .int v16]) (rest := []) C (c_X4_isSo l g sz x S  v15 v16 _ hS17) (j_cwV C qc_X4_isSo qm_X4_343 qi_X4_isSo qs_X4_isSo qn_X4 hd_X4_isSo ⟨rfl, rfl⟩ ⟨by decide, by decide⟩) (rcv_mo.cell C.2) rfl (Nat.le_of_ble_eq_true rfl) dX4_text_163 166 rfl ?_
        refine j_iinc (lv2 := [(1, .int (b1 + 1)), (0, .ref (ad g 56))]) C dX4_text_166 (k := 1) rfl (congrArg (HAdd.hAdd b1) c_oi_1) (by decide) rfl 169 rfl ?_
        refine j_goto C dX4_text_169 136 (by decide) ?_
        refine j_sub [1, 0] rfl ?_
        exact ih (b1 + 1) S17 hf
  have hL112 : ∀ (t0 : Int32) (S : St), X4_text_L112 t0 S = some (r, S') → Wj p l e (rmJ 7 154) s m args below meth c (MQ below (QiJ g sz r x S') args s 0 0 (Ag sz)) 2 g sz x S 112 [(0, .ref (ad g 56))] [.int t0, .ref (ad g 56)] := by
    intro  t0 S hf
    unfold X4_text_L112 at hf
    obtain ⟨S11, hS11, hf⟩ := bnd hf
    refine j_callVv (As := [.int t0]) (rest := []) C (c_X4_must l g sz x S  t0 _ hS11) (j_cwV C qc_X4_must qm_X4_311 qi_X4_must qs_X4_must qn_X4 hd_X4_must ⟨rfl, rfl⟩ ⟨by decide, by decide⟩) (rcv_mo.cell C.2) rfl (Nat.le_of_ble_eq_true rfl) dX4_text_112 115 rfl ?_
    refine j_aload_n C dX4_text_115 rfl 0 rfl 116 rfl ?_
    refine j_iconst C dX4_text_116 (v := 0) c_iconst_0 117 rfl ?_
    obtain ⟨S12, hS12, hf⟩ := bnd hf
    refine j4_put C 11 rfl rfl rfl qf_X4_279 dX4_text_117 120 rfl ?_
    rw [Option.some.inj hS12]
    refine j_aload_n C dX4_text_120 rfl 0 rfl 121 rfl ?_
    refine j4_get C 16 (by decide) qf_X4_304 (v := .int (S12 0 16)) rfl dX4_text_121 124 rfl ?_
    refine j_if_eq C dX4_text_124 134 (by decide) 127 rfl (fun c13 => ?_) (fun c13 => ?_)
    · rw [if_pos c13] at hf
      refine j_iconst C dX4_text_134 (v := 0) c_iconst_0 135 rfl ?_
      refine j_istore_n (lv2 := [(1, .int 0), (0, .ref (ad g 56))]) C dX4_text_135 rfl (by decide) rfl 136 rfl ?_
      refine j_sub [1, 0] rfl ?_
      exact hL136 FU 0 S12 hf
    · rw [if_neg c13] at hf
      refine j_iconst C dX4_text_127 (v := (-1)) c_iconst_m1 128 rfl ?_
      refine j_aload_n C dX4_text_128 rfl 0 rfl 129 rfl ?_
      refine j4_get C 12 (by decide) qf_X4_285 (v := .int (S12 0 12)) rfl dX4_text_129 132 rfl ?_
      refine j_isub C dX4_text_132 133 rfl ?_
      obtain ⟨rfl, rfl⟩ := Prod.mk.inj (Option.some.inj hf)
      exact j_iret C hr hlk dX4_text_133
  have hL99 : ∀ (S : St), X4_text_L99 S = some (r, S') → Wj p l e (rmJ 7 154) s m args below meth c (MQ below (QiJ g sz r x S') args s 0 0 (Ag sz)) 2 g sz x S 99 [(0, .ref (ad g 56))] [] := by
    intro  S hf
    unfold X4_text_L99 at hf
    refine j_aload_n C dX4_text_99 rfl 0 rfl 100 rfl ?_
    refine j_aload_n C dX4_text_100 rfl 0 rfl 101 rfl ?_
    refine j4_get C 14 (by decide) qf_X4_294 (v := .int (S 0 14)) rfl dX4_text_101 104 rfl ?_
    refine j_if_ne C dX4_text_104 111 (by decide) 107 rfl (fun c10 => ?_) (fun c10 => ?_)
    · rw [if_neg c10] at hf
      refine j_iconst C dX4_text_111 (v := 0) c_iconst_0 112 rfl ?_
      exact hL112 0 S hf
    · rw [if_pos c10] at hf
      refine j_iconst C dX4_text_107 (v := 1) c_iconst_1 108 rfl ?_
      refine j_goto C dX4_text_108 112 (by decide) ?_
      exact hL112 1 S hf
  have hL58 : ∀ (n : Nat), ∀ (S : St), X4_text_L58 n S = some (r, S') → Wj p l e (rmJ 7 154) s m args below meth c (MQ below (QiJ g sz r x S') args s 0 0 (Ag sz)) 2 g sz x S 58 [(0, .ref (ad g 56))] [] := by
    intro  n
    induction n with
    | zero =>
      intro S hf
      rw [X4_text_L58] at hf
      cases hf
    | succ n ih =>
      intro S hf
      rw [X4_text_L58] at hf
      refine j_aload_n C dX4_text_58 rfl 0 rfl 59 rfl ?_
      refine j4_get C 16 (by decide) qf_X4_304 (v := .int (S 0 16)) rfl dX4_text_59 62 rfl ?_
      refine j_if_ne C dX4_text_62 99 (by decide) 65 rfl (fun c9 => ?_) (fun c9 => ?_)
      · rw [if_neg c9] at hf
        exact hL99 S hf
      · rw [if_pos c9] at hf
        refine j_aload_n C dX4_text_65 rfl 0 rfl 66 rfl ?_
        refine j4_get C 14 (by decide) qf_X4_294 (v := .int (S 0 14)) rfl dX4_text_66 69 rfl ?_
        refine j_iconst C dX4_text_69 (v := 3) c_iconst_3 70 rfl ?_
        refine j_icmp_ne C dX4_text_70 99 (by decide) 73 rfl (fun c18 => ?_) (fun c18 => ?_)
        · rw [if_neg c18] at hf
          exact hL99 S hf
        · rw [if_pos c18] at hf
          refine j_aload_n C dX4_text_73 rfl 0 rfl 74 rfl ?_
          refine j4_get C 10 (by decide) qf_X4_22 (v := .ref (ad g 61)) rfl dX4_text_74 77 rfl ?_
          refine j_aload_n C dX4_text_77 rfl 0 rfl 78 rfl ?_
          refine j4_get C 12 (by decide) qf_X4_285 (v := .int (S 0 12)) rfl dX4_text_78 81 rfl ?_
          obtain ⟨v19, hv19, hf⟩ := bnd hf
          refine j4_ald 5 rfl C hv19 dX4_text_81 82 rfl ?_
          refine j_bipush C dX4_text_82 (v := 59) c_bipush_59 84 rfl ?_
          refine j_icmp_ne C dX4_text_84 99 (by decide) 87 rfl (fun c20 => ?_) (fun c20 => ?_)
          · rw [if_neg c20] at hf
            exact hL99 S hf
          · rw [if_pos c20] at hf
            refine j_aload_n C dX4_text_87 rfl 0 rfl 88 rfl ?_
            refine j_iconst C dX4_text_88 (v := 1) c_iconst_1 89 rfl ?_
            obtain ⟨S21, hS21, hf⟩ := bnd hf
            refine j_callVv (As := [.int 1]) (rest := []) C (c_X4_must l g sz x S  1 _ hS21) (j_cwV C qc_X4_must qm_X4_311 qi_X4_must qs_X4_must qn_X4 hd_X4_must ⟨rfl, rfl⟩ ⟨by decide, by decide⟩) (rcv_mo.cell C.2) rfl (Nat.le_of_ble_eq_true rfl) dX4_text_89 92 rfl ?_
            refine j_aload_n C dX4_text_92 rfl 0 rfl 93 rfl ?_
            obtain ⟨S22, hS22, hf⟩ := bnd hf
            refine j_callVv (As := []) (rest := []) C (c_X4_readItem l g sz x S21   _ hS22) (j_cwV C qc_X4_readItem qm_X4_340 qi_X4_readItem qs_X4_readItem qn_X4 hd_X4_readItem ⟨rfl, rfl⟩ ⟨by decide, by decide⟩) (rcv_mo.cell C.2) rfl (Nat.le_of_ble_eq_true rfl) dX4_text_93 96 rfl ?_
            refine j_goto C dX4_text_96 58 (by decide) ?_
            exact ih S22 hf
  have hL27 : ∀ (n : Nat), ∀ (b1 : Int32) (S : St), X4_text_L27 n b1 S = some (r, S') → Wj p l e (rmJ 7 154) s m args below meth c (MQ below (QiJ g sz r x S') args s 0 0 (Ag sz)) 2 g sz x S 27 [(0, .ref (ad g 56)), (1, .int b1)] [] := by
    intro  n
    induction n with
    | zero =>
      intro b1 S hf
      rw [X4_text_L27] at hf
      cases hf
    | succ n ih =>
      intro b1 S hf
      rw [X4_text_L27] at hf
      refine j_iload_n C dX4_text_27 rfl 1 rfl 28 rfl ?_
      refine j_bipush C dX4_text_28 (v := 42) c_bipush_42 30 rfl ?_
      refine j_icmp_ge C dX4_text_30 50 (by decide) 33 rfl (fun c6 => ?_) (fun c6 => ?_)
      · rw [if_pos c6] at hf
        refine j_aload_n C dX4_text_50 rfl 0 rfl 51 rfl ?_
        obtain ⟨S7, hS7, hf⟩ := bnd hf
        refine j_callVv (As := []) (rest := []) C (c_X4_next l g sz x S   _ hS7) (j_cwV C qc_X4_next qm_X4_308 qi_X4_next qs_X4_next qn_X4 hd_X4_next ⟨rfl, rfl⟩ ⟨by decide, by decide⟩) (rcv_mo.cell C.2) rfl (Nat.le_of_ble_eq_true rfl) dX4_text_51 54 rfl ?_
        refine j_aload_n C dX4_text_54 rfl 0 rfl 55 rfl ?_
        obtain ⟨S8, hS8, hf⟩ := bnd hf
        refine j_callVv (As := []) (rest := []) C (c_X4_readItem l g sz x S7   _ hS8) (j_cwV C qc_X4_readItem qm_X4_340 qi_X4_readItem qs_X4_readItem qn_X4 hd_X4_readItem ⟨rfl, rfl⟩ ⟨by decide, by decide⟩) (rcv_mo.cell C.2) rfl (Nat.le_of_ble_eq_true rfl) dX4_text_55 58 rfl ?_
        refine j_sub [0] rfl ?_
        exact hL58 FU S8 hf
      · rw [if_neg c6] at hf
        refine j_aload_n C dX4_text_33 rfl 0 rfl 34 rfl ?_
        refine j4_get C 22 (by decide) qf_X4_57 (v := .ref (ad g 65)) rfl dX4_text_34 37 rfl ?_
        refine j_iload_n C dX4_text_37 rfl 1 rfl 38 rfl ?_
        refine j_aload_n C dX4_text_38 rfl 0 rfl 39 rfl ?_
        refine j_iload_n C dX4_text_39 rfl 1 rfl 40 rfl ?_
        obtain ⟨r23, hr23, hf⟩ := bnd hf
        refine j_callVi (As := [.int b1]) (rest := [.int b1, .ref (ad g 65)]) C (c_X4_highOf l g sz x S  b1 _ hr23) (j_cwV C qc_X4_highOf qm_X4_85 qi_X4_highOf qs_X4_highOf qn_X4 hd_X4_highOf ⟨rfl, rfl⟩ ⟨by decide, by decide⟩) (rcv_mo.cell C.2) rfl (Nat.le_of_ble_eq_true rfl) dX4_text_40 43 rfl ?_
        obtain ⟨S24, hS24, hf⟩ := bnd hf
        refine j4_ast 9 rfl C hS24 dX4_text_43 44 rfl ?_
        refine j_iinc (lv2 := [(1, .int (b1 + 1)), (0, .ref (ad g 56))]) C dX4_text_44 (k := 1) rfl (congrArg (HAdd.hAdd b1) c_oi_1) (by decide) rfl 47 rfl ?_
        refine j_goto C dX4_text_47 27 (by decide) ?_
        refine j_sub [1, 0] rfl ?_
        exact ih (b1 + 1) S24 hf
  unfold X4_text at hf
  refine j_aload_n C dX4_text_0 rfl 0 rfl 1 rfl ?_
  refine j_iconst C dX4_text_1 (v := 0) c_iconst_0 2 rfl ?_
  obtain ⟨S1, hS1, hf⟩ := bnd hf
  refine j4_put C 13 rfl rfl rfl qf_X4_282 dX4_text_2 5 rfl ?_
  rw [Option.some.inj hS1]
  refine j_aload_n C dX4_text_5 rfl 0 rfl 6 rfl ?_
  refine j_iconst C dX4_text_6 (v := 0) c_iconst_0 7 rfl ?_
  obtain ⟨S2, hS2, hf⟩ := bnd hf
  refine j4_putz C 16 rfl rfl rfl qf_X4_304 (Or.inl rfl) dX4_text_7 10 rfl ?_
  rw [Option.some.inj hS2]
  refine j_aload_n C dX4_text_10 rfl 0 rfl 11 rfl ?_
  refine j_iconst C dX4_text_11 (v := 0) c_iconst_0 12 rfl ?_
  obtain ⟨S3, hS3, hf⟩ := bnd hf
  refine j4_put C 20 rfl rfl rfl qf_X4_315 dX4_text_12 15 rfl ?_
  rw [Option.some.inj hS3]
  refine j_aload_n C dX4_text_15 rfl 0 rfl 16 rfl ?_
  refine j_aload_n C dX4_text_16 rfl 0 rfl 17 rfl ?_
  refine j4_get C 0 (by decide) qf_X4_9 (v := .ref (ad g 57)) rfl dX4_text_17 20 rfl ?_
  refine j_iconst C dX4_text_20 (v := 4) c_iconst_4 21 rfl ?_
  obtain ⟨v4, hv4, hf⟩ := bnd hf
  refine j4_ald 1 rfl C hv4 dX4_text_21 22 rfl ?_
  obtain ⟨S5, hS5, hf⟩ := bnd hf
  refine j4_put C 21 rfl rfl rfl qf_X4_326 dX4_text_22 25 rfl ?_
  rw [Option.some.inj hS5]
  refine j_iconst C dX4_text_25 (v := 0) c_iconst_0 26 rfl ?_
  refine j_istore_n (lv2 := [(1, .int 0), (0, .ref (ad g 56))]) C dX4_text_26 rfl (by decide) rfl 27 rfl ?_
  refine j_sub [1, 0] rfl ?_
  exact hL27 FU 0 S5 hf
set_option maxRecDepth 100000 in
set_option maxHeartbeats 4000000 in
theorem c_X4_isSpot (l : Launch) (g : GG) (sz : Nat) (x mm : St) (a0 : Int32) (r : Int32) (hf : X4_isSpot a0 = r) : Met l yX4_isSpot (.code yX4_isSpot cX4_isSpot 1 (some .boolean) :: ALLW) (rmJ 1 22) (PcJ g sz x mm [.int a0]) (QiJ g sz r x mm) 0 0 (Ag sz) := by
  refine j_met (own := RX4) (by decide) rfl (Nat.le_of_ble_eq_true rfl) rfl ?_
  intro p e s m args below meth c C hr hlk
  unfold X4_isSpot at hf
  refine j_iload_n C dX4_isSpot_0 rfl 0 rfl 1 rfl ?_
  refine j_iconst C dX4_isSpot_1 (v := 0) c_iconst_0 2 rfl ?_
  refine j_bipush C dX4_isSpot_2 (v := 9) c_bipush_9 4 rfl ?_
  refine j_callSi (As := [.int a0, .int 0, .int 9]) (rest := []) C (c_X4_within l g sz x mm a0 0 9 _ rfl) (j_cwS C qc_X4_within qm_X4_77 qs_X4_within qn_X4 hd_X4_within ⟨rfl, rfl⟩ ⟨by decide, by decide⟩)  rfl (Nat.le_of_ble_eq_true rfl) dX4_isSpot_4 7 rfl ?_
  subst hf
  exact j_zret C hr hlk (b01_X4_within ..) dX4_isSpot_7
set_option maxRecDepth 100000 in
set_option maxHeartbeats 4000000 in
theorem c_X4_hold (l : Launch) (g : GG) (sz : Nat) (x S : St) (a1 : Int32) (a2 : Int32) (r : Int32) (S' : St) (hf : X4_hold a1 a2 S = some (r, S')) : Met l yX4_hold (.code yX4_hold cX4_hold 3 (some .int) :: ALLW) (rmJ 2 43) (PcJ g sz x S [.ref (ad g 56), .int a1, .int a2]) (QiJ g sz r x S') 0 0 (Ag sz) := by
  refine j_met (own := RX4) (by decide) rfl (Nat.le_of_ble_eq_true rfl) rfl ?_
  intro p e s m args below meth c C hr hlk
  unfold X4_hold at hf
  refine j_iload_n C dX4_hold_0 rfl 1 rfl 1 rfl ?_
  refine j_callSi (As := [.int a1]) (rest := []) C (c_X4_isSpot l g sz x S a1 _ rfl) (j_cwS C qc_X4_isSpot qm_X4_346 qs_X4_isSpot qn_X4 hd_X4_isSpot ⟨rfl, rfl⟩ ⟨by decide, by decide⟩)  rfl (Nat.le_of_ble_eq_true rfl) dX4_hold_1 4 rfl ?_
  refine j_if_eq C dX4_hold_4 20 (by decide) 7 rfl (fun c1 => ?_) (fun c1 => ?_)
  · rw [if_pos c1] at hf
    refine j_aload_n C dX4_hold_20 rfl 0 rfl 21 rfl ?_
    refine j_ldc C dX4_hold_21 qk_X4_72 23 rfl ?_
    obtain ⟨⟨r3, S4⟩, hq2, hf⟩ := bnd hf
    dsimp only at hf
    refine j_callVi (As := [.int (-1000001)]) (rest := []) C (c_X4_finding l g sz x S  (-1000001) _ _ hq2) (j_cwV C qc_X4_finding qm_X4_99 qi_X4_finding qs_X4_finding qn_X4 hd_X4_finding ⟨rfl, rfl⟩ ⟨by decide, by decide⟩) (rcv_mo.cell C.2) rfl (Nat.le_of_ble_eq_true rfl) dX4_hold_23 26 rfl ?_
    obtain ⟨rfl, rfl⟩ := Prod.mk.inj (Option.some.inj hf)
    exact j_iret C hr hlk dX4_hold_26
  · rw [if_neg c1] at hf
    refine j_iload_n C dX4_hold_7 rfl 2 rfl 8 rfl ?_
    refine j_iconst C dX4_hold_8 (v := (-1)) c_iconst_m1 9 rfl ?_
    refine j_icmp_eq C dX4_hold_9 27 (by decide) 12 rfl (fun c5 => ?_) (fun c5 => ?_)
    · rw [if_pos c5] at hf
      refine j_aload_n C dX4_hold_27 rfl 0 rfl 28 rfl ?_
      refine j4_get C 0 (by decide) qf_X4_9 (v := .ref (ad g 57)) rfl dX4_hold_28 31 rfl ?_
      refine j_bipush C dX4_hold_31 (v := 7) c_bipush_7 33 rfl ?_
      refine j_iload_n C dX4_hold_33 rfl 1 rfl 34 rfl ?_
      refine j_iadd C dX4_hold_34 35 rfl ?_
      refine j_iload_n C dX4_hold_35 rfl 2 rfl 36 rfl ?_
      obtain ⟨S6, hS6, hf⟩ := bnd hf
      refine j4_ast 1 rfl C hS6 dX4_hold_36 37 rfl ?_
      refine j_iconst C dX4_hold_37 (v := 1) c_iconst_1 38 rfl ?_
      obtain ⟨rfl, rfl⟩ := Prod.mk.inj (Option.some.inj hf)
      exact j_iret C hr hlk dX4_hold_38
    · rw [if_neg c5] at hf
      refine j_aload_n C dX4_hold_12 rfl 0 rfl 13 rfl ?_
      refine j_iload_n C dX4_hold_13 rfl 2 rfl 14 rfl ?_
      obtain ⟨r7, hr7, hf⟩ := bnd hf
      refine j_callVi (As := [.int a2]) (rest := []) C (c_X4_isCoin l g sz x S  a2 _ hr7) (j_cwV C qc_X4_isCoin qm_X4_116 qi_X4_isCoin qs_X4_isCoin qn_X4 hd_X4_isCoin ⟨rfl, rfl⟩ ⟨by decide, by decide⟩) (rcv_mo.cell C.2) rfl (Nat.le_of_ble_eq_true rfl) dX4_hold_14 17 rfl ?_
      refine j_if_ne C dX4_hold_17 27 (by decide) 20 rfl (fun c8 => ?_) (fun c8 => ?_)
      · rw [if_neg c8] at hf
        refine j_aload_n C dX4_hold_27 rfl 0 rfl 28 rfl ?_
        refine j4_get C 0 (by decide) qf_X4_9 (v := .ref (ad g 57)) rfl dX4_hold_28 31 rfl ?_
        refine j_bipush C dX4_hold_31 (v := 7) c_bipush_7 33 rfl ?_
        refine j_iload_n C dX4_hold_33 rfl 1 rfl 34 rfl ?_
        refine j_iadd C dX4_hold_34 35 rfl ?_
        refine j_iload_n C dX4_hold_35 rfl 2 rfl 36 rfl ?_
        obtain ⟨S9, hS9, hf⟩ := bnd hf
        refine j4_ast 1 rfl C hS9 dX4_hold_36 37 rfl ?_
        refine j_iconst C dX4_hold_37 (v := 1) c_iconst_1 38 rfl ?_
        obtain ⟨rfl, rfl⟩ := Prod.mk.inj (Option.some.inj hf)
        exact j_iret C hr hlk dX4_hold_38
      · rw [if_pos c8] at hf
        refine j_aload_n C dX4_hold_20 rfl 0 rfl 21 rfl ?_
        refine j_ldc C dX4_hold_21 qk_X4_72 23 rfl ?_
        obtain ⟨⟨r11, S12⟩, hq10, hf⟩ := bnd hf
        dsimp only at hf
        refine j_callVi (As := [.int (-1000001)]) (rest := []) C (c_X4_finding l g sz x S  (-1000001) _ _ hq10) (j_cwV C qc_X4_finding qm_X4_99 qi_X4_finding qs_X4_finding qn_X4 hd_X4_finding ⟨rfl, rfl⟩ ⟨by decide, by decide⟩) (rcv_mo.cell C.2) rfl (Nat.le_of_ble_eq_true rfl) dX4_hold_23 26 rfl ?_
        obtain ⟨rfl, rfl⟩ := Prod.mk.inj (Option.some.inj hf)
        exact j_iret C hr hlk dX4_hold_26
set_option maxRecDepth 100000 in
set_option maxHeartbeats 4000000 in
theorem c_X4_as (l : Launch) (g : GG) (sz : Nat) (x S : St) (a1 : Int32) (a2 : Int32) (r : Int32) (S' : St) (hf : X4_as a1 a2 S = some (r, S')) : Met l yX4_as (.code yX4_as cX4_as 4 (some .int) :: ALLW) (rmJ 2 42) (PcJ g sz x S [.ref (ad g 56), .int a1, .int a2]) (QiJ g sz r x S') 0 0 (Ag sz) := by
  refine j_met (own := RX4) (by decide) rfl (Nat.le_of_ble_eq_true rfl) rfl ?_
  intro p e s m args below meth c C hr hlk
  unfold X4_as at hf
  refine j_iload_n C dX4_as_0 rfl 1 rfl 1 rfl ?_
  refine j_callSi (As := [.int a1]) (rest := []) C (c_X4_isSpot l g sz x S a1 _ rfl) (j_cwS C qc_X4_isSpot qm_X4_346 qs_X4_isSpot qn_X4 hd_X4_isSpot ⟨rfl, rfl⟩ ⟨by decide, by decide⟩)  rfl (Nat.le_of_ble_eq_true rfl) dX4_as_1 4 rfl ?_
  refine j_if_eq C dX4_as_4 14 (by decide) 7 rfl (fun c1 => ?_) (fun c1 => ?_)
  · rw [if_pos c1] at hf
    refine j_aload_n C dX4_as_14 rfl 0 rfl 15 rfl ?_
    refine j_ldc C dX4_as_15 qk_X4_72 17 rfl ?_
    obtain ⟨⟨r3, S4⟩, hq2, hf⟩ := bnd hf
    dsimp only at hf
    refine j_callVi (As := [.int (-1000001)]) (rest := []) C (c_X4_finding l g sz x S  (-1000001) _ _ hq2) (j_cwV C qc_X4_finding qm_X4_99 qi_X4_finding qs_X4_finding qn_X4 hd_X4_finding ⟨rfl, rfl⟩ ⟨by decide, by decide⟩) (rcv_mo.cell C.2) rfl (Nat.le_of_ble_eq_true rfl) dX4_as_17 20 rfl ?_
    obtain ⟨rfl, rfl⟩ := Prod.mk.inj (Option.some.inj hf)
    exact j_iret C hr hlk dX4_as_20
  · rw [if_neg c1] at hf
    refine j_iload_n C dX4_as_7 rfl 2 rfl 8 rfl ?_
    refine j_callSi (As := [.int a2]) (rest := []) C (c_X4_isKind l g sz x S a2 _ rfl) (j_cwS C qc_X4_isKind qm_X4_96 qs_X4_isKind qn_X4 hd_X4_isKind ⟨rfl, rfl⟩ ⟨by decide, by decide⟩)  rfl (Nat.le_of_ble_eq_true rfl) dX4_as_8 11 rfl ?_
    refine j_if_ne C dX4_as_11 21 (by decide) 14 rfl (fun c5 => ?_) (fun c5 => ?_)
    · rw [if_neg c5] at hf
      refine j_aload_n C dX4_as_21 rfl 0 rfl 22 rfl ?_
      refine j4_get C 0 (by decide) qf_X4_9 (v := .ref (ad g 57)) rfl dX4_as_22 25 rfl ?_
      refine j_bipush C dX4_as_25 (v := 7) c_bipush_7 27 rfl ?_
      refine j_iload_n C dX4_as_27 rfl 1 rfl 28 rfl ?_
      refine j_iadd C dX4_as_28 29 rfl ?_
      obtain ⟨v6, hv6, hf⟩ := bnd hf
      refine j4_ald 1 rfl C hv6 dX4_as_29 30 rfl ?_
      refine j_istore_n (lv2 := [(3, .int v6), (0, .ref (ad g 56)), (1, .int a1), (2, .int a2)]) C dX4_as_30 rfl (by decide) rfl 31 rfl ?_
      refine j_iload_n C dX4_as_31 rfl 0 rfl 32 rfl ?_
      refine j_if_ge C dX4_as_32 43 (by decide) 35 rfl (fun c7 => ?_) (fun c7 => ?_)
      · rw [if_pos c7] at hf
        refine j_aload_n C dX4_as_43 rfl 1 rfl 44 rfl ?_
        refine j_iload_n C dX4_as_44 rfl 0 rfl 45 rfl ?_
        obtain ⟨r8, hr8, hf⟩ := bnd hf
        refine j_callVi (As := [.int v6]) (rest := []) C (c_X4_kindOf l g sz x S  v6 _ hr8) (j_cwV C qc_X4_kindOf qm_X4_109 qi_X4_kindOf qs_X4_kindOf qn_X4 hd_X4_kindOf ⟨rfl, rfl⟩ ⟨by decide, by decide⟩) (rcv_mo.cell C.2) rfl (Nat.le_of_ble_eq_true rfl) dX4_as_45 48 rfl ?_
        refine j_iload_n C dX4_as_48 rfl 3 rfl 49 rfl ?_
        obtain ⟨r9, hr9, hf⟩ := bnd hf
        refine j_callSi (As := [.int r8, .int a2]) (rest := []) C (c_X4_isUnder l g sz x S r8 a2 _ hr9) (j_cwS C qc_X4_isUnder qm_X4_112 qs_X4_isUnder qn_X4 hd_X4_isUnder ⟨rfl, rfl⟩ ⟨by decide, by decide⟩)  rfl (Nat.le_of_ble_eq_true rfl) dX4_as_49 52 rfl ?_
        refine j_if_eq C dX4_as_52 59 (by decide) 55 rfl (fun c10 => ?_) (fun c10 => ?_)
        · rw [if_pos c10] at hf
          refine j_aload_n C dX4_as_59 rfl 1 rfl 60 rfl ?_
          refine j_ldcw C dX4_as_60 qk_X4_350 63 rfl ?_
          obtain ⟨⟨r12, S13⟩, hq11, hf⟩ := bnd hf
          dsimp only at hf
          refine j_callVi (As := [.int (-1000003)]) (rest := []) C (c_X4_finding l g sz x S  (-1000003) _ _ hq11) (j_cwV C qc_X4_finding qm_X4_99 qi_X4_finding qs_X4_finding qn_X4 hd_X4_finding ⟨rfl, rfl⟩ ⟨by decide, by decide⟩) (rcv_mo.cell C.2) rfl (Nat.le_of_ble_eq_true rfl) dX4_as_63 66 rfl ?_
          obtain ⟨rfl, rfl⟩ := Prod.mk.inj (Option.some.inj hf)
          exact j_iret C hr hlk dX4_as_66
        · rw [if_neg c10] at hf
          refine j_iload_n C dX4_as_55 rfl 0 rfl 56 rfl ?_
          refine j_goto C dX4_as_56 66 (by decide) ?_
          obtain ⟨rfl, rfl⟩ := Prod.mk.inj (Option.some.inj hf)
          exact j_iret C hr hlk dX4_as_66
      · rw [if_neg c7] at hf
        refine j_aload_n C dX4_as_35 rfl 1 rfl 36 rfl ?_
        refine j_ldcw C dX4_as_36 qk_X4_349 39 rfl ?_
        obtain ⟨⟨r15, S16⟩, hq14, hf⟩ := bnd hf
        dsimp only at hf
        refine j_callVi (As := [.int (-1000006)]) (rest := []) C (c_X4_finding l g sz x S  (-1000006) _ _ hq14) (j_cwV C qc_X4_finding qm_X4_99 qi_X4_finding qs_X4_finding qn_X4 hd_X4_finding ⟨rfl, rfl⟩ ⟨by decide, by decide⟩) (rcv_mo.cell C.2) rfl (Nat.le_of_ble_eq_true rfl) dX4_as_39 42 rfl ?_
        obtain ⟨rfl, rfl⟩ := Prod.mk.inj (Option.some.inj hf)
        exact j_iret C hr hlk dX4_as_42
    · rw [if_pos c5] at hf
      refine j_aload_n C dX4_as_14 rfl 0 rfl 15 rfl ?_
      refine j_ldc C dX4_as_15 qk_X4_72 17 rfl ?_
      obtain ⟨⟨r18, S19⟩, hq17, hf⟩ := bnd hf
      dsimp only at hf
      refine j_callVi (As := [.int (-1000001)]) (rest := []) C (c_X4_finding l g sz x S  (-1000001) _ _ hq17) (j_cwV C qc_X4_finding qm_X4_99 qi_X4_finding qs_X4_finding qn_X4 hd_X4_finding ⟨rfl, rfl⟩ ⟨by decide, by decide⟩) (rcv_mo.cell C.2) rfl (Nat.le_of_ble_eq_true rfl) dX4_as_17 20 rfl ?_
      obtain ⟨rfl, rfl⟩ := Prod.mk.inj (Option.some.inj hf)
      exact j_iret C hr hlk dX4_as_20
set_option maxRecDepth 100000 in
set_option maxHeartbeats 4000000 in
theorem c_X4_isSheet (l : Launch) (g : GG) (sz : Nat) (x mm : St) (a0 : Int32) (r : Int32) (hf : X4_isSheet a0 = r) : Met l yX4_isSheet (.code yX4_isSheet cX4_isSheet 1 (some .boolean) :: ALLW) (rmJ 1 22) (PcJ g sz x mm [.int a0]) (QiJ g sz r x mm) 0 0 (Ag sz) := by
  refine j_met (own := RX4) (by decide) rfl (Nat.le_of_ble_eq_true rfl) rfl ?_
  intro p e s m args below meth c C hr hlk
  unfold X4_isSheet at hf
  refine j_iload_n C dX4_isSheet_0 rfl 0 rfl 1 rfl ?_
  refine j_iconst C dX4_isSheet_1 (v := 0) c_iconst_0 2 rfl ?_
  refine j_iconst C dX4_isSheet_2 (v := 3) c_iconst_3 3 rfl ?_
  refine j_callSi (As := [.int a0, .int 0, .int 3]) (rest := []) C (c_X4_within l g sz x mm a0 0 3 _ rfl) (j_cwS C qc_X4_within qm_X4_77 qs_X4_within qn_X4 hd_X4_within ⟨rfl, rfl⟩ ⟨by decide, by decide⟩)  rfl (Nat.le_of_ble_eq_true rfl) dX4_isSheet_3 6 rfl ?_
  subst hf
  exact j_zret C hr hlk (b01_X4_within ..) dX4_isSheet_6
set_option maxRecDepth 100000 in
set_option maxHeartbeats 4000000 in
theorem c_X4_cutTo (l : Launch) (g : GG) (sz : Nat) (x mm : St) (a0 : Int32) (a1 : Int32) (r : Int32) (hf : X4_cutTo a0 a1 = r) : Met l yX4_cutTo (.code yX4_cutTo cX4_cutTo 2 (some .int) :: ALLW) (rmJ 0 0) (PcJ g sz x mm [.int a0, .int a1]) (QiJ g sz r x mm) 0 0 (Ag sz) := by
  refine j_met (own := RX4) (by decide) rfl (Nat.le_of_ble_eq_true rfl) rfl ?_
  intro p e s m args below meth c C hr hlk
  unfold X4_cutTo at hf
  refine j_iload_n C dX4_cutTo_0 rfl 1 rfl 1 rfl ?_
  refine j_bipush C dX4_cutTo_1 (v := 8) c_bipush_8 3 rfl ?_
  refine j_icmp_ne C dX4_cutTo_3 11 (by decide) 6 rfl (fun c1 => ?_) (fun c1 => ?_)
  · rw [if_neg c1] at hf
    refine j_iload_n C dX4_cutTo_11 rfl 1 rfl 12 rfl ?_
    refine j_bipush C dX4_cutTo_12 (v := 16) c_bipush_16 14 rfl ?_
    refine j_icmp_ne C dX4_cutTo_14 22 (by decide) 17 rfl (fun c2 => ?_) (fun c2 => ?_)
    · rw [if_neg c2] at hf
      refine j_iload_n C dX4_cutTo_22 rfl 0 rfl 23 rfl ?_
      subst hf
      exact j_iret C hr hlk dX4_cutTo_23
    · rw [if_pos c2] at hf
      refine j_iload_n C dX4_cutTo_17 rfl 0 rfl 18 rfl ?_
      refine j_i2s C dX4_cutTo_18 19 rfl ?_
      refine j_goto C dX4_cutTo_19 23 (by decide) ?_
      subst hf
      exact j_iret C hr hlk dX4_cutTo_23
  · rw [if_pos c1] at hf
    refine j_iload_n C dX4_cutTo_6 rfl 0 rfl 7 rfl ?_
    refine j_i2b C dX4_cutTo_7 8 rfl ?_
    refine j_goto C dX4_cutTo_8 23 (by decide) ?_
    subst hf
    exact j_iret C hr hlk dX4_cutTo_23
set_option maxRecDepth 100000 in
set_option maxHeartbeats 4000000 in
theorem c_X4_sheet (l : Launch) (g : GG) (sz : Nat) (x S : St) (a1 : Int32) (a2 : Int32) (a3 : Int32) (r : Int32) (S' : St) (hf : X4_sheet a1 a2 a3 S = some (r, S')) : Met l yX4_sheet (.code yX4_sheet cX4_sheet 5 (some .int) :: ALLW) (rmJ 2 42) (PcJ g sz x S [.ref (ad g 56), .int a1, .int a2, .int a3]) (QiJ g sz r x S') 0 0 (Ag sz) := by
  refine j_met (own := RX4) (by decide) rfl (Nat.le_of_ble_eq_true rfl) rfl ?_
  intro p e s m args below meth c C hr hlk
  have hL86 : ∀ (n : Nat), ∀ (b1 : Int32) (b4 : Int32) (S : St), X4_sheet_L86 n b1 b4 S = some (r, S') → Wj p l e (rmJ 2 42) s m args below meth c (MQ below (QiJ g sz r x S') args s 0 0 (Ag sz)) 5 g sz x S 86 [(0, .ref (ad g 56)), (1, .int b1), (4, .int b4)] [] := by
    intro  n
    induction n with
    | zero =>
      intro b1 b4 S hf
      rw [X4_sheet_L86] at hf
      cases hf
    | succ n ih =>
      intro b1 b4 S hf
      rw [X4_sheet_L86] at hf
      refine j_iload C dX4_sheet_86 2 rfl 88 rfl ?_
      refine j_bipush C dX4_sheet_88 (v := 40) c_bipush_40 90 rfl ?_
      refine j_icmp_ge C dX4_sheet_90 112 (by decide) 93 rfl (fun c11 => ?_) (fun c11 => ?_)
      · rw [if_pos c11] at hf
        refine j_aload_n C dX4_sheet_112 rfl 0 rfl 113 rfl ?_
        refine j4_get C 24 (by decide) qf_X4_63 (v := .ref (ad g 67)) rfl dX4_sheet_113 116 rfl ?_
        refine j_iload_n C dX4_sheet_116 rfl 1 rfl 117 rfl ?_
        obtain ⟨v12, hv12, hf⟩ := bnd hf
        refine j4_ald 11 rfl C hv12 dX4_sheet_117 118 rfl ?_
        obtain ⟨rfl, rfl⟩ := Prod.mk.inj (Option.some.inj hf)
        exact j_iret C hr hlk dX4_sheet_118
      · rw [if_neg c11] at hf
        refine j_aload_n C dX4_sheet_93 rfl 0 rfl 94 rfl ?_
        refine j4_get C 25 (by decide) qf_X4_66 (v := .ref (ad g 68)) rfl dX4_sheet_94 97 rfl ?_
        refine j_bipush C dX4_sheet_97 (v := 40) c_bipush_40 99 rfl ?_
        refine j_iload_n C dX4_sheet_99 rfl 1 rfl 100 rfl ?_
        refine j_imul C dX4_sheet_100 101 rfl ?_
        refine j_iload C dX4_sheet_101 2 rfl 103 rfl ?_
        refine j_iadd C dX4_sheet_103 104 rfl ?_
        refine j_iconst C dX4_sheet_104 (v := 0) c_iconst_0 105 rfl ?_
        obtain ⟨S13, hS13, hf⟩ := bnd hf
        refine j4_ast 12 rfl C hS13 dX4_sheet_105 106 rfl ?_
        refine j_iinc (lv2 := [(4, .int (b4 + 1)), (0, .ref (ad g 56)), (1, .int b1)]) C dX4_sheet_106 (k := 2) rfl (congrArg (HAdd.hAdd b4) c_oi_1) (by decide) rfl 109 rfl ?_
        refine j_goto C dX4_sheet_109 86 (by decide) ?_
        refine j_sub [1, 2, 0] rfl ?_
        exact ih b1 (b4 + 1) S13 hf
  have hL36 : ∀ (b1 : Int32) (b2 : Int32) (b3 : Int32) (S : St), X4_sheet_L36 b1 b2 b3 S = some (r, S') → Wj p l e (rmJ 2 42) s m args below meth c (MQ below (QiJ g sz r x S') args s 0 0 (Ag sz)) 5 g sz x S 36 [(0, .ref (ad g 56)), (1, .int b1), (2, .int b2), (3, .int b3)] [] := by
    intro  b1 b2 b3 S hf
    unfold X4_sheet_L36 at hf
    refine j_iload_n C dX4_sheet_36 rfl 3 rfl 37 rfl ?_
    refine j_if_ge C dX4_sheet_37 48 (by decide) 40 rfl (fun c6 => ?_) (fun c6 => ?_)
    · rw [if_pos c6] at hf
      refine j_iload_n C dX4_sheet_48 rfl 3 rfl 49 rfl ?_
      refine j_bipush C dX4_sheet_49 (v := 40) c_bipush_40 51 rfl ?_
      refine j_icmp_le C dX4_sheet_51 61 (by decide) 54 rfl (fun c7 => ?_) (fun c7 => ?_)
      · rw [if_pos c7] at hf
        refine j_aload_n C dX4_sheet_61 rfl 0 rfl 62 rfl ?_
        refine j4_get C 23 (by decide) qf_X4_60 (v := .ref (ad g 66)) rfl dX4_sheet_62 65 rfl ?_
        refine j_iload_n C dX4_sheet_65 rfl 1 rfl 66 rfl ?_
        refine j_iload_n C dX4_sheet_66 rfl 2 rfl 67 rfl ?_
        obtain ⟨S8, hS8, hf⟩ := bnd hf
        refine j4_ast 10 rfl C hS8 dX4_sheet_67 68 rfl ?_
        refine j_aload_n C dX4_sheet_68 rfl 0 rfl 69 rfl ?_
        refine j4_get C 24 (by decide) qf_X4_63 (v := .ref (ad g 67)) rfl dX4_sheet_69 72 rfl ?_
        refine j_iload_n C dX4_sheet_72 rfl 1 rfl 73 rfl ?_
        refine j_iload_n C dX4_sheet_73 rfl 2 rfl 74 rfl ?_
        refine j_if_ne C dX4_sheet_74 81 (by decide) 77 rfl (fun c9 => ?_) (fun c9 => ?_)
        · rw [if_neg c9] at hf
          refine j_iload_n C dX4_sheet_81 rfl 3 rfl 82 rfl ?_
          obtain ⟨S10, hS10, hf⟩ := bnd hf
          refine j4_ast 11 rfl C hS10 dX4_sheet_82 83 rfl ?_
          refine j_iconst C dX4_sheet_83 (v := 0) c_iconst_0 84 rfl ?_
          refine j_istore (lv2 := [(4, .int 0), (0, .ref (ad g 56)), (1, .int b1), (2, .int b2), (3, .int b3)]) C dX4_sheet_84 (by decide) rfl 86 rfl ?_
          refine j_sub [1, 2, 0] rfl ?_
          exact hL86 FU b1 0 S10 hf
        · rw [if_pos c9] at hf
          refine j_iconst C dX4_sheet_77 (v := 0) c_iconst_0 78 rfl ?_
          refine j_goto C dX4_sheet_78 82 (by decide) ?_
          obtain ⟨S14, hS14, hf⟩ := bnd hf
          refine j4_ast 11 rfl C hS14 dX4_sheet_82 83 rfl ?_
          refine j_iconst C dX4_sheet_83 (v := 0) c_iconst_0 84 rfl ?_
          refine j_istore (lv2 := [(4, .int 0), (0, .ref (ad g 56)), (1, .int b1), (2, .int b2), (3, .int b3)]) C dX4_sheet_84 (by decide) rfl 86 rfl ?_
          refine j_sub [1, 2, 0] rfl ?_
          exact hL86 FU b1 0 S14 hf
      · rw [if_neg c7] at hf
        refine j_aload_n C dX4_sheet_54 rfl 0 rfl 55 rfl ?_
        refine j_ldc C dX4_sheet_55 qk_X4_72 57 rfl ?_
        obtain ⟨⟨r16, S17⟩, hq15, hf⟩ := bnd hf
        dsimp only at hf
        refine j_callVi (As := [.int (-1000001)]) (rest := []) C (c_X4_finding l g sz x S  (-1000001) _ _ hq15) (j_cwV C qc_X4_finding qm_X4_99 qi_X4_finding qs_X4_finding qn_X4 hd_X4_finding ⟨rfl, rfl⟩ ⟨by decide, by decide⟩) (rcv_mo.cell C.2) rfl (Nat.le_of_ble_eq_true rfl) dX4_sheet_57 60 rfl ?_
        obtain ⟨rfl, rfl⟩ := Prod.mk.inj (Option.some.inj hf)
        exact j_iret C hr hlk dX4_sheet_60
    · rw [if_neg c6] at hf
      refine j_aload_n C dX4_sheet_40 rfl 0 rfl 41 rfl ?_
      refine j_ldcw C dX4_sheet_41 qk_X4_354 44 rfl ?_
      obtain ⟨⟨r19, S20⟩, hq18, hf⟩ := bnd hf
      dsimp only at hf
      refine j_callVi (As := [.int (-1000007)]) (rest := []) C (c_X4_finding l g sz x S  (-1000007) _ _ hq18) (j_cwV C qc_X4_finding qm_X4_99 qi_X4_finding qs_X4_finding qn_X4 hd_X4_finding ⟨rfl, rfl⟩ ⟨by decide, by decide⟩) (rcv_mo.cell C.2) rfl (Nat.le_of_ble_eq_true rfl) dX4_sheet_44 47 rfl ?_
      obtain ⟨rfl, rfl⟩ := Prod.mk.inj (Option.some.inj hf)
      exact j_iret C hr hlk dX4_sheet_47
  unfold X4_sheet at hf
  refine j_iload_n C dX4_sheet_0 rfl 1 rfl 1 rfl ?_
  refine j_callSi (As := [.int a1]) (rest := []) C (c_X4_isSheet l g sz x S a1 _ rfl) (j_cwS C qc_X4_isSheet qm_X4_351 qs_X4_isSheet qn_X4 hd_X4_isSheet ⟨rfl, rfl⟩ ⟨by decide, by decide⟩)  rfl (Nat.le_of_ble_eq_true rfl) dX4_sheet_1 4 rfl ?_
  refine j_if_eq C dX4_sheet_4 29 (by decide) 7 rfl (fun c1 => ?_) (fun c1 => ?_)
  · rw [if_pos c1] at hf
    refine j_aload_n C dX4_sheet_29 rfl 0 rfl 30 rfl ?_
    refine j_ldc C dX4_sheet_30 qk_X4_72 32 rfl ?_
    obtain ⟨⟨r3, S4⟩, hq2, hf⟩ := bnd hf
    dsimp only at hf
    refine j_callVi (As := [.int (-1000001)]) (rest := []) C (c_X4_finding l g sz x S  (-1000001) _ _ hq2) (j_cwV C qc_X4_finding qm_X4_99 qi_X4_finding qs_X4_finding qn_X4 hd_X4_finding ⟨rfl, rfl⟩ ⟨by decide, by decide⟩) (rcv_mo.cell C.2) rfl (Nat.le_of_ble_eq_true rfl) dX4_sheet_32 35 rfl ?_
    obtain ⟨rfl, rfl⟩ := Prod.mk.inj (Option.some.inj hf)
    exact j_iret C hr hlk dX4_sheet_35
  · rw [if_neg c1] at hf
    refine j_iload_n C dX4_sheet_7 rfl 2 rfl 8 rfl ?_
    refine j_if_eq C dX4_sheet_8 36 (by decide) 11 rfl (fun c5 => ?_) (fun c5 => ?_)
    · rw [if_pos c5] at hf
      exact hL36 a1 a2 a3 S hf
    · rw [if_neg c5] at hf
      refine j_iload_n C dX4_sheet_11 rfl 2 rfl 12 rfl ?_
      refine j_bipush C dX4_sheet_12 (v := 8) c_bipush_8 14 rfl ?_
      refine j_icmp_eq C dX4_sheet_14 36 (by decide) 17 rfl (fun c21 => ?_) (fun c21 => ?_)
      · rw [if_pos c21] at hf
        exact hL36 a1 a2 a3 S hf
      · rw [if_neg c21] at hf
        refine j_iload_n C dX4_sheet_17 rfl 2 rfl 18 rfl ?_
        refine j_bipush C dX4_sheet_18 (v := 16) c_bipush_16 20 rfl ?_
        refine j_icmp_eq C dX4_sheet_20 36 (by decide) 23 rfl (fun c22 => ?_) (fun c22 => ?_)
        · rw [if_pos c22] at hf
          exact hL36 a1 a2 a3 S hf
        · rw [if_neg c22] at hf
          refine j_iload_n C dX4_sheet_23 rfl 2 rfl 24 rfl ?_
          refine j_bipush C dX4_sheet_24 (v := 32) c_bipush_32 26 rfl ?_
          refine j_icmp_eq C dX4_sheet_26 36 (by decide) 29 rfl (fun c23 => ?_) (fun c23 => ?_)
          · rw [if_pos c23] at hf
            exact hL36 a1 a2 a3 S hf
          · rw [if_neg c23] at hf
            refine j_aload_n C dX4_sheet_29 rfl 0 rfl 30 rfl ?_
            refine j_ldc C dX4_sheet_30 qk_X4_72 32 rfl ?_
            obtain ⟨⟨r25, S26⟩, hq24, hf⟩ := bnd hf
            dsimp only at hf
            refine j_callVi (As := [.int (-1000001)]) (rest := []) C (c_X4_finding l g sz x S  (-1000001) _ _ hq24) (j_cwV C qc_X4_finding qm_X4_99 qi_X4_finding qs_X4_finding qn_X4 hd_X4_finding ⟨rfl, rfl⟩ ⟨by decide, by decide⟩) (rcv_mo.cell C.2) rfl (Nat.le_of_ble_eq_true rfl) dX4_sheet_32 35 rfl ?_
            obtain ⟨rfl, rfl⟩ := Prod.mk.inj (Option.some.inj hf)
            exact j_iret C hr hlk dX4_sheet_35
set_option maxRecDepth 100000 in
set_option maxHeartbeats 4000000 in
theorem c_X4_write (l : Launch) (g : GG) (sz : Nat) (x S : St) (a1 : Int32) (a2 : Int32) (a3 : Int32) (r : Int32) (S' : St) (hf : X4_write a1 a2 a3 S = some (r, S')) : Met l yX4_write (.code yX4_write cX4_write 4 (some .int) :: ALLW) (rmJ 2 42) (PcJ g sz x S [.ref (ad g 56), .int a1, .int a2, .int a3]) (QiJ g sz r x S') 0 0 (Ag sz) := by
  refine j_met (own := RX4) (by decide) rfl (Nat.le_of_ble_eq_true rfl) rfl ?_
  intro p e s m args below meth c C hr hlk
  unfold X4_write at hf
  refine j_iload_n C dX4_write_0 rfl 1 rfl 1 rfl ?_
  refine j_callSi (As := [.int a1]) (rest := []) C (c_X4_isSheet l g sz x S a1 _ rfl) (j_cwS C qc_X4_isSheet qm_X4_351 qs_X4_isSheet qn_X4 hd_X4_isSheet ⟨rfl, rfl⟩ ⟨by decide, by decide⟩)  rfl (Nat.le_of_ble_eq_true rfl) dX4_write_1 4 rfl ?_
  refine j_if_ne C dX4_write_4 14 (by decide) 7 rfl (fun c1 => ?_) (fun c1 => ?_)
  · rw [if_neg c1] at hf
    refine j_aload_n C dX4_write_14 rfl 0 rfl 15 rfl ?_
    refine j4_get C 23 (by decide) qf_X4_60 (v := .ref (ad g 66)) rfl dX4_write_15 18 rfl ?_
    refine j_iload_n C dX4_write_18 rfl 1 rfl 19 rfl ?_
    obtain ⟨v2, hv2, hf⟩ := bnd hf
    refine j4_ald 10 rfl C hv2 dX4_write_19 20 rfl ?_
    refine j_if_ne C dX4_write_20 31 (by decide) 23 rfl (fun c3 => ?_) (fun c3 => ?_)
    · rw [if_neg c3] at hf
      refine j_iload_n C dX4_write_31 rfl 2 rfl 32 rfl ?_
      refine j_iconst C dX4_write_32 (v := 0) c_iconst_0 33 rfl ?_
      refine j_aload_n C dX4_write_33 rfl 0 rfl 34 rfl ?_
      refine j4_get C 24 (by decide) qf_X4_63 (v := .ref (ad g 67)) rfl dX4_write_34 37 rfl ?_
      refine j_iload_n C dX4_write_37 rfl 1 rfl 38 rfl ?_
      obtain ⟨v4, hv4, hf⟩ := bnd hf
      refine j4_ald 11 rfl C hv4 dX4_write_38 39 rfl ?_
      refine j_iconst C dX4_write_39 (v := 1) c_iconst_1 40 rfl ?_
      refine j_isub C dX4_write_40 41 rfl ?_
      refine j_callSi (As := [.int a2, .int 0, .int (v4 - 1)]) (rest := []) C (c_X4_within l g sz x S a2 0 (v4 - 1) _ rfl) (j_cwS C qc_X4_within qm_X4_77 qs_X4_within qn_X4 hd_X4_within ⟨rfl, rfl⟩ ⟨by decide, by decide⟩)  rfl (Nat.le_of_ble_eq_true rfl) dX4_write_41 44 rfl ?_
      refine j_if_ne C dX4_write_44 54 (by decide) 47 rfl (fun c5 => ?_) (fun c5 => ?_)
      · rw [if_neg c5] at hf
        refine j_aload_n C dX4_write_54 rfl 0 rfl 55 rfl ?_
        refine j4_get C 25 (by decide) qf_X4_66 (v := .ref (ad g 68)) rfl dX4_write_55 58 rfl ?_
        refine j_bipush C dX4_write_58 (v := 40) c_bipush_40 60 rfl ?_
        refine j_iload_n C dX4_write_60 rfl 1 rfl 61 rfl ?_
        refine j_imul C dX4_write_61 62 rfl ?_
        refine j_iload_n C dX4_write_62 rfl 2 rfl 63 rfl ?_
        refine j_iadd C dX4_write_63 64 rfl ?_
        refine j_iload_n C dX4_write_64 rfl 3 rfl 65 rfl ?_
        refine j_aload_n C dX4_write_65 rfl 0 rfl 66 rfl ?_
        refine j4_get C 23 (by decide) qf_X4_60 (v := .ref (ad g 66)) rfl dX4_write_66 69 rfl ?_
        refine j_iload_n C dX4_write_69 rfl 1 rfl 70 rfl ?_
        obtain ⟨v6, hv6, hf⟩ := bnd hf
        refine j4_ald 10 rfl C hv6 dX4_write_70 71 rfl ?_
        refine j_callSi (As := [.int a3, .int v6]) (rest := [.int ((40 * a1) + a2), .ref (ad g 68)]) C (c_X4_cutTo l g sz x S a3 v6 _ rfl) (j_cwS C qc_X4_cutTo qm_X4_355 qs_X4_cutTo qn_X4 hd_X4_cutTo ⟨rfl, rfl⟩ ⟨by decide, by decide⟩)  rfl (Nat.le_of_ble_eq_true rfl) dX4_write_71 74 rfl ?_
        obtain ⟨S7, hS7, hf⟩ := bnd hf
        refine j4_ast 12 rfl C hS7 dX4_write_74 75 rfl ?_
        refine j_iconst C dX4_write_75 (v := 1) c_iconst_1 76 rfl ?_
        obtain ⟨rfl, rfl⟩ := Prod.mk.inj (Option.some.inj hf)
        exact j_iret C hr hlk dX4_write_76
      · rw [if_pos c5] at hf
        refine j_aload_n C dX4_write_47 rfl 0 rfl 48 rfl ?_
        refine j_ldc C dX4_write_48 qk_X4_72 50 rfl ?_
        obtain ⟨⟨r9, S10⟩, hq8, hf⟩ := bnd hf
        dsimp only at hf
        refine j_callVi (As := [.int (-1000001)]) (rest := []) C (c_X4_finding l g sz x S  (-1000001) _ _ hq8) (j_cwV C qc_X4_finding qm_X4_99 qi_X4_finding qs_X4_finding qn_X4 hd_X4_finding ⟨rfl, rfl⟩ ⟨by decide, by decide⟩) (rcv_mo.cell C.2) rfl (Nat.le_of_ble_eq_true rfl) dX4_write_50 53 rfl ?_
        obtain ⟨rfl, rfl⟩ := Prod.mk.inj (Option.some.inj hf)
        exact j_iret C hr hlk dX4_write_53
    · rw [if_pos c3] at hf
      refine j_aload_n C dX4_write_23 rfl 0 rfl 24 rfl ?_
      refine j_ldcw C dX4_write_24 qk_X4_349 27 rfl ?_
      obtain ⟨⟨r12, S13⟩, hq11, hf⟩ := bnd hf
      dsimp only at hf
      refine j_callVi (As := [.int (-1000006)]) (rest := []) C (c_X4_finding l g sz x S  (-1000006) _ _ hq11) (j_cwV C qc_X4_finding qm_X4_99 qi_X4_finding qs_X4_finding qn_X4 hd_X4_finding ⟨rfl, rfl⟩ ⟨by decide, by decide⟩) (rcv_mo.cell C.2) rfl (Nat.le_of_ble_eq_true rfl) dX4_write_27 30 rfl ?_
      obtain ⟨rfl, rfl⟩ := Prod.mk.inj (Option.some.inj hf)
      exact j_iret C hr hlk dX4_write_30
  · rw [if_pos c1] at hf
    refine j_aload_n C dX4_write_7 rfl 0 rfl 8 rfl ?_
    refine j_ldc C dX4_write_8 qk_X4_72 10 rfl ?_
    obtain ⟨⟨r15, S16⟩, hq14, hf⟩ := bnd hf
    dsimp only at hf
    refine j_callVi (As := [.int (-1000001)]) (rest := []) C (c_X4_finding l g sz x S  (-1000001) _ _ hq14) (j_cwV C qc_X4_finding qm_X4_99 qi_X4_finding qs_X4_finding qn_X4 hd_X4_finding ⟨rfl, rfl⟩ ⟨by decide, by decide⟩) (rcv_mo.cell C.2) rfl (Nat.le_of_ble_eq_true rfl) dX4_write_10 13 rfl ?_
    obtain ⟨rfl, rfl⟩ := Prod.mk.inj (Option.some.inj hf)
    exact j_iret C hr hlk dX4_write_13
set_option maxRecDepth 100000 in
set_option maxHeartbeats 4000000 in
theorem c_X4_copy (l : Launch) (g : GG) (sz : Nat) (x S : St) (a1 : Int32) (a2 : Int32) (a3 : Int32) (a4 : Int32) (a5 : Int32) (r : Int32) (S' : St) (hf : X4_copy a1 a2 a3 a4 a5 S = some (r, S')) : Met l yX4_copy (.code yX4_copy cX4_copy 7 (some .int) :: ALLW) (rmJ 2 42) (PcJ g sz x S [.ref (ad g 56), .int a1, .int a2, .int a3, .int a4, .int a5]) (QiJ g sz r x S') 0 0 (Ag sz) := by
  refine j_met (own := RX4) (by decide) rfl (Nat.le_of_ble_eq_true rfl) rfl ?_
  intro p e s m args below meth c C hr hlk
  have hL166 : ∀ (n : Nat), ∀ (b3 : Int32) (b4 : Int32) (b5 : Int32) (b6 : Int32) (S : St), X4_copy_L166 n b3 b4 b5 b6 S = some (r, S') → Wj p l e (rmJ 2 42) s m args below meth c (MQ below (QiJ g sz r x S') args s 0 0 (Ag sz)) 7 g sz x S 166 [(0, .ref (ad g 56)), (3, .int b3), (4, .int b4), (5, .int b5), (6, .int b6)] [] := by
    intro  n
    induction n with
    | zero =>
      intro b3 b4 b5 b6 S hf
      rw [X4_copy_L166] at hf
      cases hf
    | succ n ih =>
      intro b3 b4 b5 b6 S hf
      rw [X4_copy_L166] at hf
      refine j_iload C dX4_copy_166 4 rfl 168 rfl ?_
      refine j_iload C dX4_copy_168 3 rfl 170 rfl ?_
      refine j_icmp_ge C dX4_copy_170 201 (by decide) 173 rfl (fun c36 => ?_) (fun c36 => ?_)
      · rw [if_pos c36] at hf
        refine j_iload C dX4_copy_201 3 rfl 203 rfl ?_
        obtain ⟨rfl, rfl⟩ := Prod.mk.inj (Option.some.inj hf)
        exact j_iret C hr hlk dX4_copy_203
      · rw [if_neg c36] at hf
        refine j_aload_n C dX4_copy_173 rfl 0 rfl 174 rfl ?_
        refine j4_get C 25 (by decide) qf_X4_66 (v := .ref (ad g 68)) rfl dX4_copy_174 177 rfl ?_
        refine j_bipush C dX4_copy_177 (v := 40) c_bipush_40 179 rfl ?_
        refine j_iload_n C dX4_copy_179 rfl 1 rfl 180 rfl ?_
        refine j_imul C dX4_copy_180 181 rfl ?_
        refine j_iload C dX4_copy_181 2 rfl 183 rfl ?_
        refine j_iadd C dX4_copy_183 184 rfl ?_
        refine j_iload C dX4_copy_184 4 rfl 186 rfl ?_
        refine j_iadd C dX4_copy_186 187 rfl ?_
        refine j_aload_n C dX4_copy_187 rfl 0 rfl 188 rfl ?_
        refine j4_get C 26 (by decide) qf_X4_69 (v := .ref (ad g 69)) rfl dX4_copy_188 191 rfl ?_
        refine j_iload C dX4_copy_191 4 rfl 193 rfl ?_
        obtain ⟨v37, hv37, hf⟩ := bnd hf
        refine j4_ald 13 rfl C hv37 dX4_copy_193 194 rfl ?_
        obtain ⟨S38, hS38, hf⟩ := bnd hf
        refine j4_ast 12 rfl C hS38 dX4_copy_194 195 rfl ?_
        refine j_iinc (lv2 := [(6, .int (b6 + 1)), (0, .ref (ad g 56)), (3, .int b3), (4, .int b4), (5, .int b5)]) C dX4_copy_195 (k := 4) rfl (congrArg (HAdd.hAdd b6) c_oi_1) (by decide) rfl 198 rfl ?_
        refine j_goto C dX4_copy_198 166 (by decide) ?_
        refine j_sub [1, 2, 3, 4, 0] rfl ?_
        exact ih b3 b4 b5 (b6 + 1) S38 hf
  have hL129 : ∀ (n : Nat), ∀ (b1 : Int32) (b2 : Int32) (b3 : Int32) (b4 : Int32) (b5 : Int32) (b6 : Int32) (S : St), X4_copy_L129 n b1 b2 b3 b4 b5 b6 S = some (r, S') → Wj p l e (rmJ 2 42) s m args below meth c (MQ below (QiJ g sz r x S') args s 0 0 (Ag sz)) 7 g sz x S 129 [(0, .ref (ad g 56)), (1, .int b1), (2, .int b2), (3, .int b3), (4, .int b4), (5, .int b5), (6, .int b6)] [] := by
    intro  n
    induction n with
    | zero =>
      intro b1 b2 b3 b4 b5 b6 S hf
      rw [X4_copy_L129] at hf
      cases hf
    | succ n ih =>
      intro b1 b2 b3 b4 b5 b6 S hf
      rw [X4_copy_L129] at hf
      refine j_iload C dX4_copy_129 6 rfl 131 rfl ?_
      refine j_iload C dX4_copy_131 5 rfl 133 rfl ?_
      refine j_icmp_ge C dX4_copy_133 163 (by decide) 136 rfl (fun c35 => ?_) (fun c35 => ?_)
      · rw [if_pos c35] at hf
        refine j_iconst C dX4_copy_163 (v := 0) c_iconst_0 164 rfl ?_
        refine j_istore (lv2 := [(6, .int 0), (0, .ref (ad g 56)), (1, .int b1), (2, .int b2), (3, .int b3), (4, .int b4), (5, .int b5)]) C dX4_copy_164 (by decide) rfl 166 rfl ?_
        refine j_sub [1, 4, 5, 6, 0] rfl ?_
        exact hL166 FU b3 b4 b5 0 S hf
      · rw [if_neg c35] at hf
        refine j_aload_n C dX4_copy_136 rfl 0 rfl 137 rfl ?_
        refine j4_get C 26 (by decide) qf_X4_69 (v := .ref (ad g 69)) rfl dX4_copy_137 140 rfl ?_
        refine j_iload C dX4_copy_140 6 rfl 142 rfl ?_
        refine j_aload_n C dX4_copy_142 rfl 0 rfl 143 rfl ?_
        refine j4_get C 25 (by decide) qf_X4_66 (v := .ref (ad g 68)) rfl dX4_copy_143 146 rfl ?_
        refine j_bipush C dX4_copy_146 (v := 40) c_bipush_40 148 rfl ?_
        refine j_iload_n C dX4_copy_148 rfl 1 rfl 149 rfl ?_
        refine j_imul C dX4_copy_149 150 rfl ?_
        refine j_iload_n C dX4_copy_150 rfl 2 rfl 151 rfl ?_
        refine j_iadd C dX4_copy_151 152 rfl ?_
        refine j_iload C dX4_copy_152 6 rfl 154 rfl ?_
        refine j_iadd C dX4_copy_154 155 rfl ?_
        obtain ⟨v39, hv39, hf⟩ := bnd hf
        refine j4_ald 12 rfl C hv39 dX4_copy_155 156 rfl ?_
        obtain ⟨S40, hS40, hf⟩ := bnd hf
        refine j4_ast 13 rfl C hS40 dX4_copy_156 157 rfl ?_
        refine j_iinc (lv2 := [(6, .int (b6 + 1)), (0, .ref (ad g 56)), (1, .int b1), (2, .int b2), (3, .int b3), (4, .int b4), (5, .int b5)]) C dX4_copy_157 (k := 6) rfl (congrArg (HAdd.hAdd b6) c_oi_1) (by decide) rfl 160 rfl ?_
        refine j_goto C dX4_copy_160 129 (by decide) ?_
        refine j_sub [1, 2, 3, 4, 5, 6, 0] rfl ?_
        exact ih b1 b2 b3 b4 b5 (b6 + 1) S40 hf
  unfold X4_copy at hf
  refine j_iload_n C dX4_copy_0 rfl 1 rfl 1 rfl ?_
  refine j_callSi (As := [.int a1]) (rest := []) C (c_X4_isSheet l g sz x S a1 _ rfl) (j_cwS C qc_X4_isSheet qm_X4_351 qs_X4_isSheet qn_X4 hd_X4_isSheet ⟨rfl, rfl⟩ ⟨by decide, by decide⟩)  rfl (Nat.le_of_ble_eq_true rfl) dX4_copy_1 4 rfl ?_
  refine j_if_eq C dX4_copy_4 14 (by decide) 7 rfl (fun c1 => ?_) (fun c1 => ?_)
  · rw [if_pos c1] at hf
    refine j_aload_n C dX4_copy_14 rfl 0 rfl 15 rfl ?_
    refine j_ldc C dX4_copy_15 qk_X4_72 17 rfl ?_
    obtain ⟨⟨r3, S4⟩, hq2, hf⟩ := bnd hf
    dsimp only at hf
    refine j_callVi (As := [.int (-1000001)]) (rest := []) C (c_X4_finding l g sz x S  (-1000001) _ _ hq2) (j_cwV C qc_X4_finding qm_X4_99 qi_X4_finding qs_X4_finding qn_X4 hd_X4_finding ⟨rfl, rfl⟩ ⟨by decide, by decide⟩) (rcv_mo.cell C.2) rfl (Nat.le_of_ble_eq_true rfl) dX4_copy_17 20 rfl ?_
    obtain ⟨rfl, rfl⟩ := Prod.mk.inj (Option.some.inj hf)
    exact j_iret C hr hlk dX4_copy_20
  · rw [if_neg c1] at hf
    refine j_iload_n C dX4_copy_7 rfl 3 rfl 8 rfl ?_
    refine j_callSi (As := [.int a3]) (rest := []) C (c_X4_isSheet l g sz x S a3 _ rfl) (j_cwS C qc_X4_isSheet qm_X4_351 qs_X4_isSheet qn_X4 hd_X4_isSheet ⟨rfl, rfl⟩ ⟨by decide, by decide⟩)  rfl (Nat.le_of_ble_eq_true rfl) dX4_copy_8 11 rfl ?_
    refine j_if_ne C dX4_copy_11 21 (by decide) 14 rfl (fun c5 => ?_) (fun c5 => ?_)
    · rw [if_neg c5] at hf
      refine j_aload_n C dX4_copy_21 rfl 0 rfl 22 rfl ?_
      refine j4_get C 23 (by decide) qf_X4_60 (v := .ref (ad g 66)) rfl dX4_copy_22 25 rfl ?_
      refine j_iload_n C dX4_copy_25 rfl 1 rfl 26 rfl ?_
      obtain ⟨v6, hv6, hf⟩ := bnd hf
      refine j4_ald 10 rfl C hv6 dX4_copy_26 27 rfl ?_
      refine j_if_eq C dX4_copy_27 39 (by decide) 30 rfl (fun c7 => ?_) (fun c7 => ?_)
      · rw [if_pos c7] at hf
        refine j_aload_n C dX4_copy_39 rfl 0 rfl 40 rfl ?_
        refine j_ldcw C dX4_copy_40 qk_X4_349 43 rfl ?_
        obtain ⟨⟨r9, S10⟩, hq8, hf⟩ := bnd hf
        dsimp only at hf
        refine j_callVi (As := [.int (-1000006)]) (rest := []) C (c_X4_finding l g sz x S  (-1000006) _ _ hq8) (j_cwV C qc_X4_finding qm_X4_99 qi_X4_finding qs_X4_finding qn_X4 hd_X4_finding ⟨rfl, rfl⟩ ⟨by decide, by decide⟩) (rcv_mo.cell C.2) rfl (Nat.le_of_ble_eq_true rfl) dX4_copy_43 46 rfl ?_
        obtain ⟨rfl, rfl⟩ := Prod.mk.inj (Option.some.inj hf)
        exact j_iret C hr hlk dX4_copy_46
      · rw [if_neg c7] at hf
        refine j_aload_n C dX4_copy_30 rfl 0 rfl 31 rfl ?_
        refine j4_get C 23 (by decide) qf_X4_60 (v := .ref (ad g 66)) rfl dX4_copy_31 34 rfl ?_
        refine j_iload_n C dX4_copy_34 rfl 3 rfl 35 rfl ?_
        obtain ⟨v11, hv11, hf⟩ := bnd hf
        refine j4_ald 10 rfl C hv11 dX4_copy_35 36 rfl ?_
        refine j_if_ne C dX4_copy_36 47 (by decide) 39 rfl (fun c12 => ?_) (fun c12 => ?_)
        · rw [if_neg c12] at hf
          refine j_aload_n C dX4_copy_47 rfl 0 rfl 48 rfl ?_
          refine j4_get C 23 (by decide) qf_X4_60 (v := .ref (ad g 66)) rfl dX4_copy_48 51 rfl ?_
          refine j_iload_n C dX4_copy_51 rfl 1 rfl 52 rfl ?_
          obtain ⟨v13, hv13, hf⟩ := bnd hf
          refine j4_ald 10 rfl C hv13 dX4_copy_52 53 rfl ?_
          refine j_aload_n C dX4_copy_53 rfl 0 rfl 54 rfl ?_
          refine j4_get C 23 (by decide) qf_X4_60 (v := .ref (ad g 66)) rfl dX4_copy_54 57 rfl ?_
          refine j_iload_n C dX4_copy_57 rfl 3 rfl 58 rfl ?_
          obtain ⟨v14, hv14, hf⟩ := bnd hf
          refine j4_ald 10 rfl C hv14 dX4_copy_58 59 rfl ?_
          refine j_icmp_eq C dX4_copy_59 70 (by decide) 62 rfl (fun c15 => ?_) (fun c15 => ?_)
          · rw [if_pos c15] at hf
            refine j_iload_n C dX4_copy_70 rfl 2 rfl 71 rfl ?_
            refine j_if_lt C dX4_copy_71 119 (by decide) 74 rfl (fun c16 => ?_) (fun c16 => ?_)
            · rw [if_pos c16] at hf
              refine j_aload_n C dX4_copy_119 rfl 0 rfl 120 rfl ?_
              refine j_ldc C dX4_copy_120 qk_X4_72 122 rfl ?_
              obtain ⟨⟨r18, S19⟩, hq17, hf⟩ := bnd hf
              dsimp only at hf
              refine j_callVi (As := [.int (-1000001)]) (rest := []) C (c_X4_finding l g sz x S  (-1000001) _ _ hq17) (j_cwV C qc_X4_finding qm_X4_99 qi_X4_finding qs_X4_finding qn_X4 hd_X4_finding ⟨rfl, rfl⟩ ⟨by decide, by decide⟩) (rcv_mo.cell C.2) rfl (Nat.le_of_ble_eq_true rfl) dX4_copy_122 125 rfl ?_
              obtain ⟨rfl, rfl⟩ := Prod.mk.inj (Option.some.inj hf)
              exact j_iret C hr hlk dX4_copy_125
            · rw [if_neg c16] at hf
              refine j_iload C dX4_copy_74 4 rfl 76 rfl ?_
              refine j_if_lt C dX4_copy_76 119 (by decide) 79 rfl (fun c20 => ?_) (fun c20 => ?_)
              · rw [if_pos c20] at hf
                refine j_aload_n C dX4_copy_119 rfl 0 rfl 120 rfl ?_
                refine j_ldc C dX4_copy_120 qk_X4_72 122 rfl ?_
                obtain ⟨⟨r22, S23⟩, hq21, hf⟩ := bnd hf
                dsimp only at hf
                refine j_callVi (As := [.int (-1000001)]) (rest := []) C (c_X4_finding l g sz x S  (-1000001) _ _ hq21) (j_cwV C qc_X4_finding qm_X4_99 qi_X4_finding qs_X4_finding qn_X4 hd_X4_finding ⟨rfl, rfl⟩ ⟨by decide, by decide⟩) (rcv_mo.cell C.2) rfl (Nat.le_of_ble_eq_true rfl) dX4_copy_122 125 rfl ?_
                obtain ⟨rfl, rfl⟩ := Prod.mk.inj (Option.some.inj hf)
                exact j_iret C hr hlk dX4_copy_125
              · rw [if_neg c20] at hf
                refine j_iload C dX4_copy_79 5 rfl 81 rfl ?_
                refine j_if_lt C dX4_copy_81 119 (by decide) 84 rfl (fun c24 => ?_) (fun c24 => ?_)
                · rw [if_pos c24] at hf
                  refine j_aload_n C dX4_copy_119 rfl 0 rfl 120 rfl ?_
                  refine j_ldc C dX4_copy_120 qk_X4_72 122 rfl ?_
                  obtain ⟨⟨r26, S27⟩, hq25, hf⟩ := bnd hf
                  dsimp only at hf
                  refine j_callVi (As := [.int (-1000001)]) (rest := []) C (c_X4_finding l g sz x S  (-1000001) _ _ hq25) (j_cwV C qc_X4_finding qm_X4_99 qi_X4_finding qs_X4_finding qn_X4 hd_X4_finding ⟨rfl, rfl⟩ ⟨by decide, by decide⟩) (rcv_mo.cell C.2) rfl (Nat.le_of_ble_eq_true rfl) dX4_copy_122 125 rfl ?_
                  obtain ⟨rfl, rfl⟩ := Prod.mk.inj (Option.some.inj hf)
                  exact j_iret C hr hlk dX4_copy_125
                · rw [if_neg c24] at hf
                  refine j_iload_n C dX4_copy_84 rfl 2 rfl 85 rfl ?_
                  refine j_i2l C dX4_copy_85 86 rfl ?_
                  refine j_iload C dX4_copy_86 5 rfl 88 rfl ?_
                  refine j_i2l C dX4_copy_88 89 rfl ?_
                  refine j_ladd C dX4_copy_89 90 rfl ?_
                  refine j_aload_n C dX4_copy_90 rfl 0 rfl 91 rfl ?_
                  refine j4_get C 24 (by decide) qf_X4_63 (v := .ref (ad g 67)) rfl dX4_copy_91 94 rfl ?_
                  refine j_iload_n C dX4_copy_94 rfl 1 rfl 95 rfl ?_
                  obtain ⟨v28, hv28, hf⟩ := bnd hf
                  refine j4_ald 11 rfl C hv28 dX4_copy_95 96 rfl ?_
                  refine j_i2l C dX4_copy_96 97 rfl ?_
                  refine j_lcmp C dX4_copy_97 98 rfl ?_
                  refine j_if_gt C dX4_copy_98 119 (by decide) 101 rfl (fun c29 => ?_) (fun c29 => ?_)
                  · rw [if_pos c29] at hf
                    refine j_aload_n C dX4_copy_119 rfl 0 rfl 120 rfl ?_
                    refine j_ldc C dX4_copy_120 qk_X4_72 122 rfl ?_
                    obtain ⟨⟨r31, S32⟩, hq30, hf⟩ := bnd hf
                    dsimp only at hf
                    refine j_callVi (As := [.int (-1000001)]) (rest := []) C (c_X4_finding l g sz x S  (-1000001) _ _ hq30) (j_cwV C qc_X4_finding qm_X4_99 qi_X4_finding qs_X4_finding qn_X4 hd_X4_finding ⟨rfl, rfl⟩ ⟨by decide, by decide⟩) (rcv_mo.cell C.2) rfl (Nat.le_of_ble_eq_true rfl) dX4_copy_122 125 rfl ?_
                    obtain ⟨rfl, rfl⟩ := Prod.mk.inj (Option.some.inj hf)
                    exact j_iret C hr hlk dX4_copy_125
                  · rw [if_neg c29] at hf
                    refine j_iload C dX4_copy_101 4 rfl 103 rfl ?_
                    refine j_i2l C dX4_copy_103 104 rfl ?_
                    refine j_iload C dX4_copy_104 5 rfl 106 rfl ?_
                    refine j_i2l C dX4_copy_106 107 rfl ?_
                    refine j_ladd C dX4_copy_107 108 rfl ?_
                    refine j_aload_n C dX4_copy_108 rfl 0 rfl 109 rfl ?_
                    refine j4_get C 24 (by decide) qf_X4_63 (v := .ref (ad g 67)) rfl dX4_copy_109 112 rfl ?_
                    refine j_iload_n C dX4_copy_112 rfl 3 rfl 113 rfl ?_
                    obtain ⟨v33, hv33, hf⟩ := bnd hf
                    refine j4_ald 11 rfl C hv33 dX4_copy_113 114 rfl ?_
                    refine j_i2l C dX4_copy_114 115 rfl ?_
                    refine j_lcmp C dX4_copy_115 116 rfl ?_
                    refine j_if_le C dX4_copy_116 126 (by decide) 119 rfl (fun c34 => ?_) (fun c34 => ?_)
                    · rw [if_pos c34] at hf
                      refine j_iconst C dX4_copy_126 (v := 0) c_iconst_0 127 rfl ?_
                      refine j_istore (lv2 := [(6, .int 0), (0, .ref (ad g 56)), (1, .int a1), (2, .int a2), (3, .int a3), (4, .int a4), (5, .int a5)]) C dX4_copy_127 (by decide) rfl 129 rfl ?_
                      refine j_sub [1, 2, 3, 4, 5, 6, 0] rfl ?_
                      exact hL129 FU a1 a2 a3 a4 a5 0 S hf
                    · rw [if_neg c34] at hf
                      refine j_aload_n C dX4_copy_119 rfl 0 rfl 120 rfl ?_
                      refine j_ldc C dX4_copy_120 qk_X4_72 122 rfl ?_
                      obtain ⟨⟨r42, S43⟩, hq41, hf⟩ := bnd hf
                      dsimp only at hf
                      refine j_callVi (As := [.int (-1000001)]) (rest := []) C (c_X4_finding l g sz x S  (-1000001) _ _ hq41) (j_cwV C qc_X4_finding qm_X4_99 qi_X4_finding qs_X4_finding qn_X4 hd_X4_finding ⟨rfl, rfl⟩ ⟨by decide, by decide⟩) (rcv_mo.cell C.2) rfl (Nat.le_of_ble_eq_true rfl) dX4_copy_122 125 rfl ?_
                      obtain ⟨rfl, rfl⟩ := Prod.mk.inj (Option.some.inj hf)
                      exact j_iret C hr hlk dX4_copy_125
          · rw [if_neg c15] at hf
            refine j_aload_n C dX4_copy_62 rfl 0 rfl 63 rfl ?_
            refine j_ldcw C dX4_copy_63 qk_X4_350 66 rfl ?_
            obtain ⟨⟨r45, S46⟩, hq44, hf⟩ := bnd hf
            dsimp only at hf
            refine j_callVi (As := [.int (-1000003)]) (rest := []) C (c_X4_finding l g sz x S  (-1000003) _ _ hq44) (j_cwV C qc_X4_finding qm_X4_99 qi_X4_finding qs_X4_finding qn_X4 hd_X4_finding ⟨rfl, rfl⟩ ⟨by decide, by decide⟩) (rcv_mo.cell C.2) rfl (Nat.le_of_ble_eq_true rfl) dX4_copy_66 69 rfl ?_
            obtain ⟨rfl, rfl⟩ := Prod.mk.inj (Option.some.inj hf)
            exact j_iret C hr hlk dX4_copy_69
        · rw [if_pos c12] at hf
          refine j_aload_n C dX4_copy_39 rfl 0 rfl 40 rfl ?_
          refine j_ldcw C dX4_copy_40 qk_X4_349 43 rfl ?_
          obtain ⟨⟨r48, S49⟩, hq47, hf⟩ := bnd hf
          dsimp only at hf
          refine j_callVi (As := [.int (-1000006)]) (rest := []) C (c_X4_finding l g sz x S  (-1000006) _ _ hq47) (j_cwV C qc_X4_finding qm_X4_99 qi_X4_finding qs_X4_finding qn_X4 hd_X4_finding ⟨rfl, rfl⟩ ⟨by decide, by decide⟩) (rcv_mo.cell C.2) rfl (Nat.le_of_ble_eq_true rfl) dX4_copy_43 46 rfl ?_
          obtain ⟨rfl, rfl⟩ := Prod.mk.inj (Option.some.inj hf)
          exact j_iret C hr hlk dX4_copy_46
    · rw [if_pos c5] at hf
      refine j_aload_n C dX4_copy_14 rfl 0 rfl 15 rfl ?_
      refine j_ldc C dX4_copy_15 qk_X4_72 17 rfl ?_
      obtain ⟨⟨r51, S52⟩, hq50, hf⟩ := bnd hf
      dsimp only at hf
      refine j_callVi (As := [.int (-1000001)]) (rest := []) C (c_X4_finding l g sz x S  (-1000001) _ _ hq50) (j_cwV C qc_X4_finding qm_X4_99 qi_X4_finding qs_X4_finding qn_X4 hd_X4_finding ⟨rfl, rfl⟩ ⟨by decide, by decide⟩) (rcv_mo.cell C.2) rfl (Nat.le_of_ble_eq_true rfl) dX4_copy_17 20 rfl ?_
      obtain ⟨rfl, rfl⟩ := Prod.mk.inj (Option.some.inj hf)
      exact j_iret C hr hlk dX4_copy_20
set_option maxRecDepth 100000 in
set_option maxHeartbeats 4000000 in
theorem c_X4_load (l : Launch) (g : GG) (sz : Nat) (x S : St) (a1 : Int32) (r : Int32) (S' : St) (hf : X4_load a1 S = some (r, S')) : Met l yX4_load (.code yX4_load cX4_load 3 (some .int) :: ALLW) (rmJ 7 156) (PcJ g sz x S [.ref (ad g 56), .int a1]) (QiJ g sz r x S') 0 0 (Ag sz) := by
  refine j_met (own := RX4) (by decide) rfl (Nat.le_of_ble_eq_true rfl) rfl ?_
  intro p e s m args below meth c C hr hlk
  have hL33 : ∀ (n : Nat), ∀ (b1 : Int32) (b2 : Int32) (S : St), X4_load_L33 n b1 b2 S = some (r, S') → Wj p l e (rmJ 7 156) s m args below meth c (MQ below (QiJ g sz r x S') args s 0 0 (Ag sz)) 3 g sz x S 33 [(0, .ref (ad g 56)), (1, .int b1), (2, .int b2)] [] := by
    intro  n
    induction n with
    | zero =>
      intro b1 b2 S hf
      rw [X4_load_L33] at hf
      cases hf
    | succ n ih =>
      intro b1 b2 S hf
      rw [X4_load_L33] at hf
      refine j_iload_n C dX4_load_33 rfl 2 rfl 34 rfl ?_
      refine j_aload_n C dX4_load_34 rfl 0 rfl 35 rfl ?_
      refine j4_get C 24 (by decide) qf_X4_63 (v := .ref (ad g 67)) rfl dX4_load_35 38 rfl ?_
      refine j_iload_n C dX4_load_38 rfl 1 rfl 39 rfl ?_
      obtain ⟨v4, hv4, hf⟩ := bnd hf
      refine j4_ald 11 rfl C hv4 dX4_load_39 40 rfl ?_
      refine j_icmp_ge C dX4_load_40 110 (by decide) 43 rfl (fun c5 => ?_) (fun c5 => ?_)
      · rw [if_pos c5] at hf
        refine j_iload_n C dX4_load_110 rfl 2 rfl 111 rfl ?_
        obtain ⟨rfl, rfl⟩ := Prod.mk.inj (Option.some.inj hf)
        exact j_iret C hr hlk dX4_load_111
      · rw [if_neg c5] at hf
        refine j_aload_n C dX4_load_43 rfl 0 rfl 44 rfl ?_
        refine j4_get C 25 (by decide) qf_X4_66 (v := .ref (ad g 68)) rfl dX4_load_44 47 rfl ?_
        refine j_bipush C dX4_load_47 (v := 40) c_bipush_40 49 rfl ?_
        refine j_iload_n C dX4_load_49 rfl 1 rfl 50 rfl ?_
        refine j_imul C dX4_load_50 51 rfl ?_
        refine j_iload_n C dX4_load_51 rfl 2 rfl 52 rfl ?_
        refine j_iadd C dX4_load_52 53 rfl ?_
        obtain ⟨v6, hv6, hf⟩ := bnd hf
        refine j4_ald 12 rfl C hv6 dX4_load_53 54 rfl ?_
        refine j_callSi (As := [.int v6]) (rest := []) C (c_X4_isColumn l g sz x S v6 _ rfl) (j_cwS C qc_X4_isColumn qm_X4_81 qs_X4_isColumn qn_X4 hd_X4_isColumn ⟨rfl, rfl⟩ ⟨by decide, by decide⟩)  rfl (Nat.le_of_ble_eq_true rfl) dX4_load_54 57 rfl ?_
        refine j_if_eq C dX4_load_57 110 (by decide) 60 rfl (fun c7 => ?_) (fun c7 => ?_)
        · rw [if_pos c7] at hf
          refine j_iload_n C dX4_load_110 rfl 2 rfl 111 rfl ?_
          obtain ⟨rfl, rfl⟩ := Prod.mk.inj (Option.some.inj hf)
          exact j_iret C hr hlk dX4_load_111
        · rw [if_neg c7] at hf
          refine j_aload_n C dX4_load_60 rfl 0 rfl 61 rfl ?_
          obtain ⟨r8, hr8, hf⟩ := bnd hf
          refine j_callVi (As := []) (rest := []) C (c_X4_leastInHand l g sz x S   _ hr8) (j_cwV C qc_X4_leastInHand qm_X4_230 qi_X4_leastInHand qs_X4_leastInHand qn_X4 hd_X4_leastInHand ⟨rfl, rfl⟩ ⟨by decide, by decide⟩) (rcv_mo.cell C.2) rfl (Nat.le_of_ble_eq_true rfl) dX4_load_61 64 rfl ?_
          refine j_aload_n C dX4_load_64 rfl 0 rfl 65 rfl ?_
          refine j4_get C 0 (by decide) qf_X4_9 (v := .ref (ad g 57)) rfl dX4_load_65 68 rfl ?_
          refine j_iconst C dX4_load_68 (v := 4) c_iconst_4 69 rfl ?_
          obtain ⟨v9, hv9, hf⟩ := bnd hf
          refine j4_ald 1 rfl C hv9 dX4_load_69 70 rfl ?_
          refine j_icmp_ge C dX4_load_70 110 (by decide) 73 rfl (fun c10 => ?_) (fun c10 => ?_)
          · rw [if_pos c10] at hf
            refine j_iload_n C dX4_load_110 rfl 2 rfl 111 rfl ?_
            obtain ⟨rfl, rfl⟩ := Prod.mk.inj (Option.some.inj hf)
            exact j_iret C hr hlk dX4_load_111
          · rw [if_neg c10] at hf
            refine j_aload_n C dX4_load_73 rfl 0 rfl 74 rfl ?_
            refine j4_get C 0 (by decide) qf_X4_9 (v := .ref (ad g 57)) rfl dX4_load_74 77 rfl ?_
            refine j_iconst C dX4_load_77 (v := 0) c_iconst_0 78 rfl ?_
            obtain ⟨v11, hv11, hf⟩ := bnd hf
            refine j4_ald 1 rfl C hv11 dX4_load_78 79 rfl ?_
            refine j_sipush C dX4_load_79 (v := 9999) c_sipush_9999 82 rfl ?_
            refine j_icmp_ge C dX4_load_82 110 (by decide) 85 rfl (fun c12 => ?_) (fun c12 => ?_)
            · rw [if_pos c12] at hf
              refine j_iload_n C dX4_load_110 rfl 2 rfl 111 rfl ?_
              obtain ⟨rfl, rfl⟩ := Prod.mk.inj (Option.some.inj hf)
              exact j_iret C hr hlk dX4_load_111
            · rw [if_neg c12] at hf
              refine j_aload_n C dX4_load_85 rfl 0 rfl 86 rfl ?_
              refine j_aload_n C dX4_load_86 rfl 0 rfl 87 rfl ?_
              obtain ⟨r13, hr13, hf⟩ := bnd hf
              refine j_callVi (As := []) (rest := [.ref (ad g 56)]) C (c_X4_leastInHand l g sz x S   _ hr13) (j_cwV C qc_X4_leastInHand qm_X4_230 qi_X4_leastInHand qs_X4_leastInHand qn_X4 hd_X4_leastInHand ⟨rfl, rfl⟩ ⟨by decide, by decide⟩) (rcv_mo.cell C.2) rfl (Nat.le_of_ble_eq_true rfl) dX4_load_87 90 rfl ?_
              refine j_aload_n C dX4_load_90 rfl 0 rfl 91 rfl ?_
              refine j4_get C 25 (by decide) qf_X4_66 (v := .ref (ad g 68)) rfl dX4_load_91 94 rfl ?_
              refine j_bipush C dX4_load_94 (v := 40) c_bipush_40 96 rfl ?_
              refine j_iload_n C dX4_load_96 rfl 1 rfl 97 rfl ?_
              refine j_imul C dX4_load_97 98 rfl ?_
              refine j_iload_n C dX4_load_98 rfl 2 rfl 99 rfl ?_
              refine j_iadd C dX4_load_99 100 rfl ?_
              obtain ⟨v14, hv14, hf⟩ := bnd hf
              refine j4_ald 12 rfl C hv14 dX4_load_100 101 rfl ?_
              obtain ⟨S15, hS15, hf⟩ := bnd hf
              refine j_callVv (As := [.int r13, .int v14]) (rest := []) C (c_X4_dropped l g sz x S  r13 v14 _ hS15) (j_cwV C qc_X4_dropped qm_X4_190 qi_X4_dropped qs_X4_dropped qn_X4 hd_X4_dropped ⟨rfl, rfl⟩ ⟨by decide, by decide⟩) (rcv_mo.cell C.2) rfl (Nat.le_of_ble_eq_true rfl) dX4_load_101 104 rfl ?_
              refine j_iinc (lv2 := [(2, .int (b2 + 1)), (0, .ref (ad g 56)), (1, .int b1)]) C dX4_load_104 (k := 2) rfl (congrArg (HAdd.hAdd b2) c_oi_1) (by decide) rfl 107 rfl ?_
              refine j_goto C dX4_load_107 33 (by decide) ?_
              refine j_sub [1, 2, 0] rfl ?_
              exact ih b1 (b2 + 1) S15 hf
  unfold X4_load at hf
  refine j_iload_n C dX4_load_0 rfl 1 rfl 1 rfl ?_
  refine j_callSi (As := [.int a1]) (rest := []) C (c_X4_isSheet l g sz x S a1 _ rfl) (j_cwS C qc_X4_isSheet qm_X4_351 qs_X4_isSheet qn_X4 hd_X4_isSheet ⟨rfl, rfl⟩ ⟨by decide, by decide⟩)  rfl (Nat.le_of_ble_eq_true rfl) dX4_load_1 4 rfl ?_
  refine j_if_ne C dX4_load_4 14 (by decide) 7 rfl (fun c1 => ?_) (fun c1 => ?_)
  · rw [if_neg c1] at hf
    refine j_aload_n C dX4_load_14 rfl 0 rfl 15 rfl ?_
    refine j4_get C 23 (by decide) qf_X4_60 (v := .ref (ad g 66)) rfl dX4_load_15 18 rfl ?_
    refine j_iload_n C dX4_load_18 rfl 1 rfl 19 rfl ?_
    obtain ⟨v2, hv2, hf⟩ := bnd hf
    refine j4_ald 10 rfl C hv2 dX4_load_19 20 rfl ?_
    refine j_if_ne C dX4_load_20 31 (by decide) 23 rfl (fun c3 => ?_) (fun c3 => ?_)
    · rw [if_neg c3] at hf
      refine j_iconst C dX4_load_31 (v := 0) c_iconst_0 32 rfl ?_
      refine j_istore_n (lv2 := [(2, .int 0), (0, .ref (ad g 56)), (1, .int a1)]) C dX4_load_32 rfl (by decide) rfl 33 rfl ?_
      refine j_sub [1, 2, 0] rfl ?_
      exact hL33 FU a1 0 S hf
    · rw [if_pos c3] at hf
      refine j_aload_n C dX4_load_23 rfl 0 rfl 24 rfl ?_
      refine j_ldcw C dX4_load_24 qk_X4_349 27 rfl ?_
      obtain ⟨⟨r17, S18⟩, hq16, hf⟩ := bnd hf
      dsimp only at hf
      refine j_callVi (As := [.int (-1000006)]) (rest := []) C (c_X4_finding l g sz x S  (-1000006) _ _ hq16) (j_cwV C qc_X4_finding qm_X4_99 qi_X4_finding qs_X4_finding qn_X4 hd_X4_finding ⟨rfl, rfl⟩ ⟨by decide, by decide⟩) (rcv_mo.cell C.2) rfl (Nat.le_of_ble_eq_true rfl) dX4_load_27 30 rfl ?_
      obtain ⟨rfl, rfl⟩ := Prod.mk.inj (Option.some.inj hf)
      exact j_iret C hr hlk dX4_load_30
  · rw [if_pos c1] at hf
    refine j_aload_n C dX4_load_7 rfl 0 rfl 8 rfl ?_
    refine j_ldc C dX4_load_8 qk_X4_72 10 rfl ?_
    obtain ⟨⟨r20, S21⟩, hq19, hf⟩ := bnd hf
    dsimp only at hf
    refine j_callVi (As := [.int (-1000001)]) (rest := []) C (c_X4_finding l g sz x S  (-1000001) _ _ hq19) (j_cwV C qc_X4_finding qm_X4_99 qi_X4_finding qs_X4_finding qn_X4 hd_X4_finding ⟨rfl, rfl⟩ ⟨by decide, by decide⟩) (rcv_mo.cell C.2) rfl (Nat.le_of_ble_eq_true rfl) dX4_load_10 13 rfl ?_
    obtain ⟨rfl, rfl⟩ := Prod.mk.inj (Option.some.inj hf)
    exact j_iret C hr hlk dX4_load_13
set_option maxRecDepth 100000 in
set_option maxHeartbeats 4000000 in
theorem c_X4_judge (l : Launch) (g : GG) (sz : Nat) (x S : St) (a1 : Int32) (r : Int32) (S' : St) (hf : X4_judge a1 S = some (r, S')) : Met l yX4_judge (.code yX4_judge cX4_judge 3 (some .int) :: ALLW) (rmJ 7 155) (PcJ g sz x S [.ref (ad g 56), .int a1]) (QiJ g sz r x S') 0 0 (Ag sz) := by
  refine j_met (own := RX4) (by decide) rfl (Nat.le_of_ble_eq_true rfl) rfl ?_
  intro p e s m args below meth c C hr hlk
  have hL99 : ∀ (b1 : Int32) (b2 : Int32) (S : St), X4_judge_L99 b1 b2 S = some (r, S') → Wj p l e (rmJ 7 155) s m args below meth c (MQ below (QiJ g sz r x S') args s 0 0 (Ag sz)) 3 g sz x S 99 [(0, .ref (ad g 56)), (1, .int b1), (2, .int b2)] [] := by
    intro  b1 b2 S hf
    unfold X4_judge_L99 at hf
    refine j_aload_n C dX4_judge_99 rfl 0 rfl 100 rfl ?_
    refine j_iload_n C dX4_judge_100 rfl 2 rfl 101 rfl ?_
    refine j_aload_n C dX4_judge_101 rfl 0 rfl 102 rfl ?_
    refine j4_get C 24 (by decide) qf_X4_63 (v := .ref (ad g 67)) rfl dX4_judge_102 105 rfl ?_
    refine j_iload_n C dX4_judge_105 rfl 1 rfl 106 rfl ?_
    obtain ⟨v10, hv10, hf⟩ := bnd hf
    refine j4_ald 11 rfl C hv10 dX4_judge_106 107 rfl ?_
    refine j_icmp_ne C dX4_judge_107 114 (by decide) 110 rfl (fun c11 => ?_) (fun c11 => ?_)
    · rw [if_neg c11] at hf
      refine j_iconst C dX4_judge_114 (v := 1) c_iconst_1 115 rfl ?_
      refine j_iload_n C dX4_judge_115 rfl 2 rfl 116 rfl ?_
      refine j_iadd C dX4_judge_116 117 rfl ?_
      obtain ⟨⟨r13, S14⟩, hq12, hf⟩ := bnd hf
      dsimp only at hf
      refine j_callVi (As := [.int (1 + b2)]) (rest := []) C (c_X4_putBack l g sz x S  (1 + b2) _ _ hq12) (j_cwV C qc_X4_putBack qm_X4_210 qi_X4_putBack qs_X4_putBack qn_X4 hd_X4_putBack ⟨rfl, rfl⟩ ⟨by decide, by decide⟩) (rcv_mo.cell C.2) rfl (Nat.le_of_ble_eq_true rfl) dX4_judge_117 120 rfl ?_
      obtain ⟨rfl, rfl⟩ := Prod.mk.inj (Option.some.inj hf)
      exact j_iret C hr hlk dX4_judge_120
    · rw [if_pos c11] at hf
      refine j_iconst C dX4_judge_110 (v := 0) c_iconst_0 111 rfl ?_
      refine j_goto C dX4_judge_111 117 (by decide) ?_
      obtain ⟨⟨r16, S17⟩, hq15, hf⟩ := bnd hf
      dsimp only at hf
      refine j_callVi (As := [.int 0]) (rest := []) C (c_X4_putBack l g sz x S  0 _ _ hq15) (j_cwV C qc_X4_putBack qm_X4_210 qi_X4_putBack qs_X4_putBack qn_X4 hd_X4_putBack ⟨rfl, rfl⟩ ⟨by decide, by decide⟩) (rcv_mo.cell C.2) rfl (Nat.le_of_ble_eq_true rfl) dX4_judge_117 120 rfl ?_
      obtain ⟨rfl, rfl⟩ := Prod.mk.inj (Option.some.inj hf)
      exact j_iret C hr hlk dX4_judge_120
  have hL64 : ∀ (n : Nat), ∀ (b1 : Int32) (b2 : Int32) (S : St), X4_judge_L64 n b1 b2 S = some (r, S') → Wj p l e (rmJ 7 155) s m args below meth c (MQ below (QiJ g sz r x S') args s 0 0 (Ag sz)) 3 g sz x S 64 [(0, .ref (ad g 56)), (1, .int b1), (2, .int b2)] [] := by
    intro  n
    induction n with
    | zero =>
      intro b1 b2 S hf
      rw [X4_judge_L64] at hf
      cases hf
    | succ n ih =>
      intro b1 b2 S hf
      rw [X4_judge_L64] at hf
      refine j_iload_n C dX4_judge_64 rfl 2 rfl 65 rfl ?_
      refine j_aload_n C dX4_judge_65 rfl 0 rfl 66 rfl ?_
      refine j4_get C 24 (by decide) qf_X4_63 (v := .ref (ad g 67)) rfl dX4_judge_66 69 rfl ?_
      refine j_iload_n C dX4_judge_69 rfl 1 rfl 70 rfl ?_
      obtain ⟨v8, hv8, hf⟩ := bnd hf
      refine j4_ald 11 rfl C hv8 dX4_judge_70 71 rfl ?_
      refine j_icmp_ge C dX4_judge_71 99 (by decide) 74 rfl (fun c9 => ?_) (fun c9 => ?_)
      · rw [if_pos c9] at hf
        exact hL99 b1 b2 S hf
      · rw [if_neg c9] at hf
        refine j_aload_n C dX4_judge_74 rfl 0 rfl 75 rfl ?_
        refine j_iconst C dX4_judge_75 (v := 1) c_iconst_1 76 rfl ?_
        obtain ⟨⟨r19, S20⟩, hq18, hf⟩ := bnd hf
        dsimp only at hf
        refine j_callVi (As := [.int 1]) (rest := []) C (c_X4_beatsGo l g sz x S  1 _ _ hq18) (j_cwV C qc_X4_beatsGo qm_X4_196 qi_X4_beatsGo qs_X4_beatsGo qn_X4 hd_X4_beatsGo ⟨rfl, rfl⟩ ⟨by decide, by decide⟩) (rcv_mo.cell C.2) rfl (Nat.le_of_ble_eq_true rfl) dX4_judge_76 79 rfl ?_
        refine j_aload_n C dX4_judge_79 rfl 0 rfl 80 rfl ?_
        refine j4_get C 25 (by decide) qf_X4_66 (v := .ref (ad g 68)) rfl dX4_judge_80 83 rfl ?_
        refine j_bipush C dX4_judge_83 (v := 40) c_bipush_40 85 rfl ?_
        refine j_iload_n C dX4_judge_85 rfl 1 rfl 86 rfl ?_
        refine j_imul C dX4_judge_86 87 rfl ?_
        refine j_iload_n C dX4_judge_87 rfl 2 rfl 88 rfl ?_
        refine j_iadd C dX4_judge_88 89 rfl ?_
        obtain ⟨v21, hv21, hf⟩ := bnd hf
        refine j4_ald 12 rfl C hv21 dX4_judge_89 90 rfl ?_
        refine j_icmp_ne C dX4_judge_90 99 (by decide) 93 rfl (fun c22 => ?_) (fun c22 => ?_)
        · rw [if_neg c22] at hf
          exact hL99 b1 b2 S20 hf
        · rw [if_pos c22] at hf
          refine j_iinc (lv2 := [(2, .int (b2 + 1)), (0, .ref (ad g 56)), (1, .int b1)]) C dX4_judge_93 (k := 2) rfl (congrArg (HAdd.hAdd b2) c_oi_1) (by decide) rfl 96 rfl ?_
          refine j_goto C dX4_judge_96 64 (by decide) ?_
          refine j_sub [1, 2, 0] rfl ?_
          exact ih b1 (b2 + 1) S20 hf
  unfold X4_judge at hf
  refine j_iload_n C dX4_judge_0 rfl 1 rfl 1 rfl ?_
  refine j_callSi (As := [.int a1]) (rest := []) C (c_X4_isSheet l g sz x S a1 _ rfl) (j_cwS C qc_X4_isSheet qm_X4_351 qs_X4_isSheet qn_X4 hd_X4_isSheet ⟨rfl, rfl⟩ ⟨by decide, by decide⟩)  rfl (Nat.le_of_ble_eq_true rfl) dX4_judge_1 4 rfl ?_
  refine j_if_ne C dX4_judge_4 14 (by decide) 7 rfl (fun c1 => ?_) (fun c1 => ?_)
  · rw [if_neg c1] at hf
    refine j_aload_n C dX4_judge_14 rfl 0 rfl 15 rfl ?_
    refine j4_get C 23 (by decide) qf_X4_60 (v := .ref (ad g 66)) rfl dX4_judge_15 18 rfl ?_
    refine j_iload_n C dX4_judge_18 rfl 1 rfl 19 rfl ?_
    obtain ⟨v2, hv2, hf⟩ := bnd hf
    refine j4_ald 10 rfl C hv2 dX4_judge_19 20 rfl ?_
    refine j_if_ne C dX4_judge_20 31 (by decide) 23 rfl (fun c3 => ?_) (fun c3 => ?_)
    · rw [if_neg c3] at hf
      refine j_aload_n C dX4_judge_31 rfl 0 rfl 32 rfl ?_
      refine j_aload_n C dX4_judge_32 rfl 0 rfl 33 rfl ?_
      refine j4_get C 24 (by decide) qf_X4_63 (v := .ref (ad g 67)) rfl dX4_judge_33 36 rfl ?_
      refine j_iload_n C dX4_judge_36 rfl 1 rfl 37 rfl ?_
      obtain ⟨v4, hv4, hf⟩ := bnd hf
      refine j4_ald 11 rfl C hv4 dX4_judge_37 38 rfl ?_
      obtain ⟨r5, hr5, hf⟩ := bnd hf
      refine j_callVi (As := [.int v4]) (rest := []) C (c_X4_isTooLate l g sz x S  v4 _ hr5) (j_cwV C qc_X4_isTooLate qm_X4_193 qi_X4_isTooLate qs_X4_isTooLate qn_X4 hd_X4_isTooLate ⟨rfl, rfl⟩ ⟨by decide, by decide⟩) (rcv_mo.cell C.2) rfl (Nat.le_of_ble_eq_true rfl) dX4_judge_38 41 rfl ?_
      refine j_if_eq C dX4_judge_41 51 (by decide) 44 rfl (fun c6 => ?_) (fun c6 => ?_)
      · rw [if_pos c6] at hf
        refine j_aload_n C dX4_judge_51 rfl 0 rfl 52 rfl ?_
        refine j4_get C 0 (by decide) qf_X4_9 (v := .ref (ad g 57)) rfl dX4_judge_52 55 rfl ?_
        refine j_aload_n C dX4_judge_55 rfl 0 rfl 56 rfl ?_
        refine j4_get C 2 (by decide) qf_X4_16 (v := .ref (ad g 59)) rfl dX4_judge_56 59 rfl ?_
        obtain ⟨S7, hS7, hf⟩ := bnd hf
        refine j_callSv (As := [.ref (ad g 57), .ref (ad g 59)]) (rest := []) C (c_X4_copyRow l g sz x S  1 rfl 3 rfl _ hS7) (j_cwS C qc_X4_copyRow qm_X4_73 qs_X4_copyRow qn_X4 hd_X4_copyRow ⟨rfl, rfl⟩ ⟨by decide, by decide⟩)  rfl (Nat.le_of_ble_eq_true rfl) dX4_judge_59 62 rfl ?_
        refine j_iconst C dX4_judge_62 (v := 0) c_iconst_0 63 rfl ?_
        refine j_istore_n (lv2 := [(2, .int 0), (0, .ref (ad g 56)), (1, .int a1)]) C dX4_judge_63 rfl (by decide) rfl 64 rfl ?_
        refine j_sub [1, 2, 0] rfl ?_
        exact hL64 FU a1 0 S7 hf
      · rw [if_neg c6] at hf
        refine j_aload_n C dX4_judge_44 rfl 0 rfl 45 rfl ?_
        refine j_ldc C dX4_judge_45 qk_X4_137 47 rfl ?_
        obtain ⟨⟨r24, S25⟩, hq23, hf⟩ := bnd hf
        dsimp only at hf
        refine j_callVi (As := [.int (-1000005)]) (rest := []) C (c_X4_finding l g sz x S  (-1000005) _ _ hq23) (j_cwV C qc_X4_finding qm_X4_99 qi_X4_finding qs_X4_finding qn_X4 hd_X4_finding ⟨rfl, rfl⟩ ⟨by decide, by decide⟩) (rcv_mo.cell C.2) rfl (Nat.le_of_ble_eq_true rfl) dX4_judge_47 50 rfl ?_
        obtain ⟨rfl, rfl⟩ := Prod.mk.inj (Option.some.inj hf)
        exact j_iret C hr hlk dX4_judge_50
    · rw [if_pos c3] at hf
      refine j_aload_n C dX4_judge_23 rfl 0 rfl 24 rfl ?_
      refine j_ldcw C dX4_judge_24 qk_X4_349 27 rfl ?_
      obtain ⟨⟨r27, S28⟩, hq26, hf⟩ := bnd hf
      dsimp only at hf
      refine j_callVi (As := [.int (-1000006)]) (rest := []) C (c_X4_finding l g sz x S  (-1000006) _ _ hq26) (j_cwV C qc_X4_finding qm_X4_99 qi_X4_finding qs_X4_finding qn_X4 hd_X4_finding ⟨rfl, rfl⟩ ⟨by decide, by decide⟩) (rcv_mo.cell C.2) rfl (Nat.le_of_ble_eq_true rfl) dX4_judge_27 30 rfl ?_
      obtain ⟨rfl, rfl⟩ := Prod.mk.inj (Option.some.inj hf)
      exact j_iret C hr hlk dX4_judge_30
  · rw [if_pos c1] at hf
    refine j_aload_n C dX4_judge_7 rfl 0 rfl 8 rfl ?_
    refine j_ldc C dX4_judge_8 qk_X4_72 10 rfl ?_
    obtain ⟨⟨r30, S31⟩, hq29, hf⟩ := bnd hf
    dsimp only at hf
    refine j_callVi (As := [.int (-1000001)]) (rest := []) C (c_X4_finding l g sz x S  (-1000001) _ _ hq29) (j_cwV C qc_X4_finding qm_X4_99 qi_X4_finding qs_X4_finding qn_X4 hd_X4_finding ⟨rfl, rfl⟩ ⟨by decide, by decide⟩) (rcv_mo.cell C.2) rfl (Nat.le_of_ble_eq_true rfl) dX4_judge_10 13 rfl ?_
    obtain ⟨rfl, rfl⟩ := Prod.mk.inj (Option.some.inj hf)
    exact j_iret C hr hlk dX4_judge_13
set_option maxRecDepth 100000 in
set_option maxHeartbeats 4000000 in
theorem c_X4_image (l : Launch) (g : GG) (sz : Nat) (x S : St) (r : Int32) (S' : St) (hf : X4_image S = some (r, S')) : Met l yX4_image (.code yX4_image cX4_image 1 (some .int) :: ALLW) (rmJ 1 22) (PcJ g sz x S [.ref (ad g 56)]) (QiJ g sz r x S') 0 0 (Ag sz) := by
  refine j_met (own := RX4) (by decide) rfl (Nat.le_of_ble_eq_true rfl) rfl ?_
  intro p e s m args below meth c C hr hlk
  unfold X4_image at hf
  refine j_aload_n C dX4_image_0 rfl 0 rfl 1 rfl ?_
  refine j4_get C 0 (by decide) qf_X4_9 (v := .ref (ad g 57)) rfl dX4_image_1 4 rfl ?_
  refine j_aload_n C dX4_image_4 rfl 0 rfl 5 rfl ?_
  refine j4_get C 1 (by decide) qf_X4_13 (v := .ref (ad g 58)) rfl dX4_image_5 8 rfl ?_
  obtain ⟨S1, hS1, hf⟩ := bnd hf
  refine j_callSv (As := [.ref (ad g 57), .ref (ad g 58)]) (rest := []) C (c_X4_copyRow l g sz x S  1 rfl 2 rfl _ hS1) (j_cwS C qc_X4_copyRow qm_X4_73 qs_X4_copyRow qn_X4 hd_X4_copyRow ⟨rfl, rfl⟩ ⟨by decide, by decide⟩)  rfl (Nat.le_of_ble_eq_true rfl) dX4_image_8 11 rfl ?_
  refine j_aload_n C dX4_image_11 rfl 0 rfl 12 rfl ?_
  refine j_iconst C dX4_image_12 (v := 1) c_iconst_1 13 rfl ?_
  obtain ⟨S2, hS2, hf⟩ := bnd hf
  refine j4_putz C 3 rfl rfl rfl qf_X4_358 (Or.inr rfl) dX4_image_13 16 rfl ?_
  rw [Option.some.inj hS2]
  refine j_iconst C dX4_image_16 (v := 1) c_iconst_1 17 rfl ?_
  obtain ⟨rfl, rfl⟩ := Prod.mk.inj (Option.some.inj hf)
  exact j_iret C hr hlk dX4_image_17
set_option maxRecDepth 100000 in
set_option maxHeartbeats 4000000 in
theorem c_X4_undo (l : Launch) (g : GG) (sz : Nat) (x S : St) (r : Int32) (S' : St) (hf : X4_undo S = some (r, S')) : Met l yX4_undo (.code yX4_undo cX4_undo 1 (some .int) :: ALLW) (rmJ 1 22) (PcJ g sz x S [.ref (ad g 56)]) (QiJ g sz r x S') 0 0 (Ag sz) := by
  refine j_met (own := RX4) (by decide) rfl (Nat.le_of_ble_eq_true rfl) rfl ?_
  intro p e s m args below meth c C hr hlk
  unfold X4_undo at hf
  refine j_aload_n C dX4_undo_0 rfl 0 rfl 1 rfl ?_
  refine j4_get C 3 (by decide) qf_X4_358 (v := .int (S 0 3)) rfl dX4_undo_1 4 rfl ?_
  refine j_if_ne C dX4_undo_4 14 (by decide) 7 rfl (fun c1 => ?_) (fun c1 => ?_)
  · rw [if_neg c1] at hf
    refine j_aload_n C dX4_undo_14 rfl 0 rfl 15 rfl ?_
    refine j4_get C 1 (by decide) qf_X4_13 (v := .ref (ad g 58)) rfl dX4_undo_15 18 rfl ?_
    refine j_aload_n C dX4_undo_18 rfl 0 rfl 19 rfl ?_
    refine j4_get C 0 (by decide) qf_X4_9 (v := .ref (ad g 57)) rfl dX4_undo_19 22 rfl ?_
    obtain ⟨S2, hS2, hf⟩ := bnd hf
    refine j_callSv (As := [.ref (ad g 58), .ref (ad g 57)]) (rest := []) C (c_X4_copyRow l g sz x S  2 rfl 1 rfl _ hS2) (j_cwS C qc_X4_copyRow qm_X4_73 qs_X4_copyRow qn_X4 hd_X4_copyRow ⟨rfl, rfl⟩ ⟨by decide, by decide⟩)  rfl (Nat.le_of_ble_eq_true rfl) dX4_undo_22 25 rfl ?_
    refine j_aload_n C dX4_undo_25 rfl 0 rfl 26 rfl ?_
    refine j4_get C 0 (by decide) qf_X4_9 (v := .ref (ad g 57)) rfl dX4_undo_26 29 rfl ?_
    refine j_iconst C dX4_undo_29 (v := 0) c_iconst_0 30 rfl ?_
    obtain ⟨v3, hv3, hf⟩ := bnd hf
    refine j4_ald 1 rfl C hv3 dX4_undo_30 31 rfl ?_
    obtain ⟨rfl, rfl⟩ := Prod.mk.inj (Option.some.inj hf)
    exact j_iret C hr hlk dX4_undo_31
  · rw [if_pos c1] at hf
    refine j_aload_n C dX4_undo_7 rfl 0 rfl 8 rfl ?_
    refine j_ldc C dX4_undo_8 qk_X4_142 10 rfl ?_
    obtain ⟨⟨r5, S6⟩, hq4, hf⟩ := bnd hf
    dsimp only at hf
    refine j_callVi (As := [.int (-1000004)]) (rest := []) C (c_X4_finding l g sz x S  (-1000004) _ _ hq4) (j_cwV C qc_X4_finding qm_X4_99 qi_X4_finding qs_X4_finding qn_X4 hd_X4_finding ⟨rfl, rfl⟩ ⟨by decide, by decide⟩) (rcv_mo.cell C.2) rfl (Nat.le_of_ble_eq_true rfl) dX4_undo_10 13 rfl ?_
    obtain ⟨rfl, rfl⟩ := Prod.mk.inj (Option.some.inj hf)
    exact j_iret C hr hlk dX4_undo_13
set_option maxRecDepth 100000 in
set_option maxHeartbeats 4000000 in
theorem c_X4_tear (l : Launch) (g : GG) (sz : Nat) (x S : St) (r : Int32) (S' : St) (hf : X4_tear S = some (r, S')) : Met l yX4_tear (.code yX4_tear cX4_tear 2 (some .int) :: ALLW) (rmJ 0 0) (PcJ g sz x S [.ref (ad g 56)]) (QiJ g sz r x S') 0 0 (Ag sz) := by
  refine j_met (own := RX4) (by decide) rfl (Nat.le_of_ble_eq_true rfl) rfl ?_
  intro p e s m args below meth c C hr hlk
  unfold X4_tear at hf
  refine j_aload_n C dX4_tear_0 rfl 0 rfl 1 rfl ?_
  refine j4_get C 3 (by decide) qf_X4_358 (v := .int (S 0 3)) rfl dX4_tear_1 4 rfl ?_
  refine j_if_eq C dX4_tear_4 11 (by decide) 7 rfl (fun c1 => ?_) (fun c1 => ?_)
  · rw [if_pos c1] at hf
    refine j_iconst C dX4_tear_11 (v := 0) c_iconst_0 12 rfl ?_
    refine j_istore_n (lv2 := [(1, .int 0), (0, .ref (ad g 56))]) C dX4_tear_12 rfl (by decide) rfl 13 rfl ?_
    refine j_aload_n C dX4_tear_13 rfl 1 rfl 14 rfl ?_
    refine j_iconst C dX4_tear_14 (v := 0) c_iconst_0 15 rfl ?_
    obtain ⟨S2, hS2, hf⟩ := bnd hf
    refine j4_putz C 3 rfl rfl rfl qf_X4_358 (Or.inl rfl) dX4_tear_15 18 rfl ?_
    rw [Option.some.inj hS2]
    refine j_iload_n C dX4_tear_18 rfl 0 rfl 19 rfl ?_
    obtain ⟨rfl, rfl⟩ := Prod.mk.inj (Option.some.inj hf)
    exact j_iret C hr hlk dX4_tear_19
  · rw [if_neg c1] at hf
    refine j_iconst C dX4_tear_7 (v := 1) c_iconst_1 8 rfl ?_
    refine j_goto C dX4_tear_8 12 (by decide) ?_
    refine j_istore_n (lv2 := [(1, .int 1), (0, .ref (ad g 56))]) C dX4_tear_12 rfl (by decide) rfl 13 rfl ?_
    refine j_aload_n C dX4_tear_13 rfl 1 rfl 14 rfl ?_
    refine j_iconst C dX4_tear_14 (v := 0) c_iconst_0 15 rfl ?_
    obtain ⟨S3, hS3, hf⟩ := bnd hf
    refine j4_putz C 3 rfl rfl rfl qf_X4_358 (Or.inl rfl) dX4_tear_15 18 rfl ?_
    rw [Option.some.inj hS3]
    refine j_iload_n C dX4_tear_18 rfl 0 rfl 19 rfl ?_
    obtain ⟨rfl, rfl⟩ := Prod.mk.inj (Option.some.inj hf)
    exact j_iret C hr hlk dX4_tear_19
set_option maxRecDepth 100000 in
set_option maxHeartbeats 4000000 in
theorem c_X4_count (l : Launch) (g : GG) (sz : Nat) (x S : St) (a1 : Int32) (r : Int32) (S' : St) (hf : X4_count a1 S = some (r, S')) : Met l yX4_count (.code yX4_count cX4_count 4 (some .int) :: ALLW) (rmJ 3 65) (PcJ g sz x S [.ref (ad g 56), .int a1]) (QiJ g sz r x S') 0 0 (Ag sz) := by
  refine j_met (own := RX4) (by decide) rfl (Nat.le_of_ble_eq_true rfl) rfl ?_
  intro p e s m args below meth c C hr hlk
  have hL81 : ∀ (n : Nat), ∀ (b2 : Int32) (b3 : Int32) (S : St), X4_count_L81 n b2 b3 S = some (r, S') → Wj p l e (rmJ 3 65) s m args below meth c (MQ below (QiJ g sz r x S') args s 0 0 (Ag sz)) 4 g sz x S 81 [(0, .ref (ad g 56)), (2, .int b2), (3, .int b3)] [] := by
    intro  n
    induction n with
    | zero =>
      intro b2 b3 S hf
      rw [X4_count_L81] at hf
      cases hf
    | succ n ih =>
      intro b2 b3 S hf
      rw [X4_count_L81] at hf
      refine j_iload_n C dX4_count_81 rfl 2 rfl 82 rfl ?_
      refine j_bipush C dX4_count_82 (v := 42) c_bipush_42 84 rfl ?_
      refine j_icmp_ge C dX4_count_84 109 (by decide) 87 rfl (fun c12 => ?_) (fun c12 => ?_)
      · rw [if_pos c12] at hf
        refine j_iload_n C dX4_count_109 rfl 1 rfl 110 rfl ?_
        obtain ⟨rfl, rfl⟩ := Prod.mk.inj (Option.some.inj hf)
        exact j_iret C hr hlk dX4_count_110
      · rw [if_neg c12] at hf
        refine j_iload_n C dX4_count_87 rfl 1 rfl 88 rfl ?_
        refine j_aload_n C dX4_count_88 rfl 0 rfl 89 rfl ?_
        refine j_iload_n C dX4_count_89 rfl 2 rfl 90 rfl ?_
        obtain ⟨r13, hr13, hf⟩ := bnd hf
        refine j_callVi (As := [.int b3]) (rest := [.int b2]) C (c_X4_highOf l g sz x S  b3 _ hr13) (j_cwV C qc_X4_highOf qm_X4_85 qi_X4_highOf qs_X4_highOf qn_X4 hd_X4_highOf ⟨rfl, rfl⟩ ⟨by decide, by decide⟩) (rcv_mo.cell C.2) rfl (Nat.le_of_ble_eq_true rfl) dX4_count_90 93 rfl ?_
        refine j_if_le C dX4_count_93 100 (by decide) 96 rfl (fun c14 => ?_) (fun c14 => ?_)
        · rw [if_pos c14] at hf
          refine j_iconst C dX4_count_100 (v := 0) c_iconst_0 101 rfl ?_
          refine j_iadd C dX4_count_101 102 rfl ?_
          refine j_istore_n (lv2 := [(2, .int (b2 + 0)), (0, .ref (ad g 56)), (3, .int b3)]) C dX4_count_102 rfl (by decide) rfl 103 rfl ?_
          refine j_iinc (lv2 := [(3, .int (b3 + 1)), (2, .int (b2 + 0)), (0, .ref (ad g 56))]) C dX4_count_103 (k := 2) rfl (congrArg (HAdd.hAdd b3) c_oi_1) (by decide) rfl 106 rfl ?_
          refine j_goto C dX4_count_106 81 (by decide) ?_
          refine j_sub [2, 1, 0] rfl ?_
          exact ih (b2 + 0) (b3 + 1) S hf
        · rw [if_neg c14] at hf
          refine j_iconst C dX4_count_96 (v := 1) c_iconst_1 97 rfl ?_
          refine j_goto C dX4_count_97 101 (by decide) ?_
          refine j_iadd C dX4_count_101 102 rfl ?_
          refine j_istore_n (lv2 := [(2, .int (b2 + 1)), (0, .ref (ad g 56)), (3, .int b3)]) C dX4_count_102 rfl (by decide) rfl 103 rfl ?_
          refine j_iinc (lv2 := [(3, .int (b3 + 1)), (2, .int (b2 + 1)), (0, .ref (ad g 56))]) C dX4_count_103 (k := 2) rfl (congrArg (HAdd.hAdd b3) c_oi_1) (by decide) rfl 106 rfl ?_
          refine j_goto C dX4_count_106 81 (by decide) ?_
          refine j_sub [2, 1, 0] rfl ?_
          exact ih (b2 + 1) (b3 + 1) S hf
  have hL126 : ∀ (n : Nat), ∀ (b2 : Int32) (b3 : Int32) (S : St), X4_count_L126 n b2 b3 S = some (r, S') → Wj p l e (rmJ 3 65) s m args below meth c (MQ below (QiJ g sz r x S') args s 0 0 (Ag sz)) 4 g sz x S 126 [(0, .ref (ad g 56)), (2, .int b2), (3, .int b3)] [] := by
    intro  n
    induction n with
    | zero =>
      intro b2 b3 S hf
      rw [X4_count_L126] at hf
      cases hf
    | succ n ih =>
      intro b2 b3 S hf
      rw [X4_count_L126] at hf
      refine j_iload_n C dX4_count_126 rfl 2 rfl 127 rfl ?_
      refine j_bipush C dX4_count_127 (v := 10) c_bipush_10 129 rfl ?_
      refine j_icmp_ge C dX4_count_129 158 (by decide) 132 rfl (fun c19 => ?_) (fun c19 => ?_)
      · rw [if_pos c19] at hf
        refine j_iload_n C dX4_count_158 rfl 1 rfl 159 rfl ?_
        obtain ⟨rfl, rfl⟩ := Prod.mk.inj (Option.some.inj hf)
        exact j_iret C hr hlk dX4_count_159
      · rw [if_neg c19] at hf
        refine j_iload_n C dX4_count_132 rfl 1 rfl 133 rfl ?_
        refine j_aload_n C dX4_count_133 rfl 0 rfl 134 rfl ?_
        refine j4_get C 0 (by decide) qf_X4_9 (v := .ref (ad g 57)) rfl dX4_count_134 137 rfl ?_
        refine j_bipush C dX4_count_137 (v := 7) c_bipush_7 139 rfl ?_
        refine j_iload_n C dX4_count_139 rfl 2 rfl 140 rfl ?_
        refine j_iadd C dX4_count_140 141 rfl ?_
        obtain ⟨v20, hv20, hf⟩ := bnd hf
        refine j4_ald 1 rfl C hv20 dX4_count_141 142 rfl ?_
        refine j_if_ge C dX4_count_142 149 (by decide) 145 rfl (fun c21 => ?_) (fun c21 => ?_)
        · rw [if_pos c21] at hf
          refine j_iconst C dX4_count_149 (v := 1) c_iconst_1 150 rfl ?_
          refine j_iadd C dX4_count_150 151 rfl ?_
          refine j_istore_n (lv2 := [(2, .int (b2 + 1)), (0, .ref (ad g 56)), (3, .int b3)]) C dX4_count_151 rfl (by decide) rfl 152 rfl ?_
          refine j_iinc (lv2 := [(3, .int (b3 + 1)), (2, .int (b2 + 1)), (0, .ref (ad g 56))]) C dX4_count_152 (k := 2) rfl (congrArg (HAdd.hAdd b3) c_oi_1) (by decide) rfl 155 rfl ?_
          refine j_goto C dX4_count_155 126 (by decide) ?_
          refine j_sub [2, 1, 0] rfl ?_
          exact ih (b2 + 1) (b3 + 1) S hf
        · rw [if_neg c21] at hf
          refine j_iconst C dX4_count_145 (v := 0) c_iconst_0 146 rfl ?_
          refine j_goto C dX4_count_146 150 (by decide) ?_
          refine j_iadd C dX4_count_150 151 rfl ?_
          refine j_istore_n (lv2 := [(2, .int (b2 + 0)), (0, .ref (ad g 56)), (3, .int b3)]) C dX4_count_151 rfl (by decide) rfl 152 rfl ?_
          refine j_iinc (lv2 := [(3, .int (b3 + 1)), (2, .int (b2 + 0)), (0, .ref (ad g 56))]) C dX4_count_152 (k := 2) rfl (congrArg (HAdd.hAdd b3) c_oi_1) (by decide) rfl 155 rfl ?_
          refine j_goto C dX4_count_155 126 (by decide) ?_
          refine j_sub [2, 1, 0] rfl ?_
          exact ih (b2 + 0) (b3 + 1) S hf
  unfold X4_count at hf
  refine j_iconst C dX4_count_0 (v := 0) c_iconst_0 1 rfl ?_
  refine j_istore_n (lv2 := [(2, .int 0), (0, .ref (ad g 56)), (1, .int a1)]) C dX4_count_1 rfl (by decide) rfl 2 rfl ?_
  refine j_iload_n C dX4_count_2 rfl 2 rfl 3 rfl ?_
  by_cases c1 : a1 = 0
  · rw [if_pos c1] at hf
    refine j_tableIn C dX4_count_3 (by rw [c1]; decide) (by rw [c1]; decide) (by rw [c1]; rfl) 48 (by decide) ?_
    refine j_aload_n C dX4_count_48 rfl 1 rfl 49 rfl ?_
    refine j4_get C 0 (by decide) qf_X4_9 (v := .ref (ad g 57)) rfl dX4_count_49 52 rfl ?_
    refine j_iconst C dX4_count_52 (v := 0) c_iconst_0 53 rfl ?_
    obtain ⟨v2, hv2, hf⟩ := bnd hf
    refine j4_ald 1 rfl C hv2 dX4_count_53 54 rfl ?_
    obtain ⟨rfl, rfl⟩ := Prod.mk.inj (Option.some.inj hf)
    exact j_iret C hr hlk dX4_count_54
  · rw [if_neg c1] at hf
    by_cases c3 : a1 = 1
    · rw [if_pos c3] at hf
      refine j_tableIn C dX4_count_3 (by rw [c3]; decide) (by rw [c3]; decide) (by rw [c3]; rfl) 55 (by decide) ?_
      refine j_aload_n C dX4_count_55 rfl 1 rfl 56 rfl ?_
      refine j4_get C 0 (by decide) qf_X4_9 (v := .ref (ad g 57)) rfl dX4_count_56 59 rfl ?_
      refine j_iconst C dX4_count_59 (v := 4) c_iconst_4 60 rfl ?_
      obtain ⟨v4, hv4, hf⟩ := bnd hf
      refine j4_ald 1 rfl C hv4 dX4_count_60 61 rfl ?_
      obtain ⟨rfl, rfl⟩ := Prod.mk.inj (Option.some.inj hf)
      exact j_iret C hr hlk dX4_count_61
    · rw [if_neg c3] at hf
      by_cases c5 : a1 = 2
      · rw [if_pos c5] at hf
        refine j_tableIn C dX4_count_3 (by rw [c5]; decide) (by rw [c5]; decide) (by rw [c5]; rfl) 62 (by decide) ?_
        refine j_aload_n C dX4_count_62 rfl 1 rfl 63 rfl ?_
        obtain ⟨r6, hr6, hf⟩ := bnd hf
        refine j_callVi (As := []) (rest := []) C (c_X4_shelf l g sz x S   _ hr6) (j_cwV C qc_X4_shelf qm_X4_204 qi_X4_shelf qs_X4_shelf qn_X4 hd_X4_shelf ⟨rfl, rfl⟩ ⟨by decide, by decide⟩) (rcv_mo.cell C.2) rfl (Nat.le_of_ble_eq_true rfl) dX4_count_63 66 rfl ?_
        obtain ⟨r7, hr7, hf⟩ := bnd hf
        refine j_callSi (As := [.int r6]) (rest := []) C (c_X4_bits l g sz x S r6 _ hr7) (j_cwS C qc_X4_bits qm_X4_236 qs_X4_bits qn_X4 hd_X4_bits ⟨rfl, rfl⟩ ⟨by decide, by decide⟩)  rfl (Nat.le_of_ble_eq_true rfl) dX4_count_66 69 rfl ?_
        obtain ⟨rfl, rfl⟩ := Prod.mk.inj (Option.some.inj hf)
        exact j_iret C hr hlk dX4_count_69
      · rw [if_neg c5] at hf
        by_cases c8 : a1 = 3
        · rw [if_pos c8] at hf
          refine j_tableIn C dX4_count_3 (by rw [c8]; decide) (by rw [c8]; decide) (by rw [c8]; rfl) 70 (by decide) ?_
          refine j_aload_n C dX4_count_70 rfl 1 rfl 71 rfl ?_
          refine j_aload_n C dX4_count_71 rfl 1 rfl 72 rfl ?_
          obtain ⟨r9, hr9, hf⟩ := bnd hf
          refine j_callVi (As := []) (rest := [.ref (ad g 56)]) C (c_X4_shelf l g sz x S   _ hr9) (j_cwV C qc_X4_shelf qm_X4_204 qi_X4_shelf qs_X4_shelf qn_X4 hd_X4_shelf ⟨rfl, rfl⟩ ⟨by decide, by decide⟩) (rcv_mo.cell C.2) rfl (Nat.le_of_ble_eq_true rfl) dX4_count_72 75 rfl ?_
          obtain ⟨r10, hr10, hf⟩ := bnd hf
          refine j_callVi (As := [.int r9]) (rest := []) C (c_X4_worthOf l g sz x S  r9 _ hr10) (j_cwV C qc_X4_worthOf qm_X4_180 qi_X4_worthOf qs_X4_worthOf qn_X4 hd_X4_worthOf ⟨rfl, rfl⟩ ⟨by decide, by decide⟩) (rcv_mo.cell C.2) rfl (Nat.le_of_ble_eq_true rfl) dX4_count_75 78 rfl ?_
          obtain ⟨rfl, rfl⟩ := Prod.mk.inj (Option.some.inj hf)
          exact j_iret C hr hlk dX4_count_78
        · rw [if_neg c8] at hf
          by_cases c11 : a1 = 4
          · rw [if_pos c11] at hf
            refine j_tableIn C dX4_count_3 (by rw [c11]; decide) (by rw [c11]; decide) (by rw [c11]; rfl) 79 (by decide) ?_
            refine j_iconst C dX4_count_79 (v := 0) c_iconst_0 80 rfl ?_
            refine j_istore_n (lv2 := [(3, .int 0), (2, .int 0), (0, .ref (ad g 56)), (1, .int a1)]) C dX4_count_80 rfl (by decide) rfl 81 rfl ?_
            refine j_sub [2, 1, 0] rfl ?_
            exact hL81 FU 0 0 S hf
          · rw [if_neg c11] at hf
            by_cases c15 : a1 = 5
            · rw [if_pos c15] at hf
              refine j_tableIn C dX4_count_3 (by rw [c15]; decide) (by rw [c15]; decide) (by rw [c15]; rfl) 111 (by decide) ?_
              refine j_aload_n C dX4_count_111 rfl 1 rfl 112 rfl ?_
              refine j4_get C 11 (by decide) qf_X4_279 (v := .int (S 0 11)) rfl dX4_count_112 115 rfl ?_
              obtain ⟨rfl, rfl⟩ := Prod.mk.inj (Option.some.inj hf)
              exact j_iret C hr hlk dX4_count_115
            · rw [if_neg c15] at hf
              by_cases c16 : a1 = 6
              · rw [if_pos c16] at hf
                refine j_tableIn C dX4_count_3 (by rw [c16]; decide) (by rw [c16]; decide) (by rw [c16]; rfl) 116 (by decide) ?_
                refine j_aload_n C dX4_count_116 rfl 1 rfl 117 rfl ?_
                refine j4_get C 0 (by decide) qf_X4_9 (v := .ref (ad g 57)) rfl dX4_count_117 120 rfl ?_
                refine j_bipush C dX4_count_120 (v := 6) c_bipush_6 122 rfl ?_
                obtain ⟨v17, hv17, hf⟩ := bnd hf
                refine j4_ald 1 rfl C hv17 dX4_count_122 123 rfl ?_
                obtain ⟨rfl, rfl⟩ := Prod.mk.inj (Option.some.inj hf)
                exact j_iret C hr hlk dX4_count_123
              · rw [if_neg c16] at hf
                by_cases c18 : a1 = 7
                · rw [if_pos c18] at hf
                  refine j_tableIn C dX4_count_3 (by rw [c18]; decide) (by rw [c18]; decide) (by rw [c18]; rfl) 124 (by decide) ?_
                  refine j_iconst C dX4_count_124 (v := 0) c_iconst_0 125 rfl ?_
                  refine j_istore_n (lv2 := [(3, .int 0), (2, .int 0), (0, .ref (ad g 56)), (1, .int a1)]) C dX4_count_125 rfl (by decide) rfl 126 rfl ?_
                  refine j_sub [2, 1, 0] rfl ?_
                  exact hL126 FU 0 0 S hf
                · rw [if_neg c18] at hf
                  refine j_tableOut C dX4_count_3 (sw_out7 c1 c3 c5 c8 c11 c15 c16 c18) 160 (by decide) ?_
                  refine j_aload_n C dX4_count_160 rfl 1 rfl 161 rfl ?_
                  refine j_ldc C dX4_count_161 qk_X4_72 163 rfl ?_
                  obtain ⟨⟨r23, S24⟩, hq22, hf⟩ := bnd hf
                  dsimp only at hf
                  refine j_callVi (As := [.int (-1000001)]) (rest := []) C (c_X4_finding l g sz x S  (-1000001) _ _ hq22) (j_cwV C qc_X4_finding qm_X4_99 qi_X4_finding qs_X4_finding qn_X4 hd_X4_finding ⟨rfl, rfl⟩ ⟨by decide, by decide⟩) (rcv_mo.cell C.2) rfl (Nat.le_of_ble_eq_true rfl) dX4_count_163 166 rfl ?_
                  obtain ⟨rfl, rfl⟩ := Prod.mk.inj (Option.some.inj hf)
                  exact j_iret C hr hlk dX4_count_166
set_option maxRecDepth 100000 in
set_option maxHeartbeats 4000000 in
theorem c_X4_status (l : Launch) (g : GG) (sz : Nat) (x S : St) (a1 : Int32) (r : Int32) (S' : St) (hf : X4_status a1 S = some (r, S')) : Met l yX4_status (.code yX4_status cX4_status 2 (some .int) :: ALLW) (rmJ 1 22) (PcJ g sz x S [.ref (ad g 56), .int a1]) (QiJ g sz r x S') 0 0 (Ag sz) := by
  refine j_met (own := RX4) (by decide) rfl (Nat.le_of_ble_eq_true rfl) rfl ?_
  intro p e s m args below meth c C hr hlk
  unfold X4_status at hf
  refine j_iload_n C dX4_status_0 rfl 1 rfl 1 rfl ?_
  refine j_iconst C dX4_status_1 (v := (-1)) c_iconst_m1 2 rfl ?_
  refine j_bipush C dX4_status_2 (v := 6) c_bipush_6 4 rfl ?_
  refine j_callSi (As := [.int a1, .int (-1), .int 6]) (rest := []) C (c_X4_within l g sz x S a1 (-1) 6 _ rfl) (j_cwS C qc_X4_within qm_X4_77 qs_X4_within qn_X4 hd_X4_within ⟨rfl, rfl⟩ ⟨by decide, by decide⟩)  rfl (Nat.le_of_ble_eq_true rfl) dX4_status_4 7 rfl ?_
  refine j_if_eq C dX4_status_7 21 (by decide) 10 rfl (fun c1 => ?_) (fun c1 => ?_)
  · rw [if_pos c1] at hf
    refine j_aload_n C dX4_status_21 rfl 0 rfl 22 rfl ?_
    refine j_ldc C dX4_status_22 qk_X4_72 24 rfl ?_
    obtain ⟨⟨r3, S4⟩, hq2, hf⟩ := bnd hf
    dsimp only at hf
    refine j_callVi (As := [.int (-1000001)]) (rest := []) C (c_X4_finding l g sz x S  (-1000001) _ _ hq2) (j_cwV C qc_X4_finding qm_X4_99 qi_X4_finding qs_X4_finding qn_X4 hd_X4_finding ⟨rfl, rfl⟩ ⟨by decide, by decide⟩) (rcv_mo.cell C.2) rfl (Nat.le_of_ble_eq_true rfl) dX4_status_24 27 rfl ?_
    obtain ⟨rfl, rfl⟩ := Prod.mk.inj (Option.some.inj hf)
    exact j_iret C hr hlk dX4_status_27
  · rw [if_neg c1] at hf
    refine j_aload_n C dX4_status_10 rfl 0 rfl 11 rfl ?_
    refine j4_get C 4 (by decide) qf_X4_19 (v := .ref (ad g 60)) rfl dX4_status_11 14 rfl ?_
    refine j_iload_n C dX4_status_14 rfl 1 rfl 15 rfl ?_
    refine j_iconst C dX4_status_15 (v := 1) c_iconst_1 16 rfl ?_
    refine j_iadd C dX4_status_16 17 rfl ?_
    obtain ⟨v5, hv5, hf⟩ := bnd hf
    refine j4_ald 4 rfl C hv5 dX4_status_17 18 rfl ?_
    refine j_goto C dX4_status_18 27 (by decide) ?_
    obtain ⟨rfl, rfl⟩ := Prod.mk.inj (Option.some.inj hf)
    exact j_iret C hr hlk dX4_status_27
