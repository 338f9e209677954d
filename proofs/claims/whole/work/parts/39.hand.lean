/-! BY HAND: Shelf.become; String.length, charAt and what they call -/
theorem arrV_congr (c : ClassId) {n : Nat} {f f' : Nat → Value} (h : ∀ i, i < n → f i = f' i) : arrV c n f = arrV c n f' := by
  unfold arrV
  have e : (fun j : Fin n => f j.val) = fun j => f' j.val := funext fun j => h j.val j.isLt
  rw [e]
section HR
variable {p : Program} {l : Launch} {e : Env} {R : Room} {s : State} {m : MethodId} {args : Array Value} {below : List Frame} {meth : Method} {c : Code} {Q : State → Prop} {cc : ByteArray} {nL : Nat} {own : String} {g : GG} {sz : Nat} {x mm S : St} {pc : Nat} {lv : List (Nat × Value)} {st : List Value}
theorem j_cong {y : St} (h : ∀ k, k < 70 → ∀ H : Heap, va_at g.1 vwCl (ad g k, ent g x mm k) H → va_at g.1 vwCl (ad g k, ent g y mm k) H) (kk : Wj p l e R s m args below meth c Q nL g sz y mm pc lv st) : Wj p l e R s m args below meth c Q nL g sz x mm pc lv st := fun H locs ls hW hS hl => by
  refine kk H locs ls ?_ hS hl
  intro i q hq
  by_cases hi : i < 70
  · rw [wl_get hi] at hq
    cases hq
    exact h i hi H (hW i _ (wl_get hi))
  · unfold wl at hq
    rw [List.getElem?_map, List.getElem?_eq_none (by simpa using hi)] at hq
    cases hq
theorem j1_acopy {k1 k2 : Nat} (hk1 : isSh k1 = true) (hk2 : isSh k2 = true) (j : Nat) (hj1 : 1 ≤ j) (hj2 : j < 7) (C : Cx p m c cc nL s args own g sz) {idx : Nat} (hlink : Cond.methodLink own idx arraycopyName ∈ ALLW) {n : Int32} (hn' : n = nI (shl j)) (hfr : 1 ≤ R.frames) (hlo : (st.map fun v => v.category).sum + (nativeFrameWords "java/lang/System" "arraycopy" 5 + 11) ≤ R.locals) (hd : decode cc pc = .ok (.invokestatic idx, 3)) (n0 : Nat) (hn : pc + 3 = n0) (kk : Wj p l e R s m args below meth c Q nL g sz (setr x (k2 + j) (x (k1 + j))) mm n0 lv st) : Wj p l e R s m args below meth c Q nL g sz x mm pc lv (.int n :: .int 0 :: .ref (ad g (k2 + j)) :: .int 0 :: .ref (ad g (k1 + j)) :: st) := by
  subst hn'
  have hs : shl j < 2 ^ 31 := by
    rcases (show j = 1 ∨ j = 2 ∨ j = 3 ∨ j = 4 ∨ j = 5 ∨ j = 6 by omega) with rfl | rfl | rfl | rfl | rfl | rfl <;> decide
  have h0 : (0 : Int32).toNatClampNeg = 0 := by decide
  refine j_acopy (x2 := setr x (k2 + j) (va_cpy (x (k1 + j)) (x (k2 + j)) 0 0 (shl j))) C (k1 + j) (k2 + j) (ent_sha (g := g) (x := x) (mm := mm) hk1 hj1 hj2).1 (ent_sha (g := g) (x := x) (mm := mm) hk2 hj1 hj2).1 (ent_sha hk1 hj1 hj2).2 (ent_sha hk2 hj1 hj2).2 hlink qn_arraycopyName qs_arraycopyName qn_J10 (by decide) (by decide) (nI_pos hs) (by rw [nI_clamp hs, h0]; omega) (by rw [nI_clamp hs, h0]; omega) hfr hlo (by rw [(ent_sha hk2 hj1 hj2).2, setr_same, nI_clamp hs, h0]) (fun q hq => ent_x (setr_other _ _ hq)) hd n0 hn ?_
  refine j_cong (y := setr x (k2 + j) (x (k1 + j))) (fun k hk H h => ?_) kk
  by_cases e : k = k2 + j
  · subst e
    rw [(ent_sha hk2 hj1 hj2).2, setr_same] at h ⊢
    show H[ad g (k2 + j)]? = some (arrV (g.2.1 0) (shl j) (fun i => .int (x (k1 + j) i)))
    rw [show H[ad g (k2 + j)]? = some (arrV (g.2.1 0) (shl j) (fun i => .int (va_cpy (x (k1 + j)) (x (k2 + j)) 0 0 (shl j) i))) from h]
    refine congrArg some (arrV_congr _ (fun i hi => ?_))
    unfold va_cpy
    rw [if_pos ⟨Nat.zero_le _, by omega⟩]
    simp
  · rw [show ent g (setr x (k2 + j) (x (k1 + j))) mm k = ent g x mm k from ent_x (setr_other _ _ e)]
    rwa [show ent g (setr x (k2 + j) (va_cpy (x (k1 + j)) (x (k2 + j)) 0 0 (shl j))) mm k = ent g x mm k from ent_x (setr_other _ _ e)] at h
theorem j_tret {r : Int32} {ty : FieldType} (C : Cx p m c cc nL s args own g sz) (hr : meth.sig.returnType = some ty) (hk : meth.locks = false) (hn : narrow ty (.int r) = .int r) (hd : decode cc pc = .ok (.ireturn, 1)) : Wj p l e R s m args below meth c (MQ below (QiJ g sz r x mm) args s 0 0 (Ag sz)) nL g sz x mm pc lv [.int r] := fun H locs ls hW hS hl => W.zret C.1.1 C.1.2.1 hr hn (fun t ht hWm => ⟨⟨r, (), rfl, rfl, by show Wd g x mm t.heap; rw [ht]; exact hW⟩, hS.F ht⟩) hS.2.2 hd hk
theorem j_getsG (C : Cx p m c cc nL s args own g sz) {C0 n d : String} {v : Value} (hZ : va_Z C0 n d v (Ag sz) s s.heap) {idx : Nat} (hlink : Cond.fieldLink own idx C0 n d ∈ ALLW) (hd : decode cc pc = .ok (.getstatic idx, 3)) (n0 : Nat) (hn : pc + 3 = n0) (kk : Wj p l e R s m args below meth c Q nL g sz x mm n0 lv (v :: st)) : Wj p l e R s m args below meth c Q nL g sz x mm pc lv st := fun H locs ls hW hS hl => by
  subst hn
  exact va_gets C.1.1 C.1.2.1 hZ hS C.1.2.2.2.1 (C.1.2.2.2.2 _ hlink) (fun _ h9 => h9) hd (kk H locs ls hW hS hl)
theorem j_strv (C : Cx p m c cc nL s args own g sz) {w : Nat} (hw : w < 11) {idx : Nat} (hlink : Cond.fieldLink own idx "java/lang/String" "value" "[B" ∈ ALLW) (hd : decode cc pc = .ok (.getfield idx, 3)) (n0 : Nat) (hn : pc + 3 = n0) (kk : Wj p l e R s m args below meth c Q nL g sz x mm n0 lv (.ref (adV g w) :: st)) : Wj p l e R s m args below meth c Q nL g sz x mm pc lv (.ref (adK g w) :: st) := fun H locs ls hW hS hl => by
  subst hn
  exact vk_getf C.1.1 C.1.2.1 (C.2.2.2.1.1 w hw).2.2.1 hS C.1.2.2.2.1 (C.1.2.2.2.2 _ hlink) (fun _ h9 => h9) hd (kk H locs ls hW hS hl)
theorem j_strc (C : Cx p m c cc nL s args own g sz) {w : Nat} (hw : w < 11) {idx : Nat} (hlink : Cond.fieldLink own idx "java/lang/String" "coder" "B" ∈ ALLW) (hd : decode cc pc = .ok (.getfield idx, 3)) (n0 : Nat) (hn : pc + 3 = n0) (kk : Wj p l e R s m args below meth c Q nL g sz x mm n0 lv (.int 0 :: st)) : Wj p l e R s m args below meth c Q nL g sz x mm pc lv (.ref (adK g w) :: st) := fun H locs ls hW hS hl => by
  subst hn
  exact vk_getf C.1.1 C.1.2.1 (C.2.2.2.1.1 w hw).2.1 hS C.1.2.2.2.1 (C.1.2.2.2.2 _ hlink) (fun _ h9 => h9) hd (kk H locs ls hW hS hl)
theorem j_blen (C : Cx p m c cc nL s args own g sz) {w : Nat} (hw : w < 11) (hd : decode cc pc = .ok (.arraylength, 1)) (n0 : Nat) (hn : pc + 1 = n0) (kk : Wj p l e R s m args below meth c Q nL g sz x mm n0 lv (.int (nI (skL.getD w 0)) :: st)) : Wj p l e R s m args below meth c Q nL g sz x mm pc lv (.ref (adV g w) :: st) := fun H locs ls hW hS hl => by
  subst hn
  exact va_tlen C.1.1 C.1.2.1 (C.2.2.2.1.1 w hw).2.2.2 hS rfl hd (kk H locs ls hW hS hl)
theorem j_bald (C : Cx p m c cc nL s args own g sz) {w : Nat} (hw : w < 11) {i v : Int32} (hv : J0_charAt w i = some v) (hd : decode cc pc = .ok (.baload, 1)) (n0 : Nat) (hn : pc + 1 = n0) (kk : Wj p l e R s m args below meth c Q nL g sz x mm n0 lv (.int v :: st)) : Wj p l e R s m args below meth c Q nL g sz x mm pc lv (.int i :: .ref (adV g w) :: st) := fun H locs ls hW hS hl => by
  subst hn
  exact va_tb C.1.1 C.1.2.1 (C.2.2.2.1.1 w hw).2.2.2 hS (rdc_ok hv).1 (by rw [← (rdc_ok hv).2]) hd (kk H locs ls hW hS hl)
theorem j_i2c (C : Cx p m c cc nL s args own g sz) {a v : Int32} (hd : decode cc pc = .ok (.i2c, 1)) (hv : (a.toUInt32 % 65536).toInt32 = v) (n0 : Nat) (hn : pc + 1 = n0) (kk : Wj p l e R s m args below meth c Q nL g sz x mm n0 lv (.int v :: st)) : Wj p l e R s m args below meth c Q nL g sz x mm pc lv (.int a :: st) := fun H locs ls hW hS hl => by
  subst hn
  exact lv_i2c C.1.1 C.1.2.1 hd hv (kk H locs ls hW hS hl)
end HR
set_option maxRecDepth 100000 in
set_option maxHeartbeats 4000000 in
theorem c_X1_become (l : Launch) (g : GG) (sz : Nat) (x mm : St) (k : Nat) (hk : isSh k = true) (k2 : Nat) (hk2 : isSh k2 = true) (hne : ¬ k = k2) : Met l yX1_become (.code yX1_become cX1_become 2 none :: ALLW) (rmJ 1 40) (PcJ g sz x mm [.ref (ad g k), .ref (ad g k2)]) (QvJ g sz (put x k 7 (blk x k2)) mm) 0 0 (Ag sz) := by
  refine j_met (own := RX1) (by decide) rfl (Nat.le_of_ble_eq_true rfl) rfl ?_
  intro p e s m args below meth c C hr hlk
  have hd : ∀ i j, i < 7 → j < 7 → ¬ k2 + i = k + j := by
    intro i j h1 h2
    rcases isSh_c hk with rfl | rfl | rfl | rfl | rfl | rfl <;> rcases isSh_c hk2 with rfl | rfl | rfl | rfl | rfl | rfl <;> omega
  refine j_aload_n C dX1_become_0 rfl 1 rfl 1 rfl ?_
  refine j3s_get hk2 C 0 (by decide) qf_X1_9 (v := .ref (ad g (k2 + 1))) rfl dX1_become_1 4 rfl ?_
  refine j_iconst C dX1_become_4 (v := 0) c_iconst_0 5 rfl ?_
  refine j_aload_n C dX1_become_5 rfl 0 rfl 6 rfl ?_
  refine j3s_get hk C 0 (by decide) qf_X1_9 (v := .ref (ad g (k + 1))) rfl dX1_become_6 9 rfl ?_
  refine j_iconst C dX1_become_9 (v := 0) c_iconst_0 10 rfl ?_
  refine j_bipush C dX1_become_10 (v := 24) c_bipush_24 12 rfl ?_
  refine j1_acopy hk2 hk 1 (by decide) (by decide) C qm_X1_43 rfl (by decide) (by decide) dX1_become_12 15 rfl ?_
  obtain ⟨x1, e1⟩ : ∃ y : St, y = setr x (k + 1) (x (k2 + 1)) := ⟨_, rfl⟩
  rw [← e1]
  refine j_aload_n C dX1_become_15 rfl 1 rfl 16 rfl ?_
  refine j3s_get hk2 C 1 (by decide) qf_X1_15 (v := .ref (ad g (k2 + 2))) rfl dX1_become_16 19 rfl ?_
  refine j_iconst C dX1_become_19 (v := 0) c_iconst_0 20 rfl ?_
  refine j_aload_n C dX1_become_20 rfl 0 rfl 21 rfl ?_
  refine j3s_get hk C 1 (by decide) qf_X1_15 (v := .ref (ad g (k + 2))) rfl dX1_become_21 24 rfl ?_
  refine j_iconst C dX1_become_24 (v := 0) c_iconst_0 25 rfl ?_
  refine j_bipush C dX1_become_25 (v := 24) c_bipush_24 27 rfl ?_
  refine j1_acopy hk2 hk 2 (by decide) (by decide) C qm_X1_43 rfl (by decide) (by decide) dX1_become_27 30 rfl ?_
  obtain ⟨x2, e2⟩ : ∃ y : St, y = setr x1 (k + 2) (x1 (k2 + 2)) := ⟨_, rfl⟩
  rw [← e2]
  refine j_aload_n C dX1_become_30 rfl 1 rfl 31 rfl ?_
  refine j3s_get hk2 C 2 (by decide) qf_X1_18 (v := .ref (ad g (k2 + 3))) rfl dX1_become_31 34 rfl ?_
  refine j_iconst C dX1_become_34 (v := 0) c_iconst_0 35 rfl ?_
  refine j_aload_n C dX1_become_35 rfl 0 rfl 36 rfl ?_
  refine j3s_get hk C 2 (by decide) qf_X1_18 (v := .ref (ad g (k + 3))) rfl dX1_become_36 39 rfl ?_
  refine j_iconst C dX1_become_39 (v := 0) c_iconst_0 40 rfl ?_
  refine j_bipush C dX1_become_40 (v := 42) c_bipush_42 42 rfl ?_
  refine j1_acopy hk2 hk 3 (by decide) (by decide) C qm_X1_43 rfl (by decide) (by decide) dX1_become_42 45 rfl ?_
  obtain ⟨x3, e3⟩ : ∃ y : St, y = setr x2 (k + 3) (x2 (k2 + 3)) := ⟨_, rfl⟩
  rw [← e3]
  refine j_aload_n C dX1_become_45 rfl 1 rfl 46 rfl ?_
  refine j3s_get hk2 C 3 (by decide) qf_X1_21 (v := .ref (ad g (k2 + 4))) rfl dX1_become_46 49 rfl ?_
  refine j_iconst C dX1_become_49 (v := 0) c_iconst_0 50 rfl ?_
  refine j_aload_n C dX1_become_50 rfl 0 rfl 51 rfl ?_
  refine j3s_get hk C 3 (by decide) qf_X1_21 (v := .ref (ad g (k + 4))) rfl dX1_become_51 54 rfl ?_
  refine j_iconst C dX1_become_54 (v := 0) c_iconst_0 55 rfl ?_
  refine j_sipush C dX1_become_55 (v := 168) (by decide +kernel) 58 rfl ?_
  refine j1_acopy hk2 hk 4 (by decide) (by decide) C qm_X1_43 rfl (by decide) (by decide) dX1_become_58 61 rfl ?_
  obtain ⟨x4, e4⟩ : ∃ y : St, y = setr x3 (k + 4) (x3 (k2 + 4)) := ⟨_, rfl⟩
  rw [← e4]
  refine j_aload_n C dX1_become_61 rfl 1 rfl 62 rfl ?_
  refine j3s_get hk2 C 4 (by decide) qf_X1_24 (v := .ref (ad g (k2 + 5))) rfl dX1_become_62 65 rfl ?_
  refine j_iconst C dX1_become_65 (v := 0) c_iconst_0 66 rfl ?_
  refine j_aload_n C dX1_become_66 rfl 0 rfl 67 rfl ?_
  refine j3s_get hk C 4 (by decide) qf_X1_24 (v := .ref (ad g (k + 5))) rfl dX1_become_67 70 rfl ?_
  refine j_iconst C dX1_become_70 (v := 0) c_iconst_0 71 rfl ?_
  refine j_iconst C dX1_become_71 (v := 3) c_iconst_3 72 rfl ?_
  refine j1_acopy hk2 hk 5 (by decide) (by decide) C qm_X1_43 rfl (by decide) (by decide) dX1_become_72 75 rfl ?_
  obtain ⟨x5, e5⟩ : ∃ y : St, y = setr x4 (k + 5) (x4 (k2 + 5)) := ⟨_, rfl⟩
  rw [← e5]
  refine j_aload_n C dX1_become_75 rfl 1 rfl 76 rfl ?_
  refine j3s_get hk2 C 5 (by decide) qf_X1_27 (v := .ref (ad g (k2 + 6))) rfl dX1_become_76 79 rfl ?_
  refine j_iconst C dX1_become_79 (v := 0) c_iconst_0 80 rfl ?_
  refine j_aload_n C dX1_become_80 rfl 0 rfl 81 rfl ?_
  refine j3s_get hk C 5 (by decide) qf_X1_27 (v := .ref (ad g (k + 6))) rfl dX1_become_81 84 rfl ?_
  refine j_iconst C dX1_become_84 (v := 0) c_iconst_0 85 rfl ?_
  refine j_bipush C dX1_become_85 (v := 10) c_bipush_10 87 rfl ?_
  refine j1_acopy hk2 hk 6 (by decide) (by decide) C qm_X1_43 rfl (by decide) (by decide) dX1_become_87 90 rfl ?_
  obtain ⟨x6, e6⟩ : ∃ y : St, y = setr x5 (k + 6) (x5 (k2 + 6)) := ⟨_, rfl⟩
  rw [← e6]
  refine j_aload_n C dX1_become_90 rfl 0 rfl 91 rfl ?_
  refine j_aload_n C dX1_become_91 rfl 1 rfl 92 rfl ?_
  refine j3s_get hk2 C 6 (by decide) qf_X1_30 (v := .int (x6 k2 6)) rfl dX1_become_92 95 rfl ?_
  refine j3s_put hk C 6 (by decide) (by decide) rfl rfl qf_X1_30 dX1_become_95 98 rfl ?_
  obtain ⟨x7, e7⟩ : ∃ y : St, y = ups x6 k 6 (x6 k2 6) := ⟨_, rfl⟩
  rw [← e7]
  refine j_aload_n C dX1_become_98 rfl 0 rfl 99 rfl ?_
  refine j_aload_n C dX1_become_99 rfl 1 rfl 100 rfl ?_
  refine j3s_get hk2 C 7 (by decide) qf_X1_34 (v := .int (x7 k2 7)) rfl dX1_become_100 103 rfl ?_
  refine j3s_put hk C 7 (by decide) (by decide) rfl rfl qf_X1_34 dX1_become_103 106 rfl ?_
  obtain ⟨x8, e8⟩ : ∃ y : St, y = ups x7 k 7 (x7 k2 7) := ⟨_, rfl⟩
  rw [← e8]
  refine j_aload_n C dX1_become_106 rfl 0 rfl 107 rfl ?_
  refine j_aload_n C dX1_become_107 rfl 1 rfl 108 rfl ?_
  refine j3s_get hk2 C 8 (by decide) qf_X1_37 (v := .int (x8 k2 8)) rfl dX1_become_108 111 rfl ?_
  refine j3s_put hk C 8 (by decide) (by decide) rfl rfl qf_X1_37 dX1_become_111 114 rfl ?_
  obtain ⟨x9, e9⟩ : ∃ y : St, y = ups x8 k 8 (x8 k2 8) := ⟨_, rfl⟩
  rw [← e9]
  refine j_aload_n C dX1_become_114 rfl 0 rfl 115 rfl ?_
  refine j_aload_n C dX1_become_115 rfl 1 rfl 116 rfl ?_
  refine j3s_get hk2 C 9 (by decide) qf_X1_40 (v := .int (x9 k2 9)) rfl dX1_become_116 119 rfl ?_
  refine j3s_put hk C 9 (by decide) (by decide) rfl rfl qf_X1_40 dX1_become_119 122 rfl ?_
  obtain ⟨x10, e10⟩ : ∃ y : St, y = ups x9 k 9 (x9 k2 9) := ⟨_, rfl⟩
  rw [← e10]
  have g1 : ∀ q, x6 q = if q = k + 6 then x (k2 + 6) else if q = k + 5 then x (k2 + 5) else if q = k + 4 then x (k2 + 4) else if q = k + 3 then x (k2 + 3) else if q = k + 2 then x (k2 + 2) else if q = k + 1 then x (k2 + 1) else x q := by
    intro q
    rw [e6, e5, e4, e3, e2, e1]
    have h1 := hd 2 1 (by decide) (by decide)
    simp only [setr, hd _ _ (by decide : 2 < 7) (by decide : 1 < 7), hd _ _ (by decide : 3 < 7) (by decide : 1 < 7), hd _ _ (by decide : 3 < 7) (by decide : 2 < 7), hd _ _ (by decide : 4 < 7) (by decide : 1 < 7), hd _ _ (by decide : 4 < 7) (by decide : 2 < 7), hd _ _ (by decide : 4 < 7) (by decide : 3 < 7), hd _ _ (by decide : 5 < 7) (by decide : 1 < 7), hd _ _ (by decide : 5 < 7) (by decide : 2 < 7), hd _ _ (by decide : 5 < 7) (by decide : 3 < 7), hd _ _ (by decide : 5 < 7) (by decide : 4 < 7), hd _ _ (by decide : 6 < 7) (by decide : 1 < 7), hd _ _ (by decide : 6 < 7) (by decide : 2 < 7), hd _ _ (by decide : 6 < 7) (by decide : 3 < 7), hd _ _ (by decide : 6 < 7) (by decide : 4 < 7), hd _ _ (by decide : 6 < 7) (by decide : 5 < 7), if_false]
  have g2 : ∀ q, ¬ q = k → x10 q = x6 q := by
    intro q hq
    rw [e10, e9, e8, e7, ups_other _ _ _ hq, ups_other _ _ _ hq, ups_other _ _ _ hq, ups_other _ _ _ hq]
  have g3 : x6 k2 = x k2 := by
    rw [g1, if_neg (show ¬ k2 = k + 6 from hd 0 6 (by decide) (by decide)), if_neg (show ¬ k2 = k + 5 from hd 0 5 (by decide) (by decide)), if_neg (show ¬ k2 = k + 4 from hd 0 4 (by decide) (by decide)), if_neg (show ¬ k2 = k + 3 from hd 0 3 (by decide) (by decide)), if_neg (show ¬ k2 = k + 2 from hd 0 2 (by decide) (by decide)), if_neg (show ¬ k2 = k + 1 from hd 0 1 (by decide) (by decide))]
  have hne2 : ¬ k2 = k := fun e => hne e.symm
  have g4 : ∀ j, 6 ≤ j → j < 10 → x10 k j = x k2 j := by
    intro j h1 h2
    have t7 : x7 k2 = x6 k2 := by rw [e7, ups_other _ _ _ hne2]
    have t8 : x8 k2 = x6 k2 := by rw [e8, ups_other _ _ _ hne2, t7]
    have t9 : x9 k2 = x6 k2 := by rw [e9, ups_other _ _ _ hne2, t8]
    rw [e10, ups_same, e9, ups_same, e8, ups_same, e7, ups_same, ← e7, ← e8, ← e9, t7, t8, t9, g3]
    rcases (show j = 6 ∨ j = 7 ∨ j = 8 ∨ j = 9 by omega) with rfl | rfl | rfl | rfl <;> simp [upd]
  refine j_cong (y := put x k 7 (blk x k2)) (fun i hi H h => ?_) (j_vret C hr hlk dX1_become_122)
  by_cases h0 : i = k
  · subst h0
    rw [ent_sh hk] at h ⊢
    rw [put_0 (by decide)]
    have h1 : fsS g i (x10 i) = fsS g i (blk x k2 0) := by
      unfold fsS
      rw [g4 6 (by decide) (by decide), g4 7 (by decide) (by decide), g4 8 (by decide) (by decide), g4 9 (by decide) (by decide)]
      rfl
    rw [h1] at h
    exact h
  · have h1 : ent g x10 mm i = ent g (put x k 7 (blk x k2)) mm i := by
      refine ent_x ?_
      rw [g2 i h0, g1]
      by_cases h2 : i < k ∨ k + 7 ≤ i
      · rw [put_other h2]
        rw [if_neg (by omega), if_neg (by omega), if_neg (by omega), if_neg (by omega), if_neg (by omega), if_neg (by omega)]
      · obtain ⟨j, hj, rfl⟩ : ∃ j, j < 7 ∧ i = k + j := ⟨i - k, by omega, by omega⟩
        rw [put_in hj]
        rcases (show j = 1 ∨ j = 2 ∨ j = 3 ∨ j = 4 ∨ j = 5 ∨ j = 6 by omega) with rfl | rfl | rfl | rfl | rfl | rfl <;> simp [blk]
    rw [← h1]
    exact h
theorem str_char {w : Nat} {i v : Int32} (hw : w < 11) (h : J0_charAt w i = some v) : v.toInt < 128 ∧ 0 ≤ v.toInt ∧ narrow .char (.int v) = .int v ∧ ((v &&& 255).toUInt32 % 65536).toInt32 = v := by
  obtain ⟨h1, rfl⟩ := rdc_ok h
  have h3 : i.toNatClampNeg < skL.getD w 0 := Nat.not_le.mp fun q => h1 (Or.inr q)
  have key : ∀ w, w < 11 → ∀ j, j < skL.getD w 0 → ((skB.getD w []).getD j 0).toInt < 128 ∧ 0 ≤ ((skB.getD w []).getD j 0).toInt ∧ narrow .char (.int ((skB.getD w []).getD j 0)) = .int ((skB.getD w []).getD j 0) ∧ ((((skB.getD w []).getD j 0) &&& 255).toUInt32 % 65536).toInt32 = (skB.getD w []).getD j 0 := by decide +kernel
  exact key w hw _ h3
theorem hx_J0_coder_7d493 : HdJ yJ0_coder_7d493 RJ0 0 := ⟨rfl, by decide +kernel, by decide +kernel, by decide +kernel⟩
theorem hx_J0_length_8abf5 : HdJ yJ0_length_8abf5 RJ0 0 := ⟨rfl, by decide +kernel, by decide +kernel, by decide +kernel⟩
theorem hx_J0_charAt_5068e : HdJ yJ0_charAt_5068e RJ0 1 := ⟨rfl, by decide +kernel, by decide +kernel, by decide +kernel⟩
theorem hx_J0_isLatin1_aae02 : HdJ yJ0_isLatin1_aae02 RJ0 0 := ⟨rfl, by decide +kernel, by decide +kernel, by decide +kernel⟩
theorem hx_J0_checkIndex_df160 : HdJ yJ0_checkIndex_df160 RJ0 2 := ⟨rfl, by decide +kernel, by decide +kernel, by decide +kernel⟩
theorem hx_J1_charAt_3b067 : HdJ yJ1_charAt_3b067 RJ1 2 := ⟨rfl, by decide +kernel, by decide +kernel, by decide +kernel⟩
theorem hx_J3_checkIndex_8e157 : HdJ yJ3_checkIndex_8e157 RJ3 3 := ⟨rfl, by decide +kernel, by decide +kernel, by decide +kernel⟩
set_option maxRecDepth 100000 in
set_option maxHeartbeats 4000000 in
theorem c_J0_coder (l : Launch) (g : GG) (sz : Nat) (x mm : St) (w : Nat) (hw : w < 11) : Met l yJ0_coder_7d493 (.code yJ0_coder_7d493 cJ0_coder_7d493 1 (some .byte) :: ALLW) (rmJ 0 0) (PcJ g sz x mm [.ref (adK g w)]) (QiJ g sz 0 x mm) 0 0 (Ag sz) := by
  refine j_met (own := RJ0) (by decide) rfl (Nat.le_of_ble_eq_true rfl) rfl ?_
  intro p e s m args below meth c C hr hlk
  refine j_getsG C C.2.2.2.2.2.2.1 qf_J0_38 dJ0_coder_7d493_0 3 rfl ?_
  refine j_if_eq C dJ0_coder_7d493_3 13 (by decide) 6 rfl (fun c9 => absurd c9 (by decide)) (fun _ => ?_)
  refine j_aload_n C dJ0_coder_7d493_6 rfl 0 rfl 7 rfl ?_
  refine j_strc C hw qf_J0_15 dJ0_coder_7d493_7 10 rfl ?_
  refine j_goto C dJ0_coder_7d493_10 14 (by decide) ?_
  exact j_tret C hr hlk rfl dJ0_coder_7d493_14
set_option maxRecDepth 100000 in
set_option maxHeartbeats 4000000 in
theorem c_J0_isLatin1 (l : Launch) (g : GG) (sz : Nat) (x mm : St) (w : Nat) (hw : w < 11) : Met l yJ0_isLatin1_aae02 (.code yJ0_isLatin1_aae02 cJ0_isLatin1_aae02 1 (some .boolean) :: ALLW) (rmJ 0 0) (PcJ g sz x mm [.ref (adK g w)]) (QiJ g sz 1 x mm) 0 0 (Ag sz) := by
  refine j_met (own := RJ0) (by decide) rfl (Nat.le_of_ble_eq_true rfl) rfl ?_
  intro p e s m args below meth c C hr hlk
  refine j_getsG C C.2.2.2.2.2.2.1 qf_J0_38 dJ0_isLatin1_aae02_0 3 rfl ?_
  refine j_if_eq C dJ0_isLatin1_aae02_3 17 (by decide) 6 rfl (fun c9 => absurd c9 (by decide)) (fun _ => ?_)
  refine j_aload_n C dJ0_isLatin1_aae02_6 rfl 0 rfl 7 rfl ?_
  refine j_strc C hw qf_J0_15 dJ0_isLatin1_aae02_7 10 rfl ?_
  refine j_if_ne C dJ0_isLatin1_aae02_10 17 (by decide) 13 rfl (fun c9 => absurd rfl c9) (fun _ => ?_)
  refine j_iconst C dJ0_isLatin1_aae02_13 (v := 1) c_iconst_1 14 rfl ?_
  refine j_goto C dJ0_isLatin1_aae02_14 18 (by decide) ?_
  exact j_tret C hr hlk rfl dJ0_isLatin1_aae02_18
set_option maxRecDepth 100000 in
set_option maxHeartbeats 4000000 in
theorem c_J0_length (l : Launch) (g : GG) (sz : Nat) (x mm : St) (w : Nat) (hw : w < 11) (r : Int32) (hf : J0_length w = r) : Met l yJ0_length_8abf5 (.code yJ0_length_8abf5 cJ0_length_8abf5 1 (some .int) :: ALLW) (rmJ 1 20) (PcJ g sz x mm [.ref (adK g w)]) (QiJ g sz r x mm) 0 0 (Ag sz) := by
  refine j_met (own := RJ0) (by decide) rfl (Nat.le_of_ble_eq_true rfl) rfl ?_
  intro p e s m args below meth c C hr hlk
  subst hf
  refine j_aload_n C dJ0_length_8abf5_0 rfl 0 rfl 1 rfl ?_
  refine j_strv C hw qf_J0_9 dJ0_length_8abf5_1 4 rfl ?_
  refine j_blen C hw dJ0_length_8abf5_4 5 rfl ?_
  refine j_aload_n C dJ0_length_8abf5_5 rfl 0 rfl 6 rfl ?_
  refine j_callVi (As := []) (rest := [.int (nI (skL.getD w 0))]) C (c_J0_coder l g sz x mm w hw) (j_cwV C qc_J0_coder_7d493 qm_J0_335 qi_J0_coder_7d493 qs_J0_coder_7d493 qn_J0 hx_J0_coder_7d493 ⟨rfl, rfl⟩ ⟨by decide, by decide⟩) (fun H locs _ hS => vk_recv C.2.2.2.1 hw hS) rfl (Nat.le_of_ble_eq_true rfl) dJ0_length_8abf5_6 9 rfl ?_
  refine j_ishr C dJ0_length_8abf5_9 10 rfl ?_
  have e0 : shr32 (nI (skL.getD w 0)) 0 = J0_length w := by
    have key : ∀ w, w < 11 → shr32 (nI (skL.getD w 0)) 0 = J0_length w := by decide +kernel
    exact key w hw
  rw [e0]
  exact j_iret C hr hlk dJ0_length_8abf5_10
set_option maxRecDepth 100000 in
set_option maxHeartbeats 4000000 in
theorem c_J3_checkIndex (l : Launch) (g : GG) (sz : Nat) (x mm : St) (a b : Int32) (v : Value) (hv : v = .null ∨ ∃ t, v = .ref t) (h0 : ¬ a < 0) (h1 : a < b) : Met l yJ3_checkIndex_8e157 (.code yJ3_checkIndex_8e157 cJ3_checkIndex_8e157 3 (some .int) :: ALLW) (rmJ 0 0) (PcJ g sz x mm [.int a, .int b, v]) (QiJ g sz a x mm) 0 0 (Ag sz) := by
  refine j_met (own := RJ3) (by decide) rfl (by rcases hv with rfl | ⟨t, rfl⟩ <;> exact Nat.le_of_ble_eq_true rfl) (by rcases hv with rfl | ⟨t, rfl⟩ <;> rfl : _ = [(0, .int a), (1, .int b), (2, v)]) ?_
  intro p e s m args below meth c C hr hlk
  refine j_iload_n C dJ3_checkIndex_8e157_0 rfl 0 rfl 1 rfl ?_
  refine j_if_lt C dJ3_checkIndex_8e157_1 9 (by decide) 4 rfl (fun c9 => absurd c9 h0) (fun _ => ?_)
  refine j_iload_n C dJ3_checkIndex_8e157_4 rfl 0 rfl 5 rfl ?_
  refine j_iload_n C dJ3_checkIndex_8e157_5 rfl 1 rfl 6 rfl ?_
  refine j_icmp_lt C dJ3_checkIndex_8e157_6 16 (by decide) 9 rfl (fun _ => ?_) (fun c9 => absurd h1 c9)
  refine j_iload_n C dJ3_checkIndex_8e157_16 rfl 0 rfl 17 rfl ?_
  exact j_iret C hr hlk dJ3_checkIndex_8e157_17
set_option maxRecDepth 100000 in
set_option maxHeartbeats 4000000 in
theorem c_J0_checkIndex (l : Launch) (g : GG) (sz : Nat) (x mm : St) (a b : Int32) (h0 : ¬ a < 0) (h1 : a < b) : Met l yJ0_checkIndex_df160 (.code yJ0_checkIndex_df160 cJ0_checkIndex_df160 2 none :: ALLW) (rmJ 1 22) (PcJ g sz x mm [.int a, .int b]) (QvJ g sz x mm) 0 0 (Ag sz) := by
  refine j_met (own := RJ0) (by decide) rfl (Nat.le_of_ble_eq_true rfl) rfl ?_
  intro p e s m args below meth c C hr hlk
  obtain ⟨v, hv, hZ⟩ := C.2.2.2.2.2.2.2
  refine j_iload_n C dJ0_checkIndex_df160_0 rfl 0 rfl 1 rfl ?_
  refine j_iload_n C dJ0_checkIndex_df160_1 rfl 1 rfl 2 rfl ?_
  refine j_getsG C hZ qf_J0_1053 dJ0_checkIndex_df160_2 5 rfl ?_
  refine j_callSi (As := [.int a, .int b, v]) (rest := []) C (c_J3_checkIndex l g sz x mm a b v hv h0 h1) (j_cwO C qc_J3_checkIndex_8e157 qm_J0_1059 qs_J3_checkIndex_8e157 qn_J3 hx_J3_checkIndex_8e157 ⟨rfl, rfl⟩ ⟨by decide, by decide⟩) rfl (Nat.le_of_ble_eq_true rfl) dJ0_checkIndex_df160_5 8 rfl ?_
  refine j_pop C dJ0_checkIndex_df160_8 rfl 9 rfl ?_
  exact j_vret C hr hlk dJ0_checkIndex_df160_9
set_option maxRecDepth 100000 in
set_option maxHeartbeats 4000000 in
theorem c_J1_charAt (l : Launch) (g : GG) (sz : Nat) (x mm : St) (w : Nat) (hw : w < 11) (a r : Int32) (hf : J0_charAt w a = some r) : Met l yJ1_charAt_3b067 (.code yJ1_charAt_3b067 cJ1_charAt_3b067 2 (some .char) :: ALLW) (rmJ 2 43) (PcJ g sz x mm [.ref (adV g w), .int a]) (QiJ g sz r x mm) 0 0 (Ag sz) := by
  refine j_met (own := RJ1) (by decide) rfl (Nat.le_of_ble_eq_true rfl) rfl ?_
  intro p e s m args below meth c C hr hlk
  have hin := (rdc_ok hf).1
  have h0 : ¬ a < 0 := fun q => hin (Or.inl q)
  have h1 : a < nI (skL.getD w 0) := by
    have h2 : a.toNatClampNeg < skL.getD w 0 := Nat.not_le.mp fun q => hin (Or.inr q)
    obtain ⟨j, hj, rfl⟩ := nI_of h0
    rw [nI_clamp hj] at h2
    have h3 : skL.getD w 0 < 2 ^ 31 := by
      have key : ∀ w, w < 11 → skL.getD w 0 < 2 ^ 31 := by decide
      exact key w hw
    exact nI_lt h2 h3
  obtain ⟨-, -, hc1, hc2⟩ := str_char hw hf
  refine j_iload_n C dJ1_charAt_3b067_0 rfl 1 rfl 1 rfl ?_
  refine j_aload_n C dJ1_charAt_3b067_1 rfl 0 rfl 2 rfl ?_
  refine j_blen C hw dJ1_charAt_3b067_2 3 rfl ?_
  refine j_callSv (As := [.int a, .int (nI (skL.getD w 0))]) (rest := []) C (c_J0_checkIndex l g sz x mm a _ h0 h1) (j_cwO C qc_J0_checkIndex_df160 qm_J1_9 qs_J0_checkIndex_df160 qn_J0 hx_J0_checkIndex_df160 ⟨rfl, rfl⟩ ⟨by decide, by decide⟩) rfl (Nat.le_of_ble_eq_true rfl) dJ1_charAt_3b067_3 6 rfl ?_
  refine j_aload_n C dJ1_charAt_3b067_6 rfl 0 rfl 7 rfl ?_
  refine j_iload_n C dJ1_charAt_3b067_7 rfl 1 rfl 8 rfl ?_
  refine j_bald C hw hf dJ1_charAt_3b067_8 9 rfl ?_
  refine j_sipush C dJ1_charAt_3b067_9 (v := 255) (by decide +kernel) 12 rfl ?_
  refine j_iand C dJ1_charAt_3b067_12 13 rfl ?_
  refine j_i2c C dJ1_charAt_3b067_13 hc2 14 rfl ?_
  exact j_tret C hr hlk hc1 dJ1_charAt_3b067_14
set_option maxRecDepth 100000 in
set_option maxHeartbeats 4000000 in
theorem c_J0_charAt (l : Launch) (g : GG) (sz : Nat) (x mm : St) (w : Nat) (hw : w < 11) (a r : Int32) (hf : J0_charAt w a = some r) : Met l yJ0_charAt_5068e (.code yJ0_charAt_5068e cJ0_charAt_5068e 2 (some .char) :: ALLW) (rmJ 3 64) (PcJ g sz x mm [.ref (adK g w), .int a]) (QiJ g sz r x mm) 0 0 (Ag sz) := by
  refine j_met (own := RJ0) (by decide) rfl (Nat.le_of_ble_eq_true rfl) rfl ?_
  intro p e s m args below meth c C hr hlk
  obtain ⟨-, -, hc1, -⟩ := str_char hw hf
  refine j_aload_n C dJ0_charAt_5068e_0 rfl 0 rfl 1 rfl ?_
  refine j_callVi (As := []) (rest := []) C (c_J0_isLatin1 l g sz x mm w hw) (j_cwV C qc_J0_isLatin1_aae02 qm_J0_492 qi_J0_isLatin1_aae02 qs_J0_isLatin1_aae02 qn_J0 hx_J0_isLatin1_aae02 ⟨rfl, rfl⟩ ⟨by decide, by decide⟩) (fun H locs _ hS => vk_recv C.2.2.2.1 hw hS) rfl (Nat.le_of_ble_eq_true rfl) dJ0_charAt_5068e_1 4 rfl ?_
  refine j_if_eq C dJ0_charAt_5068e_4 16 (by decide) 7 rfl (fun c9 => absurd c9 (by decide)) (fun _ => ?_)
  refine j_aload_n C dJ0_charAt_5068e_7 rfl 0 rfl 8 rfl ?_
  refine j_strv C hw qf_J0_9 dJ0_charAt_5068e_8 11 rfl ?_
  refine j_iload_n C dJ0_charAt_5068e_11 rfl 1 rfl 12 rfl ?_
  refine j_callSi (As := [.ref (adV g w), .int a]) (rest := []) C (c_J1_charAt l g sz x mm w hw a r hf) (j_cwO C qc_J1_charAt_3b067 qm_J0_495 qs_J1_charAt_3b067 qn_J1 hx_J1_charAt_3b067 ⟨rfl, rfl⟩ ⟨by decide, by decide⟩) rfl (Nat.le_of_ble_eq_true rfl) dJ0_charAt_5068e_12 15 rfl ?_
  exact j_tret C hr hlk hc1 dJ0_charAt_5068e_15
