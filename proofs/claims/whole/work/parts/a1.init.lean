/-! THE CONSTRUCTORS -/
def A00 : AS := fun k j => if k = 0 then (if j = 9 then 1 else 0) else if k = 5 then (if j = 0 then 8 else if j = 1 then 2 else if j = 2 then 1 else 0) else if k = 6 then 4294967295 else 0
def spF (n : Nat) : Nat → Int32 := fun i => if i < n then (-1) else 0
theorem spF_u (n : Nat) : upd (spF n) n (-1) = spF (n + 1) := by
  funext i
  unfold upd spF
  by_cases h : i = n
  · rw [if_pos h, if_pos (show i < n + 1 by omega)]
  · rw [if_neg h]
    by_cases h2 : i < n
    · rw [if_pos h2, if_pos (show i < n + 1 by omega)]
    · rw [if_neg h2, if_neg (show ¬ i < n + 1 by omega)]
theorem kq10 : ∀ j, j < 10 → (¬ (10 : Int32) ≤ nI j) ∧ (¬ (nI j < 0 ∨ 10 ≤ (nI j).toNatClampNeg)) ∧ (nI j).toNatClampNeg = j ∧ nI j + Int32.ofInt 1 = nI (j + 1) := by decide +kernel
theorem kq10b : ∀ j, j < 10 → (¬ ((7 : Int32) + nI j < 0 ∨ 275 ≤ ((7 : Int32) + nI j).toNatClampNeg)) ∧ ((7 : Int32) + nI j).toNatClampNeg = 7 + j := by decide +kernel
theorem dfX0 : ∀ j, j < 3 → defaultValue (tyX0 j) = vp_V [.null, .int 0, .int 0] j := fun j hj => by
  rcases (show j = 0 ∨ j = 1 ∨ j = 2 by omega) with rfl | rfl | rfl <;> rfl
theorem dfX1 : ∀ j, j < 10 → defaultValue (tyX1 j) = vp_V [.null, .null, .null, .null, .null, .null, .int 0, .int 0, .int 0, .int 0] j := fun j hj => by
  rcases (show j = 0 ∨ j = 1 ∨ j = 2 ∨ j = 3 ∨ j = 4 ∨ j = 5 ∨ j = 6 ∨ j = 7 ∨ j = 8 ∨ j = 9 by omega) with rfl | rfl | rfl | rfl | rfl | rfl | rfl | rfl | rfl | rfl <;> rfl
theorem dfX2 : ∀ j, j < 6 → defaultValue (tyX2 j) = vp_V [.null, .int 0, .int 0, .int 0, .int 0, .int 0] j := fun j hj => by
  rcases (show j = 0 ∨ j = 1 ∨ j = 2 ∨ j = 3 ∨ j = 4 ∨ j = 5 by omega) with rfl | rfl | rfl | rfl | rfl | rfl <;> rfl
theorem dfX3 : ∀ j, j < 8 → defaultValue (tyX3 j) = vp_V [.null, .null, .int 0, .null, .null, .null, .null, .null] j := fun j hj => by
  rcases (show j = 0 ∨ j = 1 ∨ j = 2 ∨ j = 3 ∨ j = 4 ∨ j = 5 ∨ j = 6 ∨ j = 7 by omega) with rfl | rfl | rfl | rfl | rfl | rfl | rfl | rfl <;> rfl
theorem dfX4 : ∀ j, j < 27 → defaultValue (tyX4 j) = vp_V [.null, .null, .null, .int 0, .null, .int 0, .int 0, .int 0, .int 0, .int 0, .null, .int 0, .int 0, .int 0, .int 0, .int 0, .int 0, .null, .null, .null, .int 0, .int 0, .null, .null, .null, .null, .null] j := fun j hj => by
  rcases (show j = 0 ∨ j = 1 ∨ j = 2 ∨ j = 3 ∨ j = 4 ∨ j = 5 ∨ j = 6 ∨ j = 7 ∨ j = 8 ∨ j = 9 ∨ j = 10 ∨ j = 11 ∨ j = 12 ∨ j = 13 ∨ j = 14 ∨ j = 15 ∨ j = 16 ∨ j = 17 ∨ j = 18 ∨ j = 19 ∨ j = 20 ∨ j = 21 ∨ j = 22 ∨ j = 23 ∨ j = 24 ∨ j = 25 ∨ j = 26 by omega) with rfl | rfl | rfl | rfl | rfl | rfl | rfl | rfl | rfl | rfl | rfl | rfl | rfl | rfl | rfl | rfl | rfl | rfl | rfl | rfl | rfl | rfl | rfl | rfl | rfl | rfl | rfl <;> rfl
section KR2
variable {p : Program} {l : Launch} {e : Env} {R : Room} {s : State} {m : MethodId} {args : Array Value} {below : List Frame} {meth : Method} {c : Code} {Q : State → Prop} {nL : Nat} {g : GG} {A : Nat → Prop} {ws : va_W} {ce sl : Nat} {pc : Nat} {lv : List (Nat × Value)} {st : List Value}
/-- the same row, told by another function of its places -/
theorem k_re0 (i : Nat) {a : Nat} {e1 e2 : ClassId × vp_A} (he : ws[i]? = some (a, .inl e1)) (h : vp_cell e1.1 e1.2 = vp_cell e2.1 e2.2) {w2 : va_W} (hw : ws.set i (a, .inl e2) = w2) (kk : Wk p l e R s m args below meth c Q nL g.1 A w2 ce sl pc lv st) : Wk p l e R s m args below meth c Q nL g.1 A ws ce sl pc lv st := by
  subst hw
  refine k_conv (fun H hP k r hr => ?_) (fun hD => hD.set he) kk
  rw [List.getElem?_set] at hr
  by_cases hk : i = k
  · subst hk
    rw [if_pos rfl] at hr
    split at hr
    · cases hr
      have h1 := hP i _ he
      show H[a]? = some (vp_cell e2.1 e2.2)
      rw [← h]
      exact h1
    · cases hr
  · rw [if_neg hk] at hr
    exact hP k r hr
theorem k_re (i : Nat) {a n : Nat} {cA : ClassId} {f f2 : Nat → Int32} (he : ws[i]? = some (a, .inl (cA, n, .inl f))) (h : ∀ j, j < n → f j = f2 j) {w2 : va_W} (hw : ws.set i (a, .inl (cA, n, .inl f2)) = w2) (kk : Wk p l e R s m args below meth c Q nL g.1 A w2 ce sl pc lv st) : Wk p l e R s m args below meth c Q nL g.1 A ws ce sl pc lv st :=
  k_re0 i he (by rw [vp_cell_i, vp_cell_i]; exact arrV_c (fun j hj => by rw [h j hj])) hw kk
theorem k_req (i : Nat) {a n : Nat} {cA : ClassId} {f f2 : Nat → Option Nat} (he : ws[i]? = some (a, .inl (cA, n, .inr (.inr (.inr (.inr f)))))) (h : ∀ j, j < n → f j = f2 j) {w2 : va_W} (hw : ws.set i (a, .inl (cA, n, .inr (.inr (.inr (.inr f2))))) = w2) (kk : Wk p l e R s m args below meth c Q nL g.1 A w2 ce sl pc lv st) : Wk p l e R s m args below meth c Q nL g.1 A ws ce sl pc lv st :=
  k_re0 i he (by rw [vp_cell_q, vp_cell_q]; exact arrV_c (fun j hj => by rw [h j hj])) hw kk
end KR2

def wX0 (g : GG) (h0 q1 : Nat) : va_W := ((h0, .inr (0, [.ref q1, .int 0, .int 0])) :: (q1, .inl (g.2.1 0, 40, .inl (fun _ => 0))) :: [])
set_option maxHeartbeats 4000000 in
set_option maxRecDepth 100000 in
theorem c_X0_init (l : Launch) (g : GG) (h0 : Nat) (sz : Nat) : Met l yX0_init (.code yX0_init cX0_init 1 none :: ALLW) ({ frames := 1, cells := 1, slots := 40, locals := 12 } : Room) (PcK g h0 (.inr (0, [.null, .int 0, .int 0])) sz (fun _ => True)) (QvK g h0 (.inr (0, [.null, .int 0, .int 0])) sz (fun w => ∃ q1 : Nat, w = wX0 g h0 q1)) 1 40 (va_A [(h0, .inr (0, [.null, .int 0, .int 0]))] sz) := by
  refine k_met (by decide +kernel) rfl rfl (by decide) ?_
  intro p e s m args below meth c hsz hE C hr hk hin
  refine k_aload_n C dX0_init_0 rfl 0 rfl 1 rfl ?_
  refine k_objInit C qm_X0_3 dX0_init_1 (Nat.le_of_ble_eq_true rfl) (Nat.le_of_ble_eq_true rfl) 4 rfl ?_
  refine k_aload_n C dX0_init_4 rfl 0 rfl 5 rfl ?_
  refine k_bipush (v := 40) C dX0_init_5 (by decide) 7 rfl ?_
  refine k_newa C 40 (ce2 := 1) (sl2 := 40) dX0_init_7 (by decide) (by decide) (by decide) rfl rfl (Nat.le_of_ble_eq_true rfl) (Nat.le_of_ble_eq_true rfl) 9 rfl (fun a1 => ?_)
  refine k_eq (w2 := ((h0, .inr (0, [.null, .int 0, .int 0])) :: (a1, .inl (g.2.1 0, 40, .inl (fun _ => 0))) :: [])) rfl ?_
  refine k_putF C hin 0 rfl rfl inX0 tyX0 tyX0_ok nmX0 0 (by decide) qf_X0_9 rfl rfl rfl rfl rfl (Nat.le_of_ble_eq_true rfl) (w2 := ((h0, .inr (0, [.ref a1, .int 0, .int 0])) :: (a1, .inl (g.2.1 0, 40, .inl (fun _ => 0))) :: [])) rfl dX0_init_9 12 rfl ?_
  refine k_aload_n C dX0_init_12 rfl 0 rfl 13 rfl ?_
  refine k_iconst (v := 0) C dX0_init_13 (by decide) 14 rfl ?_
  refine k_put C 0 rfl rfl inX0 tyX0 tyX0_ok nmX0 1 (by decide) qf_X0_15 rfl rfl rfl rfl (Nat.le_of_ble_eq_true rfl) (w2 := ((h0, .inr (0, [.ref a1, .int 0, .int 0])) :: (a1, .inl (g.2.1 0, 40, .inl (fun _ => 0))) :: [])) rfl dX0_init_14 17 rfl ?_
  refine k_aload_n C dX0_init_17 rfl 0 rfl 18 rfl ?_
  refine k_iconst (v := 0) C dX0_init_18 (by decide) 19 rfl ?_
  refine k_put C 0 rfl rfl inX0 tyX0 tyX0_ok nmX0 2 (by decide) qf_X0_19 rfl rfl rfl rfl (Nat.le_of_ble_eq_true rfl) (w2 := ((h0, .inr (0, [.ref a1, .int 0, .int 0])) :: (a1, .inl (g.2.1 0, 40, .inl (fun _ => 0))) :: [])) rfl dX0_init_19 22 rfl ?_
  exact k_vret C rfl hr hk ⟨a1, rfl⟩ dX0_init_22

def wX2 (g : GG) (h0 q1 : Nat) : va_W := ((h0, .inr (2, [.ref q1, .int 0, .int 0, .int 0, .int 0, .int 0])) :: (q1, .inl (g.2.1 0, 120, .inl (fun _ => 0))) :: [])
set_option maxHeartbeats 4000000 in
set_option maxRecDepth 100000 in
theorem c_X2_init (l : Launch) (g : GG) (h0 : Nat) (sz : Nat) : Met l yX2_init (.code yX2_init cX2_init 1 none :: ALLW) ({ frames := 1, cells := 1, slots := 120, locals := 12 } : Room) (PcK g h0 (.inr (2, [.null, .int 0, .int 0, .int 0, .int 0, .int 0])) sz (fun _ => True)) (QvK g h0 (.inr (2, [.null, .int 0, .int 0, .int 0, .int 0, .int 0])) sz (fun w => ∃ q1 : Nat, w = wX2 g h0 q1)) 1 120 (va_A [(h0, .inr (2, [.null, .int 0, .int 0, .int 0, .int 0, .int 0]))] sz) := by
  refine k_met (by decide +kernel) rfl rfl (by decide) ?_
  intro p e s m args below meth c hsz hE C hr hk hin
  refine k_aload_n C dX2_init_0 rfl 0 rfl 1 rfl ?_
  refine k_objInit C qm_X2_3 dX2_init_1 (Nat.le_of_ble_eq_true rfl) (Nat.le_of_ble_eq_true rfl) 4 rfl ?_
  refine k_aload_n C dX2_init_4 rfl 0 rfl 5 rfl ?_
  refine k_bipush (v := 120) C dX2_init_5 (by decide) 7 rfl ?_
  refine k_newa C 120 (ce2 := 1) (sl2 := 120) dX2_init_7 (by decide) (by decide) (by decide) rfl rfl (Nat.le_of_ble_eq_true rfl) (Nat.le_of_ble_eq_true rfl) 9 rfl (fun a1 => ?_)
  refine k_eq (w2 := ((h0, .inr (2, [.null, .int 0, .int 0, .int 0, .int 0, .int 0])) :: (a1, .inl (g.2.1 0, 120, .inl (fun _ => 0))) :: [])) rfl ?_
  refine k_putF C hin 0 rfl rfl inX2 tyX2 tyX2_ok nmX2 0 (by decide) qf_X2_9 rfl rfl rfl rfl rfl (Nat.le_of_ble_eq_true rfl) (w2 := ((h0, .inr (2, [.ref a1, .int 0, .int 0, .int 0, .int 0, .int 0])) :: (a1, .inl (g.2.1 0, 120, .inl (fun _ => 0))) :: [])) rfl dX2_init_9 12 rfl ?_
  refine k_aload_n C dX2_init_12 rfl 0 rfl 13 rfl ?_
  refine k_iconst (v := 0) C dX2_init_13 (by decide) 14 rfl ?_
  refine k_put C 0 rfl rfl inX2 tyX2 tyX2_ok nmX2 1 (by decide) qf_X2_15 rfl rfl rfl rfl (Nat.le_of_ble_eq_true rfl) (w2 := ((h0, .inr (2, [.ref a1, .int 0, .int 0, .int 0, .int 0, .int 0])) :: (a1, .inl (g.2.1 0, 120, .inl (fun _ => 0))) :: [])) rfl dX2_init_14 17 rfl ?_
  refine k_aload_n C dX2_init_17 rfl 0 rfl 18 rfl ?_
  refine k_iconst (v := 0) C dX2_init_18 (by decide) 19 rfl ?_
  refine k_put C 0 rfl rfl inX2 tyX2 tyX2_ok nmX2 2 (by decide) qf_X2_19 rfl rfl rfl rfl (Nat.le_of_ble_eq_true rfl) (w2 := ((h0, .inr (2, [.ref a1, .int 0, .int 0, .int 0, .int 0, .int 0])) :: (a1, .inl (g.2.1 0, 120, .inl (fun _ => 0))) :: [])) rfl dX2_init_19 22 rfl ?_
  refine k_aload_n C dX2_init_22 rfl 0 rfl 23 rfl ?_
  refine k_iconst (v := 0) C dX2_init_23 (by decide) 24 rfl ?_
  refine k_put C 0 rfl rfl inX2 tyX2 tyX2_ok nmX2 3 (by decide) qf_X2_22 rfl rfl rfl rfl (Nat.le_of_ble_eq_true rfl) (w2 := ((h0, .inr (2, [.ref a1, .int 0, .int 0, .int 0, .int 0, .int 0])) :: (a1, .inl (g.2.1 0, 120, .inl (fun _ => 0))) :: [])) rfl dX2_init_24 27 rfl ?_
  refine k_aload_n C dX2_init_27 rfl 0 rfl 28 rfl ?_
  refine k_iconst (v := 0) C dX2_init_28 (by decide) 29 rfl ?_
  refine k_put C 0 rfl rfl inX2 tyX2 tyX2_ok nmX2 4 (by decide) qf_X2_25 rfl rfl rfl rfl (Nat.le_of_ble_eq_true rfl) (w2 := ((h0, .inr (2, [.ref a1, .int 0, .int 0, .int 0, .int 0, .int 0])) :: (a1, .inl (g.2.1 0, 120, .inl (fun _ => 0))) :: [])) rfl dX2_init_29 32 rfl ?_
  refine k_aload_n C dX2_init_32 rfl 0 rfl 33 rfl ?_
  refine k_iconst (v := 0) C dX2_init_33 (by decide) 34 rfl ?_
  refine k_put C 0 rfl rfl inX2 tyX2 tyX2_ok nmX2 5 (by decide) qf_X2_28 rfl rfl rfl rfl (Nat.le_of_ble_eq_true rfl) (w2 := ((h0, .inr (2, [.ref a1, .int 0, .int 0, .int 0, .int 0, .int 0])) :: (a1, .inl (g.2.1 0, 120, .inl (fun _ => 0))) :: [])) rfl dX2_init_34 37 rfl ?_
  exact k_vret C rfl hr hk ⟨a1, rfl⟩ dX2_init_37

def wX1 (g : GG) (h0 q1 q2 q3 q4 q5 q6 : Nat) : va_W := ((h0, .inr (1, [.ref q1, .ref q2, .ref q3, .ref q4, .ref q5, .ref q6, .int 0, .int 0, .int 0, .int 1])) :: (q1, .inl (g.2.1 0, 24, .inl (rp A00 1))) :: (q2, .inl (g.2.1 0, 24, .inl (rp A00 2))) :: (q3, .inl (g.2.1 0, 42, .inl (rp A00 3))) :: (q4, .inl (g.2.1 0, 168, .inl (rp A00 4))) :: (q5, .inl (g.2.1 0, 3, .inl (rp A00 5))) :: (q6, .inl (g.2.1 0, 10, .inl (rp A00 6))) :: [])
set_option maxHeartbeats 4000000 in
set_option maxRecDepth 100000 in
theorem c_X1_init (l : Launch) (g : GG) (h0 : Nat) (sz : Nat) : Met l yX1_init (.code yX1_init cX1_init 2 none :: ALLW) ({ frames := 1, cells := 6, slots := 271, locals := 12 } : Room) (PcK g h0 (.inr (1, [.null, .null, .null, .null, .null, .null, .int 0, .int 0, .int 0, .int 0])) sz (fun _ => True)) (QvK g h0 (.inr (1, [.null, .null, .null, .null, .null, .null, .int 0, .int 0, .int 0, .int 0])) sz (fun w => ∃ q1 q2 q3 q4 q5 q6 : Nat, w = wX1 g h0 q1 q2 q3 q4 q5 q6)) 6 271 (va_A [(h0, .inr (1, [.null, .null, .null, .null, .null, .null, .int 0, .int 0, .int 0, .int 0]))] sz) := by
  refine k_met (by decide +kernel) rfl rfl (by decide) ?_
  intro p e s m args below meth c hsz hE C hr hk hin
  refine k_aload_n C dX1_init_0 rfl 0 rfl 1 rfl ?_
  refine k_objInit C qm_X1_3 dX1_init_1 (Nat.le_of_ble_eq_true rfl) (Nat.le_of_ble_eq_true rfl) 4 rfl ?_
  refine k_aload_n C dX1_init_4 rfl 0 rfl 5 rfl ?_
  refine k_bipush (v := 24) C dX1_init_5 (by decide) 7 rfl ?_
  refine k_newa C 24 (ce2 := 1) (sl2 := 24) dX1_init_7 (by decide) (by decide) (by decide) rfl rfl (Nat.le_of_ble_eq_true rfl) (Nat.le_of_ble_eq_true rfl) 9 rfl (fun a1 => ?_)
  refine k_eq (w2 := ((h0, .inr (1, [.null, .null, .null, .null, .null, .null, .int 0, .int 0, .int 0, .int 0])) :: (a1, .inl (g.2.1 0, 24, .inl (fun _ => 0))) :: [])) rfl ?_
  refine k_putF C hin 0 rfl rfl inX1 tyX1 tyX1_ok nmX1 0 (by decide) qf_X1_9 rfl rfl rfl rfl rfl (Nat.le_of_ble_eq_true rfl) (w2 := ((h0, .inr (1, [.ref a1, .null, .null, .null, .null, .null, .int 0, .int 0, .int 0, .int 0])) :: (a1, .inl (g.2.1 0, 24, .inl (fun _ => 0))) :: [])) rfl dX1_init_9 12 rfl ?_
  refine k_aload_n C dX1_init_12 rfl 0 rfl 13 rfl ?_
  refine k_bipush (v := 24) C dX1_init_13 (by decide) 15 rfl ?_
  refine k_newa C 24 (ce2 := 2) (sl2 := 48) dX1_init_15 (by decide) (by decide) (by decide) rfl rfl (Nat.le_of_ble_eq_true rfl) (Nat.le_of_ble_eq_true rfl) 17 rfl (fun a2 => ?_)
  refine k_eq (w2 := ((h0, .inr (1, [.ref a1, .null, .null, .null, .null, .null, .int 0, .int 0, .int 0, .int 0])) :: (a1, .inl (g.2.1 0, 24, .inl (fun _ => 0))) :: (a2, .inl (g.2.1 0, 24, .inl (fun _ => 0))) :: [])) rfl ?_
  refine k_putF C hin 0 rfl rfl inX1 tyX1 tyX1_ok nmX1 1 (by decide) qf_X1_15 rfl rfl rfl rfl rfl (Nat.le_of_ble_eq_true rfl) (w2 := ((h0, .inr (1, [.ref a1, .ref a2, .null, .null, .null, .null, .int 0, .int 0, .int 0, .int 0])) :: (a1, .inl (g.2.1 0, 24, .inl (fun _ => 0))) :: (a2, .inl (g.2.1 0, 24, .inl (fun _ => 0))) :: [])) rfl dX1_init_17 20 rfl ?_
  refine k_aload_n C dX1_init_20 rfl 0 rfl 21 rfl ?_
  refine k_bipush (v := 42) C dX1_init_21 (by decide) 23 rfl ?_
  refine k_newa C 42 (ce2 := 3) (sl2 := 90) dX1_init_23 (by decide) (by decide) (by decide) rfl rfl (Nat.le_of_ble_eq_true rfl) (Nat.le_of_ble_eq_true rfl) 25 rfl (fun a3 => ?_)
  refine k_eq (w2 := ((h0, .inr (1, [.ref a1, .ref a2, .null, .null, .null, .null, .int 0, .int 0, .int 0, .int 0])) :: (a1, .inl (g.2.1 0, 24, .inl (fun _ => 0))) :: (a2, .inl (g.2.1 0, 24, .inl (fun _ => 0))) :: (a3, .inl (g.2.1 0, 42, .inl (fun _ => 0))) :: [])) rfl ?_
  refine k_putF C hin 0 rfl rfl inX1 tyX1 tyX1_ok nmX1 2 (by decide) qf_X1_18 rfl rfl rfl rfl rfl (Nat.le_of_ble_eq_true rfl) (w2 := ((h0, .inr (1, [.ref a1, .ref a2, .ref a3, .null, .null, .null, .int 0, .int 0, .int 0, .int 0])) :: (a1, .inl (g.2.1 0, 24, .inl (fun _ => 0))) :: (a2, .inl (g.2.1 0, 24, .inl (fun _ => 0))) :: (a3, .inl (g.2.1 0, 42, .inl (fun _ => 0))) :: [])) rfl dX1_init_25 28 rfl ?_
  refine k_aload_n C dX1_init_28 rfl 0 rfl 29 rfl ?_
  refine k_sipush (v := 168) C dX1_init_29 (by decide) 32 rfl ?_
  refine k_newa C 168 (ce2 := 4) (sl2 := 258) dX1_init_32 (by decide) (by decide) (by decide) rfl rfl (Nat.le_of_ble_eq_true rfl) (Nat.le_of_ble_eq_true rfl) 34 rfl (fun a4 => ?_)
  refine k_eq (w2 := ((h0, .inr (1, [.ref a1, .ref a2, .ref a3, .null, .null, .null, .int 0, .int 0, .int 0, .int 0])) :: (a1, .inl (g.2.1 0, 24, .inl (fun _ => 0))) :: (a2, .inl (g.2.1 0, 24, .inl (fun _ => 0))) :: (a3, .inl (g.2.1 0, 42, .inl (fun _ => 0))) :: (a4, .inl (g.2.1 0, 168, .inl (fun _ => 0))) :: [])) rfl ?_
  refine k_putF C hin 0 rfl rfl inX1 tyX1 tyX1_ok nmX1 3 (by decide) qf_X1_21 rfl rfl rfl rfl rfl (Nat.le_of_ble_eq_true rfl) (w2 := ((h0, .inr (1, [.ref a1, .ref a2, .ref a3, .ref a4, .null, .null, .int 0, .int 0, .int 0, .int 0])) :: (a1, .inl (g.2.1 0, 24, .inl (fun _ => 0))) :: (a2, .inl (g.2.1 0, 24, .inl (fun _ => 0))) :: (a3, .inl (g.2.1 0, 42, .inl (fun _ => 0))) :: (a4, .inl (g.2.1 0, 168, .inl (fun _ => 0))) :: [])) rfl dX1_init_34 37 rfl ?_
  refine k_aload_n C dX1_init_37 rfl 0 rfl 38 rfl ?_
  refine k_iconst (v := 3) C dX1_init_38 (by decide) 39 rfl ?_
  refine k_newa C 3 (ce2 := 5) (sl2 := 261) dX1_init_39 (by decide) (by decide) (by decide) rfl rfl (Nat.le_of_ble_eq_true rfl) (Nat.le_of_ble_eq_true rfl) 41 rfl (fun a5 => ?_)
  refine k_eq (w2 := ((h0, .inr (1, [.ref a1, .ref a2, .ref a3, .ref a4, .null, .null, .int 0, .int 0, .int 0, .int 0])) :: (a1, .inl (g.2.1 0, 24, .inl (fun _ => 0))) :: (a2, .inl (g.2.1 0, 24, .inl (fun _ => 0))) :: (a3, .inl (g.2.1 0, 42, .inl (fun _ => 0))) :: (a4, .inl (g.2.1 0, 168, .inl (fun _ => 0))) :: (a5, .inl (g.2.1 0, 3, .inl (fun _ => 0))) :: [])) rfl ?_
  refine k_putF C hin 0 rfl rfl inX1 tyX1 tyX1_ok nmX1 4 (by decide) qf_X1_24 rfl rfl rfl rfl rfl (Nat.le_of_ble_eq_true rfl) (w2 := ((h0, .inr (1, [.ref a1, .ref a2, .ref a3, .ref a4, .ref a5, .null, .int 0, .int 0, .int 0, .int 0])) :: (a1, .inl (g.2.1 0, 24, .inl (fun _ => 0))) :: (a2, .inl (g.2.1 0, 24, .inl (fun _ => 0))) :: (a3, .inl (g.2.1 0, 42, .inl (fun _ => 0))) :: (a4, .inl (g.2.1 0, 168, .inl (fun _ => 0))) :: (a5, .inl (g.2.1 0, 3, .inl (fun _ => 0))) :: [])) rfl dX1_init_41 44 rfl ?_
  refine k_aload_n C dX1_init_44 rfl 0 rfl 45 rfl ?_
  refine k_bipush (v := 10) C dX1_init_45 (by decide) 47 rfl ?_
  refine k_newa C 10 (ce2 := 6) (sl2 := 271) dX1_init_47 (by decide) (by decide) (by decide) rfl rfl (Nat.le_of_ble_eq_true rfl) (Nat.le_of_ble_eq_true rfl) 49 rfl (fun a6 => ?_)
  refine k_eq (w2 := ((h0, .inr (1, [.ref a1, .ref a2, .ref a3, .ref a4, .ref a5, .null, .int 0, .int 0, .int 0, .int 0])) :: (a1, .inl (g.2.1 0, 24, .inl (fun _ => 0))) :: (a2, .inl (g.2.1 0, 24, .inl (fun _ => 0))) :: (a3, .inl (g.2.1 0, 42, .inl (fun _ => 0))) :: (a4, .inl (g.2.1 0, 168, .inl (fun _ => 0))) :: (a5, .inl (g.2.1 0, 3, .inl (fun _ => 0))) :: (a6, .inl (g.2.1 0, 10, .inl (fun _ => 0))) :: [])) rfl ?_
  refine k_putF C hin 0 rfl rfl inX1 tyX1 tyX1_ok nmX1 5 (by decide) qf_X1_27 rfl rfl rfl rfl rfl (Nat.le_of_ble_eq_true rfl) (w2 := ((h0, .inr (1, [.ref a1, .ref a2, .ref a3, .ref a4, .ref a5, .ref a6, .int 0, .int 0, .int 0, .int 0])) :: (a1, .inl (g.2.1 0, 24, .inl (fun _ => 0))) :: (a2, .inl (g.2.1 0, 24, .inl (fun _ => 0))) :: (a3, .inl (g.2.1 0, 42, .inl (fun _ => 0))) :: (a4, .inl (g.2.1 0, 168, .inl (fun _ => 0))) :: (a5, .inl (g.2.1 0, 3, .inl (fun _ => 0))) :: (a6, .inl (g.2.1 0, 10, .inl (fun _ => 0))) :: [])) rfl dX1_init_49 52 rfl ?_
  refine k_aload_n C dX1_init_52 rfl 0 rfl 53 rfl ?_
  refine k_iconst (v := 0) C dX1_init_53 (by decide) 54 rfl ?_
  refine k_put C 0 rfl rfl inX1 tyX1 tyX1_ok nmX1 6 (by decide) qf_X1_30 rfl rfl rfl rfl (Nat.le_of_ble_eq_true rfl) (w2 := ((h0, .inr (1, [.ref a1, .ref a2, .ref a3, .ref a4, .ref a5, .ref a6, .int 0, .int 0, .int 0, .int 0])) :: (a1, .inl (g.2.1 0, 24, .inl (fun _ => 0))) :: (a2, .inl (g.2.1 0, 24, .inl (fun _ => 0))) :: (a3, .inl (g.2.1 0, 42, .inl (fun _ => 0))) :: (a4, .inl (g.2.1 0, 168, .inl (fun _ => 0))) :: (a5, .inl (g.2.1 0, 3, .inl (fun _ => 0))) :: (a6, .inl (g.2.1 0, 10, .inl (fun _ => 0))) :: [])) rfl dX1_init_54 57 rfl ?_
  refine k_aload_n C dX1_init_57 rfl 0 rfl 58 rfl ?_
  refine k_iconst (v := 0) C dX1_init_58 (by decide) 59 rfl ?_
  refine k_put C 0 rfl rfl inX1 tyX1 tyX1_ok nmX1 7 (by decide) qf_X1_34 rfl rfl rfl rfl (Nat.le_of_ble_eq_true rfl) (w2 := ((h0, .inr (1, [.ref a1, .ref a2, .ref a3, .ref a4, .ref a5, .ref a6, .int 0, .int 0, .int 0, .int 0])) :: (a1, .inl (g.2.1 0, 24, .inl (fun _ => 0))) :: (a2, .inl (g.2.1 0, 24, .inl (fun _ => 0))) :: (a3, .inl (g.2.1 0, 42, .inl (fun _ => 0))) :: (a4, .inl (g.2.1 0, 168, .inl (fun _ => 0))) :: (a5, .inl (g.2.1 0, 3, .inl (fun _ => 0))) :: (a6, .inl (g.2.1 0, 10, .inl (fun _ => 0))) :: [])) rfl dX1_init_59 62 rfl ?_
  refine k_aload_n C dX1_init_62 rfl 0 rfl 63 rfl ?_
  refine k_iconst (v := 0) C dX1_init_63 (by decide) 64 rfl ?_
  refine k_put C 0 rfl rfl inX1 tyX1 tyX1_ok nmX1 8 (by decide) qf_X1_37 rfl rfl rfl rfl (Nat.le_of_ble_eq_true rfl) (w2 := ((h0, .inr (1, [.ref a1, .ref a2, .ref a3, .ref a4, .ref a5, .ref a6, .int 0, .int 0, .int 0, .int 0])) :: (a1, .inl (g.2.1 0, 24, .inl (fun _ => 0))) :: (a2, .inl (g.2.1 0, 24, .inl (fun _ => 0))) :: (a3, .inl (g.2.1 0, 42, .inl (fun _ => 0))) :: (a4, .inl (g.2.1 0, 168, .inl (fun _ => 0))) :: (a5, .inl (g.2.1 0, 3, .inl (fun _ => 0))) :: (a6, .inl (g.2.1 0, 10, .inl (fun _ => 0))) :: [])) rfl dX1_init_64 67 rfl ?_
  refine k_aload_n C dX1_init_67 rfl 0 rfl 68 rfl ?_
  refine k_iconst (v := 1) C dX1_init_68 (by decide) 69 rfl ?_
  refine k_put C 0 rfl rfl inX1 tyX1 tyX1_ok nmX1 9 (by decide) qf_X1_40 rfl rfl rfl rfl (Nat.le_of_ble_eq_true rfl) (w2 := ((h0, .inr (1, [.ref a1, .ref a2, .ref a3, .ref a4, .ref a5, .ref a6, .int 0, .int 0, .int 0, .int 1])) :: (a1, .inl (g.2.1 0, 24, .inl (fun _ => 0))) :: (a2, .inl (g.2.1 0, 24, .inl (fun _ => 0))) :: (a3, .inl (g.2.1 0, 42, .inl (fun _ => 0))) :: (a4, .inl (g.2.1 0, 168, .inl (fun _ => 0))) :: (a5, .inl (g.2.1 0, 3, .inl (fun _ => 0))) :: (a6, .inl (g.2.1 0, 10, .inl (fun _ => 0))) :: [])) rfl dX1_init_69 72 rfl ?_
  refine k_aload_n C dX1_init_72 rfl 0 rfl 73 rfl ?_
  refine k_get C 0 rfl rfl inX1 4 (by decide) qf_X1_24 rfl dX1_init_73 76 rfl ?_
  refine k_iconst (v := 0) C dX1_init_76 (by decide) 77 rfl ?_
  refine k_bipush (v := 8) C dX1_init_77 (by decide) 79 rfl ?_
  refine k_iast C 5 rfl (by unfold vp_in; decide) (w2 := ((h0, .inr (1, [.ref a1, .ref a2, .ref a3, .ref a4, .ref a5, .ref a6, .int 0, .int 0, .int 0, .int 1])) :: (a1, .inl (g.2.1 0, 24, .inl (fun _ => 0))) :: (a2, .inl (g.2.1 0, 24, .inl (fun _ => 0))) :: (a3, .inl (g.2.1 0, 42, .inl (fun _ => 0))) :: (a4, .inl (g.2.1 0, 168, .inl (fun _ => 0))) :: (a5, .inl (g.2.1 0, 3, .inl (upd (fun _ => 0) 0 8))) :: (a6, .inl (g.2.1 0, 10, .inl (fun _ => 0))) :: [])) rfl dX1_init_79 80 rfl ?_
  refine k_aload_n C dX1_init_80 rfl 0 rfl 81 rfl ?_
  refine k_get C 0 rfl rfl inX1 4 (by decide) qf_X1_24 rfl dX1_init_81 84 rfl ?_
  refine k_iconst (v := 1) C dX1_init_84 (by decide) 85 rfl ?_
  refine k_iconst (v := 2) C dX1_init_85 (by decide) 86 rfl ?_
  refine k_iast C 5 rfl (by unfold vp_in; decide) (w2 := ((h0, .inr (1, [.ref a1, .ref a2, .ref a3, .ref a4, .ref a5, .ref a6, .int 0, .int 0, .int 0, .int 1])) :: (a1, .inl (g.2.1 0, 24, .inl (fun _ => 0))) :: (a2, .inl (g.2.1 0, 24, .inl (fun _ => 0))) :: (a3, .inl (g.2.1 0, 42, .inl (fun _ => 0))) :: (a4, .inl (g.2.1 0, 168, .inl (fun _ => 0))) :: (a5, .inl (g.2.1 0, 3, .inl (upd (upd (fun _ => 0) 0 8) 1 2))) :: (a6, .inl (g.2.1 0, 10, .inl (fun _ => 0))) :: [])) rfl dX1_init_86 87 rfl ?_
  refine k_aload_n C dX1_init_87 rfl 0 rfl 88 rfl ?_
  refine k_get C 0 rfl rfl inX1 4 (by decide) qf_X1_24 rfl dX1_init_88 91 rfl ?_
  refine k_iconst (v := 2) C dX1_init_91 (by decide) 92 rfl ?_
  refine k_iconst (v := 1) C dX1_init_92 (by decide) 93 rfl ?_
  refine k_iast C 5 rfl (by unfold vp_in; decide) (w2 := ((h0, .inr (1, [.ref a1, .ref a2, .ref a3, .ref a4, .ref a5, .ref a6, .int 0, .int 0, .int 0, .int 1])) :: (a1, .inl (g.2.1 0, 24, .inl (fun _ => 0))) :: (a2, .inl (g.2.1 0, 24, .inl (fun _ => 0))) :: (a3, .inl (g.2.1 0, 42, .inl (fun _ => 0))) :: (a4, .inl (g.2.1 0, 168, .inl (fun _ => 0))) :: (a5, .inl (g.2.1 0, 3, .inl (upd (upd (upd (fun _ => 0) 0 8) 1 2) 2 1))) :: (a6, .inl (g.2.1 0, 10, .inl (fun _ => 0))) :: [])) rfl dX1_init_93 94 rfl ?_
  refine k_iconst (v := 0) C dX1_init_94 (by decide) 95 rfl ?_
  refine k_istore_n (lv2 := [(1, .int 0), (0, .ref h0)]) C dX1_init_95 rfl (by decide) rfl 96 rfl ?_
  refine k_re 6 (f2 := spF 0) rfl (fun j hj => rfl) (w2 := ((h0, .inr (1, [.ref a1, .ref a2, .ref a3, .ref a4, .ref a5, .ref a6, .int 0, .int 0, .int 0, .int 1])) :: (a1, .inl (g.2.1 0, 24, .inl (fun _ => 0))) :: (a2, .inl (g.2.1 0, 24, .inl (fun _ => 0))) :: (a3, .inl (g.2.1 0, 42, .inl (fun _ => 0))) :: (a4, .inl (g.2.1 0, 168, .inl (fun _ => 0))) :: (a5, .inl (g.2.1 0, 3, .inl (upd (upd (upd (fun _ => 0) 0 8) 1 2) 2 1))) :: (a6, .inl (g.2.1 0, 10, .inl (spF 0))) :: [])) rfl ?_
  have loop : ∀ (k j : Nat), k + j = 10 → Wk p l e ({ frames := 1, cells := 6, slots := 271, locals := 12 } : Room) s m args below meth c (MQ below (QvK g h0 (.inr (1, [.null, .null, .null, .null, .null, .null, .int 0, .int 0, .int 0, .int 0])) sz (fun w => ∃ q1 q2 q3 q4 q5 q6 : Nat, w = wX1 g h0 q1 q2 q3 q4 q5 q6)) args s 6 271 (va_A [(h0, .inr (1, [.null, .null, .null, .null, .null, .null, .int 0, .int 0, .int 0, .int 0]))] sz)) 2 g.1 (va_A [(h0, .inr (1, [.null, .null, .null, .null, .null, .null, .int 0, .int 0, .int 0, .int 0]))] sz) (((h0, .inr (1, [.ref a1, .ref a2, .ref a3, .ref a4, .ref a5, .ref a6, .int 0, .int 0, .int 0, .int 1])) :: (a1, .inl (g.2.1 0, 24, .inl (fun _ => 0))) :: (a2, .inl (g.2.1 0, 24, .inl (fun _ => 0))) :: (a3, .inl (g.2.1 0, 42, .inl (fun _ => 0))) :: (a4, .inl (g.2.1 0, 168, .inl (fun _ => 0))) :: (a5, .inl (g.2.1 0, 3, .inl (upd (upd (upd (fun _ => 0) 0 8) 1 2) 2 1))) :: (a6, .inl (g.2.1 0, 10, .inl (spF j))) :: [])) 6 271 96 [(1, .int (nI j)), (0, .ref h0)] [] := by
    intro k
    induction k with
    | zero =>
      intro j hj
      obtain rfl : j = 10 := by omega
      refine k_iload_n C dX1_init_96 rfl 0 rfl 97 rfl ?_
      refine k_bipush (v := 10) C dX1_init_97 (by decide) 99 rfl ?_
      refine k_icmp_ge C dX1_init_99 115 (by decide) 102 rfl (fun _ => ?_) (fun z => absurd (by decide) z)
      refine k_re 1 (f2 := rp A00 1) rfl (by decide +kernel) (w2 := ((h0, .inr (1, [.ref a1, .ref a2, .ref a3, .ref a4, .ref a5, .ref a6, .int 0, .int 0, .int 0, .int 1])) :: (a1, .inl (g.2.1 0, 24, .inl (rp A00 1))) :: (a2, .inl (g.2.1 0, 24, .inl (fun _ => 0))) :: (a3, .inl (g.2.1 0, 42, .inl (fun _ => 0))) :: (a4, .inl (g.2.1 0, 168, .inl (fun _ => 0))) :: (a5, .inl (g.2.1 0, 3, .inl (upd (upd (upd (fun _ => 0) 0 8) 1 2) 2 1))) :: (a6, .inl (g.2.1 0, 10, .inl (spF 10))) :: [])) rfl ?_
      refine k_re 2 (f2 := rp A00 2) rfl (by decide +kernel) (w2 := ((h0, .inr (1, [.ref a1, .ref a2, .ref a3, .ref a4, .ref a5, .ref a6, .int 0, .int 0, .int 0, .int 1])) :: (a1, .inl (g.2.1 0, 24, .inl (rp A00 1))) :: (a2, .inl (g.2.1 0, 24, .inl (rp A00 2))) :: (a3, .inl (g.2.1 0, 42, .inl (fun _ => 0))) :: (a4, .inl (g.2.1 0, 168, .inl (fun _ => 0))) :: (a5, .inl (g.2.1 0, 3, .inl (upd (upd (upd (fun _ => 0) 0 8) 1 2) 2 1))) :: (a6, .inl (g.2.1 0, 10, .inl (spF 10))) :: [])) rfl ?_
      refine k_re 3 (f2 := rp A00 3) rfl (by decide +kernel) (w2 := ((h0, .inr (1, [.ref a1, .ref a2, .ref a3, .ref a4, .ref a5, .ref a6, .int 0, .int 0, .int 0, .int 1])) :: (a1, .inl (g.2.1 0, 24, .inl (rp A00 1))) :: (a2, .inl (g.2.1 0, 24, .inl (rp A00 2))) :: (a3, .inl (g.2.1 0, 42, .inl (rp A00 3))) :: (a4, .inl (g.2.1 0, 168, .inl (fun _ => 0))) :: (a5, .inl (g.2.1 0, 3, .inl (upd (upd (upd (fun _ => 0) 0 8) 1 2) 2 1))) :: (a6, .inl (g.2.1 0, 10, .inl (spF 10))) :: [])) rfl ?_
      refine k_re 4 (f2 := rp A00 4) rfl (by decide +kernel) (w2 := ((h0, .inr (1, [.ref a1, .ref a2, .ref a3, .ref a4, .ref a5, .ref a6, .int 0, .int 0, .int 0, .int 1])) :: (a1, .inl (g.2.1 0, 24, .inl (rp A00 1))) :: (a2, .inl (g.2.1 0, 24, .inl (rp A00 2))) :: (a3, .inl (g.2.1 0, 42, .inl (rp A00 3))) :: (a4, .inl (g.2.1 0, 168, .inl (rp A00 4))) :: (a5, .inl (g.2.1 0, 3, .inl (upd (upd (upd (fun _ => 0) 0 8) 1 2) 2 1))) :: (a6, .inl (g.2.1 0, 10, .inl (spF 10))) :: [])) rfl ?_
      refine k_re 5 (f2 := rp A00 5) rfl (by decide +kernel) (w2 := ((h0, .inr (1, [.ref a1, .ref a2, .ref a3, .ref a4, .ref a5, .ref a6, .int 0, .int 0, .int 0, .int 1])) :: (a1, .inl (g.2.1 0, 24, .inl (rp A00 1))) :: (a2, .inl (g.2.1 0, 24, .inl (rp A00 2))) :: (a3, .inl (g.2.1 0, 42, .inl (rp A00 3))) :: (a4, .inl (g.2.1 0, 168, .inl (rp A00 4))) :: (a5, .inl (g.2.1 0, 3, .inl (rp A00 5))) :: (a6, .inl (g.2.1 0, 10, .inl (spF 10))) :: [])) rfl ?_
      refine k_re 6 (f2 := rp A00 6) rfl (by decide +kernel) (w2 := ((h0, .inr (1, [.ref a1, .ref a2, .ref a3, .ref a4, .ref a5, .ref a6, .int 0, .int 0, .int 0, .int 1])) :: (a1, .inl (g.2.1 0, 24, .inl (rp A00 1))) :: (a2, .inl (g.2.1 0, 24, .inl (rp A00 2))) :: (a3, .inl (g.2.1 0, 42, .inl (rp A00 3))) :: (a4, .inl (g.2.1 0, 168, .inl (rp A00 4))) :: (a5, .inl (g.2.1 0, 3, .inl (rp A00 5))) :: (a6, .inl (g.2.1 0, 10, .inl (rp A00 6))) :: [])) rfl ?_
      exact k_vret C rfl hr hk ⟨a1, a2, a3, a4, a5, a6, rfl⟩ dX1_init_115
    | succ k ih =>
      intro j hj
      obtain ⟨g1, g2, g3, g4⟩ := kq10 j (by omega)
      refine k_iload_n C dX1_init_96 rfl 0 rfl 97 rfl ?_
      refine k_bipush (v := 10) C dX1_init_97 (by decide) 99 rfl ?_
      refine k_icmp_ge C dX1_init_99 115 (by decide) 102 rfl (fun z => absurd z g1) (fun _ => ?_)
      refine k_aload_n C dX1_init_102 rfl 1 rfl 103 rfl ?_
      refine k_get C 0 rfl rfl inX1 5 (by decide) qf_X1_27 rfl dX1_init_103 106 rfl ?_
      refine k_iload_n C dX1_init_106 rfl 0 rfl 107 rfl ?_
      refine k_iconst (v := (-1)) C dX1_init_107 (by decide) 108 rfl ?_
      refine k_iast C 6 rfl g2 (w2 := ((h0, .inr (1, [.ref a1, .ref a2, .ref a3, .ref a4, .ref a5, .ref a6, .int 0, .int 0, .int 0, .int 1])) :: (a1, .inl (g.2.1 0, 24, .inl (fun _ => 0))) :: (a2, .inl (g.2.1 0, 24, .inl (fun _ => 0))) :: (a3, .inl (g.2.1 0, 42, .inl (fun _ => 0))) :: (a4, .inl (g.2.1 0, 168, .inl (fun _ => 0))) :: (a5, .inl (g.2.1 0, 3, .inl (upd (upd (upd (fun _ => 0) 0 8) 1 2) 2 1))) :: (a6, .inl (g.2.1 0, 10, .inl (spF (j + 1)))) :: [])) (by rw [g3, spF_u]; rfl) dX1_init_108 109 rfl ?_
      refine k_iinc (k := 0) (v := nI (j + 1)) (lv2 := [(1, .int (nI (j + 1))), (0, .ref h0)]) C dX1_init_109 rfl g4 (by decide) rfl 112 rfl ?_
      refine k_goto C dX1_init_112 96 (by decide) ?_
      exact ih (j + 1) (by omega)
  exact loop 10 0 rfl
