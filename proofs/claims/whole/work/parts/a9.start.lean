/-! THE LAW, FROM ITS ENTRY -/
abbrev gE (D : va_G) (dA : Nat → ClassId) (S K V : Nat → Nat) : GG := (D, dA, fun _ => 0, S, K, V)
abbrev e4N : va_E := .inr (4, [.null, .null, .null, .int 0, .null, .int 0, .int 0, .int 0, .int 0, .int 0, .null, .int 0, .int 0, .int 0, .int 0, .int 0, .int 0, .null, .null, .null, .int 0, .int 0, .null, .null, .null, .null, .null])
abbrev e3N : va_E := .inr (3, [.null, .null, .int 0, .null, .null, .null, .null, .null])
set_option maxHeartbeats 4000000 in
set_option maxRecDepth 100000 in
theorem whole_start {p : Program} {e : Env} {s : State} {m : MethodId} {below : List Frame} {meth : Method} {c : Code} (l : Launch) (hflags : l.flags = flags0) {b L : Nat} {xs : Nat → Int32} (hL : L ≤ 3072) (C0 : lw_At p s m meth c b L xs) : W p l e room_1 s m #[Value.ref b] below meth c s.heap [] 0 0 (lw_Z below #[Value.ref b] s) (entryFrame m ([Value.ref b] : List Value).toArray 4) := by
  obtain ⟨hx, hb, hr, hml, hown, hts, hX, hbl, hlocks, hgv⟩ := id C0
  obtain ⟨D, dA, hK, a1, a2, a3⟩ := law_cls hts
  obtain ⟨S, K, V, hRst⟩ := law_rest hts hgv
  have CF : CallFix p m c code 4 s #[Value.ref b] ALLW RL := ⟨hx, hb, hml, hown, fun w h => hts w (ALLW_lw w h)⟩
  have C : Ck p m c code 4 s #[Value.ref b] RL (gE D dA S K V) (Ag s.heap.size) := ⟨CF, hK, fun q h => h⟩
  have key : Wk p l e room_1 s m #[Value.ref b] below meth c (lw_Z below #[Value.ref b] s) 4 (gE D dA S K V).1 (Ag s.heap.size) [] 0 0 0 [(0, .ref b)] [] := by
    refine k_new C (ci := 3) (fs := [.null, .null, .int 0, .null, .null, .null, .null, .null]) (ce2 := 1) (sl2 := 8) inX3 tyX3 tyX3_ok ql_L_7 qa_X3 qn_X3 rfl dfX3 dL_0 rfl rfl (Nat.le_of_ble_eq_true rfl) (Nat.le_of_ble_eq_true rfl) 3 rfl (fun q0 => ?_)
    refine k_dup C dL_3 rfl 4 rfl ?_
    refine k_call (R := room_1) (w := []) (E := fun _ U => va_AO RX1 U ∧ va_AO RX0 U) C (fun sz => c_X3_init l (gE D dA S K V) q0 sz) ⟨rfl, rfl⟩ qc_X3_init qn_X3 qm_L_9 qi_X3_init rfl (by decide +kernel) ⟨Nat.le_of_ble_eq_true rfl, Nat.le_of_ble_eq_true rfl⟩ (fun _ U fr mk av h => ⟨va_AO.moved (u := U) (U := U.calling fr mk av) (Vm.Alike.refl U.vm) h.1, va_AO.moved (u := U) (U := U.calling fr mk av) (Vm.Alike.refl U.vm) h.2⟩) (fun H locs U hS hU hW hF => ⟨va_AO.moved hW.alike a1, va_AO.moved hW.alike a2⟩) (Nat.le_of_ble_eq_true rfl) dL_4 (ce2 := 56) (sl2 := 2007) rfl rfl (Nat.le_of_ble_eq_true rfl) (Nat.le_of_ble_eq_true rfl) 7 rfl (fun w1 hw1 => ?_)
    obtain ⟨q, hq0, rfl⟩ := hw1
    refine k_astore_n (lv2 := [(1, .ref q0), (0, .ref b)]) C dL_7 rfl (by decide) rfl 8 rfl ?_
    refine k_new C (ci := 4) (fs := [.null, .null, .null, .int 0, .null, .int 0, .int 0, .int 0, .int 0, .int 0, .null, .int 0, .int 0, .int 0, .int 0, .int 0, .int 0, .null, .null, .null, .int 0, .int 0, .null, .null, .null, .null, .null]) (ce2 := 57) (sl2 := 2034) inX4 tyX4 tyX4_ok ql_L_10 qa_X4 qn_X4 rfl dfX4 dL_8 rfl rfl (Nat.le_of_ble_eq_true rfl) (Nat.le_of_ble_eq_true rfl) 11 rfl (fun p0 => ?_)
    refine k_dup C dL_11 rfl 12 rfl ?_
    refine k_call (R := room_1) (w := [] ++ wX3 (gE D dA S K V) q) (E := fun sz U => (∀ i, i < 10 → vk_R "PennyLedgeModel" (skM i) (skT i) (adK (gE D dA S K V) i) U) ∧ (∀ i, i < 10 → va_O "java/lang/String" (adK (gE D dA S K V) i) (va_A [(p0, e4N)] sz) U U.heap) ∧ va_AO "java/lang/String" U) C (fun sz => c_X4_init l (gE D dA S K V) p0 sz) ⟨rfl, rfl⟩ qc_X4_init qn_X4 qm_L_12 qi_X4_init rfl (by decide +kernel) ⟨Nat.le_of_ble_eq_true rfl, Nat.le_of_ble_eq_true rfl⟩ (fun _ U fr mk av h => ⟨fun i hi => vk_R.same rfl (h.1 i hi), fun i hi => va_O.moved (u := U) (U := U.calling fr mk av) (Vm.Alike.refl U.vm) (h.2.1 i hi), va_AO.moved (u := U) (U := U.calling fr mk av) (Vm.Alike.refl U.vm) h.2.2⟩) (fun H locs U hS hU hW hF => ⟨fun i hi => vk_R.warm hW (hRst.2.2.1 i (by omega)).2, fun i hi => by rw [hU]; exact va_O.moved hW.alike (((hRst.2.1.1 i (by omega)).1.kept hS.2.1).narrow hF), va_AO.moved hW.alike a3⟩) (Nat.le_of_ble_eq_true rfl) dL_12 (ce2 := 70) (sl2 := 3487) rfl rfl (Nat.le_of_ble_eq_true rfl) (Nat.le_of_ble_eq_true rfl) 15 rfl (fun w1 hw1 => ?_)
    obtain ⟨q2, hp0, rfl⟩ := hw1
    refine k_astore_n (lv2 := [(2, .ref p0), (1, .ref q0), (0, .ref b)]) C dL_15 rfl (by decide) rfl 16 rfl ?_
    refine k_iconst (v := 0) C dL_16 (by decide) 17 rfl ?_
    refine k_istore_n (lv2 := [(3, .int 0), (2, .ref p0), (1, .ref q0), (0, .ref b)]) C dL_17 rfl (by decide) rfl 18 rfl ?_
    intro H locs ls hP hD hS hl
    have hw : [] ++ wX3 (gE D dA S K V) q ++ wX4 (gE D dA S K V) q2 = wl (gW (gE D dA S K V) q q2 S K V) (ent (gW (gE D dA S K V) q q2 S K V) x00 m00) := wX_G (gE D dA S K V) q q2 S K V
    rw [hw] at hP hD
    have hBs : Bs (gW (gE D dA S K V) q q2 S K V) s.heap.size s s.heap := ⟨⟨hK, fun i j hi hj h => hD.1 i j _ _ (wl_get hi) (wl_get hj) h, fun i hi => hD.2 i _ (wl_get hi)⟩, hRst⟩
    have CC : Cl p m c s b (gW (gE D dA S K V) q q2 S K V) := ⟨CF, hBs⟩
    refine W.widen (k := 600000) (n := 7302250) (by decide) (by decide) ?_
    have hl2 : lv_has ls 4 (lvL (gW (gE D dA S K V) q q2 S K V) b 0) := by
      have e0 : ad (gW (gE D dA S K V) q q2 S K V) 0 = q0 := hq0
      have e1 : ad (gW (gE D dA S K V) q q2 S K V) 56 = p0 := hp0
      unfold lvL
      rw [e0, e1]
      exact hl
    exact law_loop CC hr hlocks hX hbl hL (L + 6) 0 x00 m00 (by omega) (by omega) RLL_00 H locs ls hP hS hl2
  rw [lg_entry_eq]
  exact key s.heap [] _ (fun k q h => by simp at h) ⟨fun i j x y h => by simp at h, fun k q h => by simp at h⟩ va_S.rf (lv_entry [.ref b] (n := 4) (Nat.le_of_ble_eq_true rfl))
