/-! WHAT HOLDS AT THE LAW'S ENTRY -/
theorem tL1 {w : Cond} (h : w ∈ tables_1_1) : w ∈ lw_tbl := List.mem_append_right _ (List.mem_append_left _ h)
theorem tL2 {w : Cond} (h : w ∈ tables_1_2) : w ∈ lw_tbl := List.mem_append_right _ (List.mem_append_right _ (List.mem_append_left _ h))
theorem tL3 {w : Cond} (h : w ∈ tables_1_3) : w ∈ lw_tbl := List.mem_append_right _ (List.mem_append_right _ (List.mem_append_right _ (List.mem_append_left _ h)))
theorem tL4 {w : Cond} (h : w ∈ tables_1_4) : w ∈ lw_tbl := List.mem_append_right _ (List.mem_append_right _ (List.mem_append_right _ (List.mem_append_right _ (List.mem_append_left _ h))))
theorem tL6 {w : Cond} (h : w ∈ tables_1_6) : w ∈ lw_tbl := List.mem_append_right _ (List.mem_append_right _ (List.mem_append_right _ (List.mem_append_right _ (List.mem_append_right _ (List.mem_append_right _ h)))))
abbrev FG : List Cond := flatC (Jvm.Cond.and given_1 narrow_1)
abbrev sT (i : Nat) : Term := .static "PennyLedge" (stN i) "[I"
abbrev sK (i : Nat) : Term := .string "PennyLedge" (skX i)
abbrev sV (i : Nat) : Term := .field (sK i) "java/lang/String" "value" "[B"
def fgP : List (List Nat) := [[0, 93, 103, 114, 125, 138, 151, 179, 197, 215, 163], [0, 0, 104, 115, 126, 139, 152, 180, 198, 216, 164], [0, 0, 0, 116, 127, 140, 153, 181, 199, 217, 165], [0, 0, 0, 0, 128, 141, 154, 182, 200, 218, 166], [0, 0, 0, 0, 0, 142, 155, 183, 201, 219, 167], [0, 0, 0, 0, 0, 0, 156, 184, 202, 220, 168], [0, 0, 0, 0, 0, 0, 0, 185, 203, 221, 169], [0, 0, 0, 0, 0, 0, 0, 0, 205, 223, 186], [0, 0, 0, 0, 0, 0, 0, 0, 0, 224, 204], [0, 0, 0, 0, 0, 0, 0, 0, 0, 0, 222], [0, 0, 0, 0, 0, 0, 0, 0, 0, 0, 0]]
set_option maxRecDepth 100000 in
theorem fg_1 : ∀ i, i < 7 → Cond.arrayOf (sT i) .int ∈ FG := by decide +kernel
set_option maxRecDepth 100000 in
theorem fg_2 : ∀ i, i < 7 → Cond.eq (.length (sT i)) (.int (Int32.ofNat (stL i))) ∈ FG := by decide +kernel
set_option maxRecDepth 100000 in
theorem fg_3 : ∀ i, i < 7 → ∀ j, j < stL i → Cond.eq (.elem (sT i) (.int (Int32.ofNat j))) (.int (stC i j)) ∈ FG := by decide +kernel
set_option maxRecDepth 100000 in
theorem fg_4 : ∀ i, i < 11 → Cond.exactly (sK i) "java/lang/String" ∈ FG := by decide +kernel
set_option maxRecDepth 100000 in
theorem fg_5 : ∀ i, i < 11 → Cond.eq (.field (sK i) "java/lang/String" "coder" "B") (.int 0) ∈ FG := by decide +kernel
set_option maxRecDepth 100000 in
theorem fg_6 : ∀ i, i < 11 → Cond.arrayOf (sV i) .byte ∈ FG := by decide +kernel
set_option maxRecDepth 100000 in
theorem fg_7 : ∀ i, i < 11 → Cond.eq (.length (sV i)) (.int (Int32.ofNat (skL.getD i 0))) ∈ FG := by decide +kernel
set_option maxRecDepth 100000 in
theorem fg_8 : ∀ i, i < 11 → ∀ j, j < skL.getD i 0 → Cond.eq (.elem (sV i) (.int (Int32.ofNat j))) (.int ((skB.getD i []).getD j 0)) ∈ FG := by decide +kernel
set_option maxRecDepth 100000 in
theorem fg_9a : ∀ i, i < 11 → ∀ j, j < 11 → i < j → (FG[(fgP.getD i []).getD j 0]? = some (Cond.not (Cond.eq (sK i) (sK j))) ∨ FG[(fgP.getD i []).getD j 0]? = some (Cond.not (Cond.eq (sK j) (sK i)))) := by decide +kernel
theorem fg_9 : ∀ i, i < 11 → ∀ j, j < 11 → i ≠ j → (Cond.not (Cond.eq (sK i) (sK j)) ∈ FG ∨ Cond.not (Cond.eq (sK j) (sK i)) ∈ FG) := by
  intro i hi j hj hij
  rcases Nat.lt_or_gt_of_ne hij with h | h
  · exact (fg_9a i hi j hj h).elim (fun z => Or.inl (List.mem_of_getElem? z)) (fun z => Or.inr (List.mem_of_getElem? z))
  · exact (fg_9a j hj i hi h).elim (fun z => Or.inr (List.mem_of_getElem? z)) (fun z => Or.inl (List.mem_of_getElem? z))
set_option maxRecDepth 100000 in
theorem fg_10 : ∀ i, i < 11 → Cond.eq (sK i) (.string "PennyLedgeModel" (skM i)) ∈ FG := by decide +kernel
set_option maxRecDepth 100000 in
theorem fg_11 : Cond.eq (.static "java/lang/String" "COMPACT_STRINGS" "Z") (.int 1) ∈ FG := by decide +kernel
set_option maxRecDepth 100000 in
theorem fg_12 : Cond.isRef (.static "jdk/internal/util/Preconditions" "SIOOBE_FORMATTER" "Ljava/util/function/BiFunction;") ∈ FG := by decide +kernel
theorem tl_s : ∀ i, i < 7 → Cond.laysStatic "PennyLedge" (stN i) "[I" ∈ lw_tbl := fun i hi => by
  rcases (show i = 0 ∨ i = 1 ∨ i = 2 ∨ i = 3 ∨ i = 4 ∨ i = 5 ∨ i = 6 by omega) with rfl | rfl | rfl | rfl | rfl | rfl | rfl
  · exact tL3 (List.mem_of_getElem? (i := 166) rfl)
  · exact tL1 (List.mem_of_getElem? (i := 184) rfl)
  · exact tL1 (List.mem_of_getElem? (i := 186) rfl)
  · exact tL1 (List.mem_of_getElem? (i := 188) rfl)
  · exact tL1 (List.mem_of_getElem? (i := 238) rfl)
  · exact tL2 (List.mem_of_getElem? (i := 0) rfl)
  · exact tL2 (List.mem_of_getElem? (i := 192) rfl)
theorem tl_x : ∀ i, i < 11 → Cond.stringRef "PennyLedge" (skX i) (skT i) ∈ lw_tbl := fun i hi => by
  rcases (show i = 0 ∨ i = 1 ∨ i = 2 ∨ i = 3 ∨ i = 4 ∨ i = 5 ∨ i = 6 ∨ i = 7 ∨ i = 8 ∨ i = 9 ∨ i = 10 by omega) with rfl | rfl | rfl | rfl | rfl | rfl | rfl | rfl | rfl | rfl | rfl
  · exact tL3 (List.mem_of_getElem? (i := 79) rfl)
  · exact tL3 (List.mem_of_getElem? (i := 80) rfl)
  · exact tL3 (List.mem_of_getElem? (i := 81) rfl)
  · exact tL3 (List.mem_of_getElem? (i := 82) rfl)
  · exact tL3 (List.mem_of_getElem? (i := 83) rfl)
  · exact tL3 (List.mem_of_getElem? (i := 84) rfl)
  · exact tL3 (List.mem_of_getElem? (i := 85) rfl)
  · exact tL3 (List.mem_of_getElem? (i := 146) rfl)
  · exact tL3 (List.mem_of_getElem? (i := 147) rfl)
  · exact tL3 (List.mem_of_getElem? (i := 148) rfl)
  · exact tL3 (List.mem_of_getElem? (i := 142) rfl)
theorem tl_m : ∀ i, i < 11 → Cond.stringRef "PennyLedgeModel" (skM i) (skT i) ∈ lw_tbl := fun i hi => by
  rcases (show i = 0 ∨ i = 1 ∨ i = 2 ∨ i = 3 ∨ i = 4 ∨ i = 5 ∨ i = 6 ∨ i = 7 ∨ i = 8 ∨ i = 9 ∨ i = 10 by omega) with rfl | rfl | rfl | rfl | rfl | rfl | rfl | rfl | rfl | rfl | rfl
  · exact tL4 (List.mem_of_getElem? (i := 3) rfl)
  · exact tL4 (List.mem_of_getElem? (i := 4) rfl)
  · exact tL4 (List.mem_of_getElem? (i := 5) rfl)
  · exact tL4 (List.mem_of_getElem? (i := 6) rfl)
  · exact tL4 (List.mem_of_getElem? (i := 7) rfl)
  · exact tL4 (List.mem_of_getElem? (i := 8) rfl)
  · exact tL4 (List.mem_of_getElem? (i := 9) rfl)
  · exact tL4 (List.mem_of_getElem? (i := 10) rfl)
  · exact tL4 (List.mem_of_getElem? (i := 11) rfl)
  · exact tL4 (List.mem_of_getElem? (i := 12) rfl)
  · exact tL6 (List.mem_of_getElem? (i := 10) rfl)
/-- all of Bs that speaks of no object of the law's own -/
def Rst (S K V : Nat → Nat) (sz : Nat) (U : State) (H : Heap) : Prop :=
  (∀ i, i < 7 → va_Z "PennyLedge" (stN i) "[I" (.ref (S i)) (Ag sz) U H ∧ va_T .int (S i) (stL i) (fun j => .int (stC i j)) (Ag sz) U H) ∧
  vk_S 11 skL skB K V (Ag sz) U H ∧ (∀ i, i < 11 → vk_R "PennyLedge" (skX i) (skT i) (K i) U ∧ vk_R "PennyLedgeModel" (skM i) (skT i) (K i) U) ∧
  (va_Nw (.fieldLinkNest RX1 60 "PennyLedge" "WORTH" "[I" "PennyLedge") U ∧ va_Nw (.fieldLinkNest RX1 77 "PennyLedge" "WEIGHS" "[I" "PennyLedge") U ∧ va_Nw (.fieldLinkNest RX1 86 "PennyLedge" "SLIDES" "[I" "PennyLedge") U) ∧
  (va_Z "java/lang/String" "COMPACT_STRINGS" "Z" (.int 1) (Ag sz) U H ∧ ∃ v : Value, (v = .null ∨ ∃ t, v = .ref t) ∧ va_Z "jdk/internal/util/Preconditions" "SIOOBE_FORMATTER" "Ljava/util/function/BiFunction;" v (Ag sz) U H)
theorem law_rest {args : Array Value} {s : State} (hts : ∀ w ∈ lw_tbl, w.before args s = true) (hgv : (Jvm.Cond.and given_1 narrow_1).before args s = true) : ∃ S K V : Nat → Nat, Rst S K V s.heap.size s s.heap := by
  have hs := flat_of_before _ hgv
  have hA : ∀ a : Nat, a < s.heap.size → ¬ Ag s.heap.size a := fun a h => Nat.not_le.mpr h
  have iP : (Cond.initialized "PennyLedge").before args s = true := hts _ (tL1 (List.mem_of_getElem? (i := 1) rfl))
  have h0 : ∀ i : Nat, ∃ t : Nat, i < 7 → va_Z "PennyLedge" (stN i) "[I" (.ref t) (Ag s.heap.size) s s.heap ∧ va_T .int t (stL i) (fun j => .int (stC i j)) (Ag s.heap.size) s s.heap := by
    intro i
    by_cases hi : i < 7
    · have hN : stL i < 2 ^ 31 := by
        have : ∀ i, i < 7 → stL i < 2 ^ 31 := by decide
        exact this i hi
      obtain ⟨t, ht, hT⟩ := va_Tof (tm := sT i) (ty := .int) (N := stL i) (f := fun j => .int (stC i j)) (A := Ag s.heap.size) hN (hs _ (fg_1 i hi)) (va_eqt (hs _ (fg_2 i hi))) (fun j hj => va_eqt (hs _ (fg_3 i hi j hj))) hA
      exact ⟨t, fun _ => ⟨va_Zof (hts _ (tl_s i hi)) iP ht hA, hT⟩⟩
    · exact ⟨0, fun h => absurd h hi⟩
  obtain ⟨S, hS⟩ := Classical.axiomOfChoice h0
  have hL : ∀ i : Nat, i < 11 → skL.getD i 0 < 2 ^ 31 := by decide
  obtain ⟨K, V, hK, hE⟩ := vk_Sof (tm := fun i => sK i) (N := 11) (len := skL) (byt := skB) (A := Ag s.heap.size) hL (fun i hi => hs _ (fg_4 i hi)) (fun i hi => hs _ (fg_5 i hi)) (fun i hi => hs _ (fg_6 i hi)) (fun i hi => hs _ (fg_7 i hi)) (fun i hi j hj => hs _ (fg_8 i hi j hj)) (fun i j hi hj hij => (fg_9 i hi j hj hij).elim (fun h => Or.inl (hs _ h)) (fun h => Or.inr (hs _ h))) hA
  refine ⟨S, K, V, fun i hi => hS i hi, hK, fun i hi => ⟨vk_R.of (hts _ (tl_x i hi)) (hE i hi), vk_R.of (hts _ (tl_m i hi)) (va_eqR (hs _ (fg_10 i hi)) (hE i hi))⟩, ⟨va_Nw.of rfl (hts _ (tL2 (List.mem_of_getElem? (i := 25) rfl))), va_Nw.of rfl (hts _ (tL2 (List.mem_of_getElem? (i := 47) rfl))), va_Nw.of rfl (hts _ (tL2 (List.mem_of_getElem? (i := 72) rfl)))⟩, ?_, ?_⟩
  · exact va_Zof (hts _ (tL3 (List.mem_of_getElem? (i := 99) rfl))) (hts _ (tL1 (List.mem_of_getElem? (i := 9) rfl))) (va_eqt (hs _ fg_11)) hA
  · rcases va_Zqof (A := Ag s.heap.size) (hts _ (tL3 (List.mem_of_getElem? (i := 115) rfl))) (hts _ (tL1 (List.mem_of_getElem? (i := 11) rfl))) (hs _ fg_12) hA with h | ⟨t, h⟩
    · exact ⟨.null, Or.inl rfl, h⟩
    · exact ⟨.ref t, Or.inr ⟨t, rfl⟩, h⟩
theorem law_cls {args : Array Value} {s : State} (hts : ∀ w ∈ lw_tbl, w.before args s = true) : ∃ (D : va_G) (dA : Nat → ClassId), va_K D vwCl (tysJ (D, dA, fun _ => 0, fun _ => 0, fun _ => 0, fun _ => 0)) s ∧ va_AO "PennyLedge$Shelf" s ∧ va_AO "PennyLedge$Sheet" s ∧ va_AO "java/lang/String" s := by
  have ha : ∀ w ∈ ALLW, w.before args s = true := fun w h => hts w (ALLW_lw w h)
  obtain ⟨c0, i0, k0⟩ := u_known (C := RX0) (T := TX0) (N := 3) (n := 3) ha inX0 (ha _ qa_X0)
  obtain ⟨c1, i1, k1⟩ := u_known (C := RX1) (T := TX1) (N := 10) (n := 10) ha inX1 (ha _ qa_X1)
  obtain ⟨c2, i2, k2⟩ := u_known (C := RX2) (T := TX2) (N := 6) (n := 6) ha inX2 (ha _ qa_X2)
  obtain ⟨c3, i3, k3⟩ := u_known (C := RX3) (T := TX3) (N := 8) (n := 8) ha inX3 (ha _ qa_X3)
  obtain ⟨c4, i4, k4⟩ := u_known (C := RX4) (T := TX4) (N := 27) (n := 27) ha inX4 (ha _ qa_X4)
  obtain ⟨b0, kb, cb, e1, e2, e3⟩ := Cond.arrayClass_spec (ha _ q_ac)
  have a1 : va_AO "PennyLedge$Shelf" s := va_AO.of (hts _ (tL1 (List.mem_of_getElem? (i := 69) rfl)))
  have a2 : va_AO "PennyLedge$Sheet" s := va_AO.of (hts _ (tL1 (List.mem_of_getElem? (i := 100) rfl)))
  have a3 : va_AO "java/lang/String" s := va_AO.of (hts _ (tL4 (List.mem_of_getElem? (i := 2) rfl)))
  have arr : ∀ C : String, va_AO C s → ∃ c : ClassId, ArrOfT s c (.object C) ∧ va_RA s c (.object C) := by
    intro C h
    obtain ⟨comp, c, k, h1, -, h3, h4, h5⟩ := Cond.arrayOver_spec h
    exact ⟨c, fun N z => ⟨(fun k h => by cases h), k, h3, comp, h4⟩, k, comp, h3, h4, h1, h5⟩
  obtain ⟨b1, f1⟩ := arr _ a1
  obtain ⟨b2, f2⟩ := arr _ a2
  obtain ⟨b3, f3⟩ := arr _ a3
  refine ⟨(fun k => if k = 0 then c0 else if k = 1 then c1 else if k = 2 then c2 else if k = 3 then c3 else c4, fun k => if k = 0 then i0 else if k = 1 then i1 else if k = 2 then i2 else if k = 3 then i3 else i4), (fun k => if k = 0 then b0 else if k = 1 then b1 else if k = 2 then b2 else b3), ⟨?_, ?_⟩, a1, a2, a3⟩
  · intro k q hq
    match k, hq with
    | 0, hq => cases hq; exact k0
    | 1, hq => cases hq; exact k1
    | 2, hq => cases hq; exact k2
    | 3, hq => cases hq; exact k3
    | 4, hq => cases hq; exact k4
    | k + 5, hq => simp [vwCl] at hq
  · intro k q hq
    match k, hq with
    | 0, hq => cases hq; exact ⟨fun N z => ⟨(fun k h => by cases h), kb, e2, cb, e3⟩, e1⟩
    | 1, hq => cases hq; exact f1
    | 2, hq => cases hq; exact f2
    | 3, hq => cases hq; exact f3
    | k + 4, hq => simp [tysJ] at hq
