/-! CONSTRUCTORS: worlds that grow -/
theorem q_ac : Cond.arrayClass .int ∈ ALLW := inT1 (List.mem_of_getElem? (i := 68) rfl) rfl
def Wk (p : Program) (l : Launch) (e : Env) (R : Room) (s : State) (m : MethodId) (args : Array Value) (below : List Frame) (meth : Method) (c : Code) (Q : State → Prop) (nL : Nat) (D : va_G) (A : Nat → Prop) (ws : va_W) (ce sl : Nat) (pc : Nat) (lv : List (Nat × Value)) (st : List Value) : Prop :=
  ∀ (H : Heap) (locs : List Loc) (ls : Array Slot), va_P D vwCl ws H → va_D A ws → va_S A s.heap H locs → lv_has ls nL lv → W p l e R s m args below meth c H locs ce sl Q (F0 m pc ls st)
abbrev Ck (p : Program) (m : MethodId) (c : Code) (cc : ByteArray) (nL : Nat) (s : State) (args : Array Value) (own : String) (g : GG) (A : Nat → Prop) : Prop := CallFix p m c cc nL s args ALLW own ∧ va_K g.1 vwCl (tysJ g) s ∧ ∀ q : Nat, s.heap.size ≤ q → A q
def PcK (g : GG) (h0 : Nat) (e0 : va_E) (sz : Nat) (E : State → Prop) : Array Value → State → Prop := va_Pc [.ref h0] (fun U => U.heap.size = sz ∧ va_P g.1 vwCl [(h0, e0)] U.heap ∧ va_K g.1 vwCl (tysJ g) U ∧ E U)
abbrev QvK (g : GG) (h0 : Nat) (e0 : va_E) (sz : Nat) (K : va_W → Prop) : Array Value → State → Outcome → State → Prop := va_Qv (fun _ : Unit => True) (fun _ t => ∃ w1 : va_W, K w1 ∧ va_P g.1 vwCl w1 t.heap ∧ va_D (va_A [(h0, e0)] sz) w1) (va_A [(h0, e0)] sz)
theorem k_last {w : va_W} {x : Nat × va_E} : (w ++ [x])[w.length]? = some x := by
  rw [List.getElem?_append_right (Nat.le_refl _), Nat.sub_self]
  rfl
theorem k_one {a : Nat × va_E} {k : Nat} {q : Nat × va_E} (h : [a][k]? = some q) : k = 0 ∧ q = a := by
  cases k with
  | zero => cases h; exact ⟨rfl, rfl⟩
  | succ k => simp at h
theorem k_join {D : va_G} {A : Nat → Prop} {w w1 : va_W} {q : Nat} {e0 : va_E} {H H1 : Heap} (hP : va_P D vwCl (w ++ [(q, e0)]) H) (hD : va_D A (w ++ [(q, e0)])) (hF : ∀ z, va_A [(q, e0)] H.size z → A z) (hk : ∀ z : Nat, z < H.size → ¬ va_A [(q, e0)] H.size z → H1[z]? = H[z]?) (hP1 : va_P D vwCl w1 H1) (hD1 : va_D (va_A [(q, e0)] H.size) w1) : va_P D vwCl (w ++ w1) H1 ∧ va_D A (w ++ w1) := by
  have old : ∀ (k : Nat) (r : Nat × va_E), w[k]? = some r → k < w.length ∧ (w ++ [(q, e0)])[k]? = some r ∧ r.1 < H.size ∧ ¬ va_A [(q, e0)] H.size r.1 := by
    intro k r hr
    have hk1 : k < w.length := (List.getElem?_eq_some_iff.mp hr).1
    have h1 : (w ++ [(q, e0)])[k]? = some r := by rw [List.getElem?_append_left hk1]; exact hr
    have h2 := (hP k r h1).lt
    refine ⟨hk1, h1, h2, fun z => ?_⟩
    rcases z with ⟨k2, e2, z⟩ | z
    · obtain ⟨rfl, z2⟩ := k_one z
      have h3 := hD.1 k w.length r (q, e0) h1 k_last (by have z3 := congrArg Prod.fst z2; exact z3)
      omega
    · omega
  constructor
  · intro k r hr
    by_cases hk1 : k < w.length
    · rw [List.getElem?_append_left hk1] at hr
      obtain ⟨-, h1, h2, h3⟩ := old k r hr
      exact (hP k r h1).kept (hk r.1 h2 h3)
    · rw [List.getElem?_append_right (Nat.not_lt.mp hk1)] at hr
      exact hP1 _ r hr
  · constructor
    · intro i j x y hx hy hxy
      by_cases hi : i < w.length
      · rw [List.getElem?_append_left hi] at hx
        obtain ⟨-, h1, h2, h3⟩ := old i x hx
        by_cases hj : j < w.length
        · rw [List.getElem?_append_left hj] at hy
          obtain ⟨-, g1, -⟩ := old j y hy
          exact hD.1 i j x y h1 g1 hxy
        · rw [List.getElem?_append_right (Nat.not_lt.mp hj)] at hy
          exact absurd (by rw [hxy]; exact hD1.2 _ y hy) h3
      · rw [List.getElem?_append_right (Nat.not_lt.mp hi)] at hx
        by_cases hj : j < w.length
        · rw [List.getElem?_append_left hj] at hy
          obtain ⟨-, h1, h2, h3⟩ := old j y hy
          exact absurd (by rw [← hxy]; exact hD1.2 _ x hx) h3
        · rw [List.getElem?_append_right (Nat.not_lt.mp hj)] at hy
          have h := hD1.1 _ _ x y hx hy hxy
          omega
    · intro k r hr
      by_cases hk1 : k < w.length
      · rw [List.getElem?_append_left hk1] at hr
        obtain ⟨-, h1, -⟩ := old k r hr
        exact hD.2 k r h1
      · rw [List.getElem?_append_right (Nat.not_lt.mp hk1)] at hr
        exact hF r.1 (hD1.2 _ r hr)
theorem k_freeL {A : Nat → Prop} {w : va_W} {q : Nat} {e0 : va_E} {H0 H : Heap} {locs : List Loc} (hD : va_D A (w ++ [(q, e0)])) (hS : va_S A H0 H locs) (hA : ∀ z : Nat, H0.size ≤ z → A z) : ∀ z, va_A [(q, e0)] H.size z → A z := by
  intro z h
  rcases h with ⟨k2, e2, h⟩ | h
  · obtain ⟨rfl, h2⟩ := k_one h
    have h3 := hD.2 w.length (q, e0) k_last
    rw [show z = q from congrArg Prod.fst h2]
    exact h3
  · exact hA z (Nat.le_trans hS.1 h)
theorem k_lastP {D : va_G} {w : va_W} {x : Nat × va_E} {H : Heap} (hP : va_P D vwCl (w ++ [x]) H) : va_P D vwCl [x] H := by
  intro k r hr
  obtain ⟨rfl, rfl⟩ := k_one hr
  exact hP w.length _ k_last
theorem k_D1 {h0 : Nat} {e0 : va_E} {sz : Nat} : va_D (va_A [(h0, e0)] sz) [(h0, e0)] := by
  refine ⟨fun i j x y hx hy _ => ?_, fun k r hr => va_A.in hr⟩
  rw [(k_one hx).1, (k_one hy).1]
theorem arrV_c {cA : ClassId} {n : Nat} {f f2 : Nat → Value} (h : ∀ j, j < n → f j = f2 j) : arrV cA n f = arrV cA n f2 := by
  unfold arrV
  congr 1
  congr 1
  funext j
  exact h j.val j.isLt
section KR
variable {p : Program} {l : Launch} {e : Env} {R : Room} {s : State} {m : MethodId} {args : Array Value} {below : List Frame} {meth : Method} {c : Code} {Q : State → Prop} {cc : ByteArray} {nL : Nat} {own : String} {g : GG} {A : Nat → Prop} {ws : va_W} {ce sl : Nat} {pc : Nat} {lv : List (Nat × Value)} {st : List Value}
theorem k_iconst (C : Ck p m c cc nL s args own g A) {k : Int} {v : Int32} (hd : decode cc pc = .ok (.iconst k, 1)) (hv : Int32.ofInt k = v) (n : Nat) (hn : pc + 1 = n) (kk : Wk p l e R s m args below meth c Q nL g.1 A ws ce sl n lv (.int v :: st)) : Wk p l e R s m args below meth c Q nL g.1 A ws ce sl pc lv (st) := fun H locs ls hP hD hS hl => by
  subst hn
  exact lv_iconst C.1.1 C.1.2.1 hd hv (kk H locs ls hP hD hS hl)
theorem k_bipush (C : Ck p m c cc nL s args own g A) {k : Int} {v : Int32} (hd : decode cc pc = .ok (.bipush k, 2)) (hv : (Int8.ofInt k).toInt32 = v) (n : Nat) (hn : pc + 2 = n) (kk : Wk p l e R s m args below meth c Q nL g.1 A ws ce sl n lv (.int v :: st)) : Wk p l e R s m args below meth c Q nL g.1 A ws ce sl pc lv (st) := fun H locs ls hP hD hS hl => by
  subst hn
  exact lv_bipush C.1.1 C.1.2.1 hd hv (kk H locs ls hP hD hS hl)
theorem k_sipush (C : Ck p m c cc nL s args own g A) {k : Int} {v : Int32} (hd : decode cc pc = .ok (.sipush k, 3)) (hv : (Int16.ofInt k).toInt32 = v) (n : Nat) (hn : pc + 3 = n) (kk : Wk p l e R s m args below meth c Q nL g.1 A ws ce sl n lv (.int v :: st)) : Wk p l e R s m args below meth c Q nL g.1 A ws ce sl pc lv (st) := fun H locs ls hP hD hS hl => by
  subst hn
  exact lv_sipush C.1.1 C.1.2.1 hd hv (kk H locs ls hP hD hS hl)
theorem k_iload_n (C : Ck p m c cc nL s args own g A) {k : Fin 4} {i : Nat} {v : Int32} (hd : decode cc pc = .ok (.iload_n k, 1)) (hi : (k : Nat) = i) (q : Nat) (hq : lv[q]? = some (i, .int v)) (n : Nat) (hn : pc + 1 = n) (kk : Wk p l e R s m args below meth c Q nL g.1 A ws ce sl n lv (.int v :: st)) : Wk p l e R s m args below meth c Q nL g.1 A ws ce sl pc lv (st) := fun H locs ls hP hD hS hl => by
  subst hn
  exact lv_iload_n C.1.1 C.1.2.1 hd hi (lv_at hl q hq) (kk H locs ls hP hD hS hl)
theorem k_aload_n (C : Ck p m c cc nL s args own g A) {k : Fin 4} {i : Nat} {a : Nat} (hd : decode cc pc = .ok (.aload_n k, 1)) (hi : (k : Nat) = i) (q : Nat) (hq : lv[q]? = some (i, .ref a)) (n : Nat) (hn : pc + 1 = n) (kk : Wk p l e R s m args below meth c Q nL g.1 A ws ce sl n lv (.ref a :: st)) : Wk p l e R s m args below meth c Q nL g.1 A ws ce sl pc lv (st) := fun H locs ls hP hD hS hl => by
  subst hn
  exact lv_aload_n C.1.1 C.1.2.1 hd hi (lv_at hl q hq) (kk H locs ls hP hD hS hl)
theorem k_istore_n (C : Ck p m c cc nL s args own g A) {k : Fin 4} {i : Nat} {v : Int32} {lv2 : List (Nat × Value)} (hd : decode cc pc = .ok (.istore_n k, 1)) (hi : (k : Nat) = i) (hb : i < nL) (hl2 : (i, Value.int v) :: lv.filter (fun q => !(q.1 == i) && !(q.1 + 1 == i && q.2.category == 2)) = lv2) (n : Nat) (hn : pc + 1 = n) (kk : Wk p l e R s m args below meth c Q nL g.1 A ws ce sl n lv2 st) : Wk p l e R s m args below meth c Q nL g.1 A ws ce sl pc lv (.int v :: st) := fun H locs ls hP hD hS hl => by
  subst hn
  exact lv_istore_n C.1.1 C.1.2.1 hd hi hl hb hl2 (fun ls2 hl3 => kk H locs ls2 hP hD hS hl3)
theorem k_astore_n (C : Ck p m c cc nL s args own g A) {k : Fin 4} {i : Nat} {v : Nat} {lv2 : List (Nat × Value)} (hd : decode cc pc = .ok (.astore_n k, 1)) (hi : (k : Nat) = i) (hb : i < nL) (hl2 : (i, Value.ref v) :: lv.filter (fun q => !(q.1 == i) && !(q.1 + 1 == i && q.2.category == 2)) = lv2) (n : Nat) (hn : pc + 1 = n) (kk : Wk p l e R s m args below meth c Q nL g.1 A ws ce sl n lv2 st) : Wk p l e R s m args below meth c Q nL g.1 A ws ce sl pc lv (.ref v :: st) := fun H locs ls hP hD hS hl => by
  subst hn
  exact lv_astore_n C.1.1 C.1.2.1 hd hi hl hb hl2 (fun ls2 hl3 => kk H locs ls2 hP hD hS hl3)
theorem k_iinc (C : Ck p m c cc nL s args own g A) {i k : Nat} {d : Int} {u v : Int32} {lv2 : List (Nat × Value)} (hd : decode cc pc = .ok (.iinc i d, 3)) (hk : lv[k]? = some (i, .int u)) (hv : u + Int32.ofInt d = v) (hb : i < nL) (hl2 : (i, Value.int v) :: lv.filter (fun q => !(q.1 == i) && !(q.1 + 1 == i && q.2.category == 2)) = lv2) (n : Nat) (hn : pc + 3 = n) (kk : Wk p l e R s m args below meth c Q nL g.1 A ws ce sl n lv2 st) : Wk p l e R s m args below meth c Q nL g.1 A ws ce sl pc lv st := fun H locs ls hP hD hS hl => by
  subst hn
  exact lv_iinc C.1.1 C.1.2.1 hd hl hk hv hb hl2 (fun ls2 hl3 => kk H locs ls2 hP hD hS hl3)
theorem k_iadd (C : Ck p m c cc nL s args own g A) {a b : Int32} (hd : decode cc pc = .ok (.iadd, 1)) (n : Nat) (hn : pc + 1 = n) (kk : Wk p l e R s m args below meth c Q nL g.1 A ws ce sl n lv (.int (a + b) :: st)) : Wk p l e R s m args below meth c Q nL g.1 A ws ce sl pc lv (.int b :: .int a :: st) := fun H locs ls hP hD hS hl => by
  subst hn
  exact lv_iadd C.1.1 C.1.2.1 hd (kk H locs ls hP hD hS hl)
theorem k_dup (C : Ck p m c cc nL s args own g A) {v : Value} (hd : decode cc pc = .ok (.dup, 1)) (hv : v.category = 1) (n : Nat) (hn : pc + 1 = n) (kk : Wk p l e R s m args below meth c Q nL g.1 A ws ce sl n lv (v :: v :: st)) : Wk p l e R s m args below meth c Q nL g.1 A ws ce sl pc lv (v :: st) := fun H locs ls hP hD hS hl => by
  subst hn
  exact lv_dup C.1.1 C.1.2.1 hd hv (kk H locs ls hP hD hS hl)
theorem k_icmp_ge (C : Ck p m c cc nL s args own g A) {a b : Int32} {off : Int} (hd : decode cc pc = .ok (.if_icmp .ge off, 3)) (tgt : Nat) (ht : (pc : Int) + off = (tgt : Int)) (n : Nat) (hn : pc + 3 = n) (kt : b ≤ a → Wk p l e R s m args below meth c Q nL g.1 A ws ce sl tgt lv st) (kf : ¬ b ≤ a → Wk p l e R s m args below meth c Q nL g.1 A ws ce sl n lv st) : Wk p l e R s m args below meth c Q nL g.1 A ws ce sl pc lv (.int b :: .int a :: st) := fun H locs ls hP hD hS hl => by
  subst hn
  exact lv_icmp_ge C.1.1 C.1.2.1 hd ht (fun q => kt q H locs ls hP hD hS hl) (fun q => kf q H locs ls hP hD hS hl)
theorem k_icmp_gt (C : Ck p m c cc nL s args own g A) {a b : Int32} {off : Int} (hd : decode cc pc = .ok (.if_icmp .gt off, 3)) (tgt : Nat) (ht : (pc : Int) + off = (tgt : Int)) (n : Nat) (hn : pc + 3 = n) (kt : b < a → Wk p l e R s m args below meth c Q nL g.1 A ws ce sl tgt lv st) (kf : ¬ b < a → Wk p l e R s m args below meth c Q nL g.1 A ws ce sl n lv st) : Wk p l e R s m args below meth c Q nL g.1 A ws ce sl pc lv (.int b :: .int a :: st) := fun H locs ls hP hD hS hl => by
  subst hn
  exact lv_icmp_gt C.1.1 C.1.2.1 hd ht (fun q => kt q H locs ls hP hD hS hl) (fun q => kf q H locs ls hP hD hS hl)
theorem k_goto (C : Ck p m c cc nL s args own g A) {off : Int} (hd : decode cc pc = .ok (.goto off, 3)) (tgt : Nat) (ht : (pc : Int) + off = (tgt : Int)) (kk : Wk p l e R s m args below meth c Q nL g.1 A ws ce sl tgt lv st) : Wk p l e R s m args below meth c Q nL g.1 A ws ce sl pc lv st := fun H locs ls hP hD hS hl => lv_goto C.1.1 C.1.2.1 hd ht (kk H locs ls hP hD hS hl)
theorem k_objInit (C : Ck p m c cc nL s args own g A) {idx : Nat} (hlink : Cond.methodLink own idx objectInit ∈ ALLW) {a : Nat} (hd : decode cc pc = .ok (.invokespecial idx, 3)) (h1 : 1 ≤ R.frames) (h2 : (st.map fun v => v.category).sum + 12 ≤ R.locals) (n : Nat) (hn : pc + 3 = n) (kk : Wk p l e R s m args below meth c Q nL g.1 A ws ce sl n lv st) : Wk p l e R s m args below meth c Q nL g.1 A ws ce sl pc lv (.ref a :: st) := fun H locs ls hP hD hS hl => by
  subst hn
  refine W.objInit C.1.1 C.1.2.1 C.1.2.2.2.1 (C.1.2.2.2.2 _ hlink) (C.1.2.2.2.2 _ qi_objectInit) (C.1.2.2.2.2 _ qc_objectInit) rfl (by rw [C.1.2.2.1]; exact hl.1) rfl hd h1 (by show 2 * 0 + _ + 12 ≤ _; omega) ?_
  exact kk H locs ls hP hD hS hl
theorem k_cA0 (C : Ck p m c cc nL s args own g A) {cA : ClassId} (hK : va_K g.1 vwCl (tysJ g ++ [(cA, .int)]) s) : cA = g.2.1 0 :=
  Option.some.inj ((hK.2 4 (cA, .int) rfl).2.symm.trans (C.2.1.2 0 (g.2.1 0, .int) rfl).2)
theorem k_newa (C : Ck p m c cc nL s args own g A) {i : Int32} (N2 : Nat) {ce2 sl2 : Nat} (hd : decode cc pc = .ok (.newarray .int, 2)) (hi : ¬ i < 0) (hN : i.toNatClampNeg = N2) (hby : N2 * 4 ≤ 536870912) (h1 : ce + 1 = ce2) (h2 : sl + N2 = sl2) (h3 : ce2 ≤ R.cells) (h4 : sl2 ≤ R.slots) (n : Nat) (hn : pc + 2 = n) (kk : ∀ q : Nat, Wk p l e R s m args below meth c Q nL g.1 A (ws ++ [(q, .inl (g.2.1 0, N2, .inl (fun _ => 0)))]) ce2 sl2 n lv (.ref q :: st)) : Wk p l e R s m args below meth c Q nL g.1 A ws ce sl pc lv (.int i :: st) := fun H locs ls hP hD hS hl => by
  subst hn h1 h2
  refine va_newa (atype := .int) (a0 := (N2, .inl (fun _ => 0))) C.1.1 C.1.2.1 (C.1.2.2.2.2 _ q_ac) rfl C.2.1 hP hD hS C.2.2 (fun _ => rfl) hi hN hby h3 h4 hd (fun q cA H1 hK1 hP1 hD1 hS1 => ?_)
  have hc := k_cA0 C hK1
  rw [hc] at hP1 hD1
  exact kk q H1 locs ls hP1 hD1 hS1 hl
theorem k_newq (C : Ck p m c cc nL s args own g A) {C0 : String} {i : Int32} (t0 : Nat) (ht0 : (tysJ g)[t0]? = some (g.2.1 t0, .object C0)) (N2 : Nat) {idx : Nat} {ce2 sl2 : Nat} (hAO : va_AO C0 s) (hcl : Cond.classLink own idx C0 ∈ ALLW) (hd : decode cc pc = .ok (.anewarray idx, 3)) (hi : ¬ i < 0) (hN : i.toNatClampNeg = N2) (hby : N2 * 4 ≤ 536870912) (h1 : ce + 1 = ce2) (h2 : sl + N2 = sl2) (h3 : ce2 ≤ R.cells) (h4 : sl2 ≤ R.slots) (n : Nat) (hn : pc + 3 = n) (kk : ∀ q : Nat, Wk p l e R s m args below meth c Q nL g.1 A (ws ++ [(q, .inl (g.2.1 t0, N2, .inr (.inr (.inr (.inr (fun _ => none))))))]) ce2 sl2 n lv (.ref q :: st)) : Wk p l e R s m args below meth c Q nL g.1 A ws ce sl pc lv (.int i :: st) := fun H locs ls hP hD hS hl => by
  subst hn h1 h2
  refine va_newq C.1.1 C.1.2.1 C.1.2.2.2.1 (C.1.2.2.2.2 _ hcl) hAO C.2.1 hP hD hS C.2.2 hi hN hby h3 h4 hd (fun q cA H1 hK1 hP1 hD1 hS1 => ?_)
  have hc : cA = g.2.1 t0 := by
    obtain ⟨k1, c1, -, -, -, e1⟩ := (hK1.2 4 (cA, .object C0) rfl).2
    obtain ⟨k2, c2, -, -, -, e2⟩ := (C.2.1.2 t0 _ ht0).2
    exact Option.some.inj (e1.symm.trans e2)
  rw [hc] at hP1 hD1
  exact kk q H1 locs ls hP1 hD1 hS1 hl
theorem k_new (C : Ck p m c cc nL s args own g A) {C0 : String} {T : u_T} {N ci idx : Nat} {fs : List Value} {ce2 sl2 : Nat} (hin : ∀ w ∈ u_ws C0 T N, w ∈ ALLW) (ty : Nat → FieldType) (hty : ∀ k, k < N → parseFieldDescriptor (T k).2.2.1 = some (ty k)) (hcl : Cond.classLink own idx C0 ∈ ALLW) (hinst : Cond.instantiable C0 N ∈ ALLW) (hini : Cond.initialized C0 ∈ ALLW) (hc : vwCl[ci]? = some (C0, T, N)) (hfs : ∀ j, j < N → defaultValue (ty j) = vp_V fs j) (hd : decode cc pc = .ok (.new idx, 3)) (h1 : ce + 1 = ce2) (h2 : sl + N = sl2) (h3 : ce2 ≤ R.cells) (h4 : sl2 ≤ R.slots) (n : Nat) (hn : pc + 3 = n) (kk : ∀ q : Nat, Wk p l e R s m args below meth c Q nL g.1 A (ws ++ [(q, .inr (ci, fs))]) ce2 sl2 n lv (.ref q :: st)) : Wk p l e R s m args below meth c Q nL g.1 A ws ce sl pc lv st := fun H locs ls hP hD hS hl => by
  subst hn h1 h2
  exact va_new C.1.1 C.1.2.1 C.1.2.2.2.2 hin ty hty C.1.2.2.2.1 (C.1.2.2.2.2 _ hcl) (C.1.2.2.2.2 _ hinst) (C.1.2.2.2.2 _ hini) C.2.1 hP hD hS C.2.2 hc hfs h3 h4 hd (fun q H1 hP1 hD1 hS1 => kk q H1 locs ls hP1 hD1 hS1 hl)
theorem k_get (C : Ck p m c cc nL s args own g A) (q0 : Nat) {a ci : Nat} {fs : List Value} (he : ws[q0]? = some (a, .inr (ci, fs))) {C0 : String} {T : u_T} {N : Nat} (hc : vwCl[ci]? = some (C0, T, N)) (hin : ∀ w ∈ u_ws C0 T N, w ∈ ALLW) (j : Nat) (hj : j < N) {idx : Nat} (hlink : Cond.fieldLink own idx (T j).1 (T j).2.1 (T j).2.2.1 ∈ ALLW) {v : Value} (hv : fs[j]? = some v) (hd : decode cc pc = .ok (.getfield idx, 3)) (n : Nat) (hn : pc + 3 = n) (kk : Wk p l e R s m args below meth c Q nL g.1 A ws ce sl n lv (v :: st)) : Wk p l e R s m args below meth c Q nL g.1 A ws ce sl pc lv (.ref a :: st) := fun H locs ls hP hD hS hl => by
  subst hn
  exact va_get C.1.1 C.1.2.1 C.1.2.2.2.2 hin C.1.2.2.2.1 C.2.1 hP q0 he hc j hj (C.1.2.2.2.2 _ hlink) (fun _ h9 => h9) hv hd (kk H locs ls hP hD hS hl)
theorem k_put (C : Ck p m c cc nL s args own g A) (q0 : Nat) {a ci : Nat} {fs : List Value} (he : ws[q0]? = some (a, .inr (ci, fs))) {C0 : String} {T : u_T} {N : Nat} (hc : vwCl[ci]? = some (C0, T, N)) (hin : ∀ w ∈ u_ws C0 T N, w ∈ ALLW) (ty0 : Nat → FieldType) (hty : ∀ k, k < N → parseFieldDescriptor (T k).2.2.1 = some (ty0 k)) (hnm : ∀ a, a < N → ∀ b, b < N → a ≠ b → (T a).2.1 ≠ (T b).2.1) (j : Nat) (hj : j < N) {idx : Nat} (hlink : Cond.fieldLink own idx (T j).1 (T j).2.1 (T j).2.2.1 ∈ ALLW) (hfin : (T j).2.2.2 = false) {ty : FieldType} {v : Value} (htj : ty0 j = ty) (hnv : narrow ty v = v) (hfit : fits ty v = true) (hlen : j < fs.length) {w2 : va_W} (hw : ws.set q0 (a, .inr (ci, fs.set j v)) = w2) (hd : decode cc pc = .ok (.putfield idx, 3)) (n : Nat) (hn : pc + 3 = n) (kk : Wk p l e R s m args below meth c Q nL g.1 A w2 ce sl n lv st) : Wk p l e R s m args below meth c Q nL g.1 A ws ce sl pc lv (v :: .ref a :: st) := fun H locs ls hP hD hS hl => by
  subst hn hw
  exact va_put C.1.1 C.1.2.1 C.1.2.2.2.2 hin ty0 hty hnm C.1.2.2.2.1 C.2.1 hP hD hS q0 he hc j hj (C.1.2.2.2.2 _ hlink) (fun _ h9 => h9) hfin (by rw [hty j hj, htj]) hnv hfit hlen hd (fun H1 locs1 hP1 hD1 hS1 => kk H1 locs1 ls hP1 hD1 hS1 hl)
theorem k_putF (C : Ck p m c cc nL s args own g A) (hin2 : meth.name = "<init>") (q0 : Nat) {a ci : Nat} {fs : List Value} (he : ws[q0]? = some (a, .inr (ci, fs))) {C0 : String} {T : u_T} {N : Nat} (hc : vwCl[ci]? = some (C0, T, N)) (hin : ∀ w ∈ u_ws C0 T N, w ∈ ALLW) (ty0 : Nat → FieldType) (hty : ∀ k, k < N → parseFieldDescriptor (T k).2.2.1 = some (ty0 k)) (hnm : ∀ a, a < N → ∀ b, b < N → a ≠ b → (T a).2.1 ≠ (T b).2.1) (j : Nat) (hj : j < N) {idx : Nat} (hlink : Cond.fieldLink own idx (T j).1 (T j).2.1 (T j).2.2.1 ∈ ALLW) (hfin : (T j).2.2.2 = true) (hdc : (T j).1 = own) {ty : FieldType} {v : Value} (htj : ty0 j = ty) (hnv : narrow ty v = v) (hfit : fits ty v = true) (hlen : j < fs.length) {w2 : va_W} (hw : ws.set q0 (a, .inr (ci, fs.set j v)) = w2) (hd : decode cc pc = .ok (.putfield idx, 3)) (n : Nat) (hn : pc + 3 = n) (kk : Wk p l e R s m args below meth c Q nL g.1 A w2 ce sl n lv st) : Wk p l e R s m args below meth c Q nL g.1 A ws ce sl pc lv (v :: .ref a :: st) := fun H locs ls hP hD hS hl => by
  subst hn hw
  exact va_putF C.1.1 C.1.2.1 C.1.2.2.2.2 hin ty0 hty hnm C.1.2.2.2.1 C.2.1 hP hD hS q0 he hc j hj (C.1.2.2.2.2 _ hlink) (fun _ h9 => h9) hfin hin2 hdc (by rw [hty j hj, htj]) hnv hfit hlen hd (fun H1 locs1 hP1 hD1 hS1 => kk H1 locs1 ls hP1 hD1 hS1 hl)
theorem k_iast (C : Ck p m c cc nL s args own g A) (q0 : Nat) {a n0 : Nat} {f : Nat → Int32} (he : ws[q0]? = some (a, .inl (g.2.1 0, n0, .inl f))) {i v : Int32} (hin : vp_in i n0) {w2 : va_W} (hw : ws.set q0 (a, .inl (g.2.1 0, n0, .inl (upd f i.toNatClampNeg v))) = w2) (hd : decode cc pc = .ok (.iastore, 1)) (n : Nat) (hn : pc + 1 = n) (kk : Wk p l e R s m args below meth c Q nL g.1 A w2 ce sl n lv st) : Wk p l e R s m args below meth c Q nL g.1 A ws ce sl pc lv (.int v :: .int i :: .ref a :: st) := fun H locs ls hP hD hS hl => by
  subst hn hw
  exact va_iast C.1.1 C.1.2.1 C.2.1 hP hD hS q0 0 he rfl hin hd (fun H1 locs1 hP1 hD1 hS1 => kk H1 locs1 ls hP1 hD1 hS1 hl)
theorem k_astq (C : Ck p m c cc nL s args own g A) (q0 t0 qk : Nat) {ci : Nat} {r : vw_C} {a n0 v : Nat} {vs : List Value} {f : Nat → Option Nat} (he : ws[q0]? = some (a, .inl (g.2.1 t0, n0, .inr (.inr (.inr (.inr f)))))) (ht : (tysJ g)[t0]? = some (g.2.1 t0, .object r.1)) (hv : ws[qk]? = some (v, .inr (ci, vs))) (hc : vwCl[ci]? = some r) {i : Int32} (hin : vp_in i n0) {w2 : va_W} (hw : ws.set q0 (a, .inl (g.2.1 t0, n0, .inr (.inr (.inr (.inr (va_up f i.toNatClampNeg (some v))))))) = w2) (hd : decode cc pc = .ok (.aastore, 1)) (n : Nat) (hn : pc + 1 = n) (kk : Wk p l e R s m args below meth c Q nL g.1 A w2 ce sl n lv st) : Wk p l e R s m args below meth c Q nL g.1 A ws ce sl pc lv (.ref v :: .int i :: .ref a :: st) := fun H locs ls hP hD hS hl => by
  subst hn hw
  exact va_astq C.1.1 C.1.2.1 C.2.1 hP hD hS q0 t0 qk ci he ht hv hc hin hd (fun H1 locs1 hP1 hD1 hS1 => kk H1 locs1 ls hP1 hD1 hS1 hl)
theorem k_astS (C : Ck p m c cc nL s args own g A) (q0 : Nat) {a n0 v : Nat} {f : Nat → Option Nat} (he : ws[q0]? = some (a, .inl (g.2.1 3, n0, .inr (.inr (.inr (.inr f)))))) (hv : va_O "java/lang/String" v A s s.heap) {i : Int32} (hin : vp_in i n0) {w2 : va_W} (hw : ws.set q0 (a, .inl (g.2.1 3, n0, .inr (.inr (.inr (.inr (va_up f i.toNatClampNeg (some v))))))) = w2) (hd : decode cc pc = .ok (.aastore, 1)) (n : Nat) (hn : pc + 1 = n) (kk : Wk p l e R s m args below meth c Q nL g.1 A w2 ce sl n lv st) : Wk p l e R s m args below meth c Q nL g.1 A ws ce sl pc lv (.ref v :: .int i :: .ref a :: st) := fun H locs ls hP hD hS hl => by
  subst hn hw
  obtain ⟨cell, h1, h2, h3, -⟩ := hv.kept hS.2.1
  obtain ⟨kC, hkC, -⟩ := Vm.findClass_spec h3
  have hany : va_Any "java/lang/String" s H v := ⟨cell, h1, h2, ⟨kC, hkC⟩, fun comp hc => by cases h3.symm.trans hc; exact va_asg _ _⟩
  exact va_astqM C.1.1 C.1.2.1 C.2.1 hP hD hS q0 3 he rfl hany hin hd (fun H1 locs1 hP1 hD1 hS1 => kk H1 locs1 ls hP1 hD1 hS1 hl)
theorem k_ldcS (C : Ck p m c cc nL s args own g A) {tx : String} {idx q : Nat} (hZ : vk_R own idx tx q s) (hd : decode cc pc = .ok (.ldc idx, 2)) (n : Nat) (hn : pc + 2 = n) (kk : Wk p l e R s m args below meth c Q nL g.1 A ws ce sl n lv (.ref q :: st)) : Wk p l e R s m args below meth c Q nL g.1 A ws ce sl pc lv st := fun H locs ls hP hD hS hl => by
  subst hn
  exact va_ldcS C.1.1 C.1.2.1 C.1.2.2.2.1 hZ hd (kk H locs ls hP hD hS hl)
theorem k_conv {w2 : va_W} (h1 : ∀ H, va_P g.1 vwCl ws H → va_P g.1 vwCl w2 H) (h2 : va_D A ws → va_D A w2) (kk : Wk p l e R s m args below meth c Q nL g.1 A w2 ce sl pc lv st) : Wk p l e R s m args below meth c Q nL g.1 A ws ce sl pc lv st := fun H locs ls hP hD hS hl => kk H locs ls (h1 H hP) (h2 hD) hS hl
theorem k_eq {w2 : va_W} (h1 : ws = w2) (kk : Wk p l e R s m args below meth c Q nL g.1 A w2 ce sl pc lv st) : Wk p l e R s m args below meth c Q nL g.1 A ws ce sl pc lv st := by
  rw [h1]
  exact kk
theorem k_vret (C : Ck p m c cc nL s args own g A) {h0 : Nat} {e0 : va_E} {sz : Nat} {K : va_W → Prop} (hA : A = va_A [(h0, e0)] sz) (hr : meth.sig.returnType = none) (hk : meth.locks = false) (hK : K ws) (hd : decode cc pc = .ok (.return_, 1)) : Wk p l e R s m args below meth c (MQ below (QvK g h0 e0 sz K) args s ce sl (va_A [(h0, e0)] sz)) nL g.1 A ws ce sl pc lv [] := fun H locs ls hP hD hS hl => by
  subst hA
  exact W.vret C.1.1 C.1.2.1 hr (fun t ht hWm => ⟨⟨(), rfl, trivial, ws, hK, by rw [ht]; exact hP, hD⟩, hS.F ht⟩) hS.2.2 hd hk
theorem k_call (C : Ck p m c cc nL s args own g A) {y : MethodName} {q : Nat} {e0 : va_E} {w : va_W} {idx maxY : Nat} {bytes : ByteArray} {rm : Room} {mc ms ce2 sl2 : Nat} {E : Nat → State → Prop} {K : va_W → Prop} (hM : ∀ sz : Nat, Met l y (.code y bytes maxY none :: ALLW) rm (PcK g q e0 sz (E sz)) (QvK g q e0 sz K) mc ms (va_A [(q, e0)] sz)) (hz : rm.cells = mc ∧ rm.slots = ms) (hcode : Cond.code y bytes maxY none ∈ ALLW) (hini : Cond.initialized y.cls ∈ ALLW) (hlink : Cond.methodLink own idx y ∈ ALLW) (hinst : Cond.instanceMethod y ∈ ALLW) (hyn : y.name = "<init>") (hdd : y.cls ≠ "java/lang/invoke/MethodHandle" ∧ y.cls ≠ "java/lang/invoke/VarHandle" ∧ (parseMethodDescriptor y.desc).map (fun d => d.parameters.length) = some 0) (hR : rm.frames + 1 ≤ R.frames ∧ 8 + (maxY + 11) + rm.locals ≤ R.locals)
    (hEb : ∀ (sz : Nat) (U : State) (fr : JFrame) (mk : MethodId) (av : Array Value), E sz U → E sz (U.calling fr mk av)) (hE : ∀ (H : Heap) (locs : List Loc) (U : State), va_S A s.heap H locs → U.heap = H → s.WarmedH U.vm → (∀ z, va_A [(q, e0)] H.size z → A z) → E H.size U)
    (hcat : (st.map fun v => v.category).sum ≤ 8) (hd : decode cc pc = .ok (.invokespecial idx, 3)) (h1 : ce + mc = ce2) (h2 : sl + ms = sl2) (h3 : ce2 ≤ R.cells) (h4 : sl2 ≤ R.slots) (n : Nat) (hn : pc + 3 = n) (kk : ∀ w1 : va_W, K w1 → Wk p l e R s m args below meth c Q nL g.1 A (w ++ w1) ce2 sl2 n lv st) : Wk p l e R s m args below meth c Q nL g.1 A (w ++ [(q, e0)]) ce sl pc lv (.ref q :: st) := fun H locs ls hP hD hS hl => by
  subst hn h1 h2
  have hF := k_freeL hD hS C.2.2
  refine va_callv (va_runI (As := []) (rest := st) C.1 (hM H.size) (cwI 0 C.1.2.2.2.2 (gLaw hcode) rfl hz.1 hz.2 (C.1.2.2.2.2 _ hini) (C.1.2.2.2.2 _ hlink) (C.1.2.2.2.2 _ hinst) hyn hdd hR) ⟨fun a U fr mk z => ⟨z.1, z.2.1, z.2.2.1, va_K.moved (u := U) (U := U.calling fr mk a) (Vm.Alike.refl U.vm) z.2.2.2.1, hEb _ U fr mk a z.2.2.2.2⟩, fun U hU hW => ⟨rfl, by rw [hU], by rw [hU]; exact k_lastP hP, va_K.moved hW.alike C.2.1, hE H locs U hS hU hW hF⟩⟩ rfl rfl hl.1 rfl (lv_room hcat) hd ⟨h3, h4⟩) hS (fun z _ h => hF z h) hF (fun u t H1 locs1 ht hvm hw hB hz1 hk1 hS1 => ?_)
  obtain ⟨w1, hK1, hP1, hD1⟩ := hB
  rw [ht] at hP1
  obtain ⟨hP2, hD2⟩ := k_join hP hD hF hk1 hP1 hD1
  exact kk w1 hK1 H1 locs1 ls hP2 hD2 hS1 hl
theorem k_met {y : MethodName} {maxL : Nat} {rm : Room} {mc ms : Nat} {h0 : Nat} {e0 : va_E} {sz : Nat} {E : State → Prop} {K : va_W → Prop} (hy : plainName y.cls = true) (ho : y.cls = own) (hyn : y.name = "<init>") (hml1 : 1 ≤ maxL)
    (body : ∀ (p : Program) (e : Env) (s : State) (m : MethodId) (args : Array Value) (below : List Frame) (meth : Method) (c : Code), s.heap.size = sz → E s → Ck p m c cc maxL s args own g (va_A [(h0, e0)] sz) → meth.sig.returnType = none → meth.locks = false → meth.name = "<init>" → Wk p l e rm s m args below meth c (MQ below (QvK g h0 e0 sz K) args s mc ms (va_A [(h0, e0)] sz)) maxL g.1 (va_A [(h0, e0)] sz) [(h0, e0)] 0 0 0 [(0, .ref h0)] []) :
    Met l y (.code y cc maxL none :: ALLW) rm (PcK g h0 e0 sz E) (QvK g h0 e0 sz K) mc ms (va_A [(h0, e0)] sz) := by
  refine Met.ofW (cc := cc) (maxL := maxL) (ret := none) hy rfl ?_
  intro p e s m args below meth c s₁ B hml hv
  obtain ⟨rfl, hsz, hP, hK, hE⟩ := hv
  have hts := atoms_spec (ws := Cond.code y cc maxL none :: ALLW) B.pre
  have hown : s.vm.findClass y.cls = some m.cls := findClass_of_methodNamed B.named
  have hin : meth.name = "<init>" := (name_of_methodNamed B.named B.method).1.trans hyn
  rw [lg_entry_eq]
  exact body p e s m _ below meth c hsz hE ⟨⟨B.exec, B.bytes, hml, ho ▸ hown, fun w hw => hts w (List.mem_cons_of_mem _ hw)⟩, hK, fun z hz => Or.inr (hsz ▸ hz)⟩ B.returns B.notSynchronized hin s.heap [] _ hP k_D1 va_S.rf (lv_entry [.ref h0] hml1)
end KR
