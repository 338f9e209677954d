/-! THE J ROWS: one instruction each, over Wj -/
def Wj (p : Program) (l : Launch) (e : Env) (R : Room) (s : State) (m : MethodId) (args : Array Value) (below : List Frame) (meth : Method) (c : Code) (Q : State → Prop) (nL : Nat) (g : GG) (sz : Nat) (x mm : St) (pc : Nat) (lv : List (Nat × Value)) (st : List Value) : Prop :=
  ∀ (H : Heap) (locs : List Loc) (ls : Array Slot), Wd g x mm H → va_S (Ag sz) s.heap H locs → lv_has ls nL lv → W p l e R s m args below meth c H locs 0 0 Q (F0 m pc ls st)
abbrev Cx (p : Program) (m : MethodId) (c : Code) (cc : ByteArray) (nL : Nat) (s : State) (args : Array Value) (own : String) (g : GG) (sz : Nat) : Prop := CallFix p m c cc nL s args ALLW own ∧ Bs g sz s s.heap
def shl32 (x y : Int32) : Int32 := x <<< (y &&& 31)
def shr32 (x y : Int32) : Int32 := x >>> (y &&& 31)
def ush32 (x y : Int32) : Int32 := (x.toUInt32 >>> (y.toUInt32 &&& Int32.toUInt32 31)).toInt32
section JR
variable {p : Program} {l : Launch} {e : Env} {R : Room} {s : State} {m : MethodId} {args : Array Value} {below : List Frame} {meth : Method} {c : Code} {Q : State → Prop} {cc : ByteArray} {nL : Nat} {own : String} {g : GG} {sz : Nat} {x mm x' m' : St} {pc : Nat} {lv : List (Nat × Value)} {st : List Value}
theorem j_iconst (C : Cx p m c cc nL s args own g sz) {k : Int} {v : Int32} (hd : decode cc pc = .ok (.iconst k, 1)) (hv : Int32.ofInt k = v) (n : Nat) (hn : pc + 1 = n) (kk : Wj p l e R s m args below meth c Q nL g sz x mm n lv (.int v :: st)) : Wj p l e R s m args below meth c Q nL g sz x mm pc lv (st) := fun H locs ls hW hS hl => by
  subst hn
  exact lv_iconst C.1.1 C.1.2.1 hd hv (kk H locs ls hW hS hl)
theorem j_bipush (C : Cx p m c cc nL s args own g sz) {k : Int} {v : Int32} (hd : decode cc pc = .ok (.bipush k, 2)) (hv : (Int8.ofInt k).toInt32 = v) (n : Nat) (hn : pc + 2 = n) (kk : Wj p l e R s m args below meth c Q nL g sz x mm n lv (.int v :: st)) : Wj p l e R s m args below meth c Q nL g sz x mm pc lv (st) := fun H locs ls hW hS hl => by
  subst hn
  exact lv_bipush C.1.1 C.1.2.1 hd hv (kk H locs ls hW hS hl)
theorem j_sipush (C : Cx p m c cc nL s args own g sz) {k : Int} {v : Int32} (hd : decode cc pc = .ok (.sipush k, 3)) (hv : (Int16.ofInt k).toInt32 = v) (n : Nat) (hn : pc + 3 = n) (kk : Wj p l e R s m args below meth c Q nL g sz x mm n lv (.int v :: st)) : Wj p l e R s m args below meth c Q nL g sz x mm pc lv (st) := fun H locs ls hW hS hl => by
  subst hn
  exact lv_sipush C.1.1 C.1.2.1 hd hv (kk H locs ls hW hS hl)
theorem j_ldc (C : Cx p m c cc nL s args own g sz) {k : Nat} {v : Int32} (hd : decode cc pc = .ok (.ldc k, 2)) (hv : Cond.constant own k v ∈ ALLW) (n : Nat) (hn : pc + 2 = n) (kk : Wj p l e R s m args below meth c Q nL g sz x mm n lv (.int v :: st)) : Wj p l e R s m args below meth c Q nL g sz x mm pc lv (st) := fun H locs ls hW hS hl => by
  subst hn
  exact lv_ldc C.1.1 C.1.2.1 C.1.2.2.2.1 (C.1.2.2.2.2 _ hv) hd (kk H locs ls hW hS hl)
theorem j_ldcw (C : Cx p m c cc nL s args own g sz) {k : Nat} {v : Int32} (hd : decode cc pc = .ok (.ldc_w k, 3)) (hv : Cond.constant own k v ∈ ALLW) (n : Nat) (hn : pc + 3 = n) (kk : Wj p l e R s m args below meth c Q nL g sz x mm n lv (.int v :: st)) : Wj p l e R s m args below meth c Q nL g sz x mm pc lv (st) := fun H locs ls hW hS hl => by
  subst hn
  exact lv_ldcw C.1.1 C.1.2.1 C.1.2.2.2.1 (C.1.2.2.2.2 _ hv) hd (kk H locs ls hW hS hl)
theorem j_lconst (C : Cx p m c cc nL s args own g sz) {k : Fin 2} {v : Int64} (hd : decode cc pc = .ok (.lconst k, 1)) (hv : Int64.ofNat (k : Nat) = v) (n : Nat) (hn : pc + 1 = n) (kk : Wj p l e R s m args below meth c Q nL g sz x mm n lv (.long v :: st)) : Wj p l e R s m args below meth c Q nL g sz x mm pc lv (st) := fun H locs ls hW hS hl => by
  subst hn
  exact lv_lconst C.1.1 C.1.2.1 hd hv (kk H locs ls hW hS hl)
theorem j_iload_n (C : Cx p m c cc nL s args own g sz) {k : Fin 4} {i : Nat} {v : Int32} (hd : decode cc pc = .ok (.iload_n k, 1)) (hi : (k : Nat) = i) (q : Nat) (hq : lv[q]? = some (i, .int v)) (n : Nat) (hn : pc + 1 = n) (kk : Wj p l e R s m args below meth c Q nL g sz x mm n lv (.int v :: st)) : Wj p l e R s m args below meth c Q nL g sz x mm pc lv (st) := fun H locs ls hW hS hl => by
  subst hn
  exact lv_iload_n C.1.1 C.1.2.1 hd hi (lv_at hl q hq) (kk H locs ls hW hS hl)
theorem j_iload (C : Cx p m c cc nL s args own g sz) {i : Nat} {v : Int32} (hd : decode cc pc = .ok (.iload i, 2)) (q : Nat) (hq : lv[q]? = some (i, .int v)) (n : Nat) (hn : pc + 2 = n) (kk : Wj p l e R s m args below meth c Q nL g sz x mm n lv (.int v :: st)) : Wj p l e R s m args below meth c Q nL g sz x mm pc lv (st) := fun H locs ls hW hS hl => by
  subst hn
  exact lv_iload C.1.1 C.1.2.1 hd (lv_at hl q hq) (kk H locs ls hW hS hl)
theorem j_lload_n (C : Cx p m c cc nL s args own g sz) {k : Fin 4} {i : Nat} {v : Int64} (hd : decode cc pc = .ok (.lload_n k, 1)) (hi : (k : Nat) = i) (q : Nat) (hq : lv[q]? = some (i, .long v)) (n : Nat) (hn : pc + 1 = n) (kk : Wj p l e R s m args below meth c Q nL g sz x mm n lv (.long v :: st)) : Wj p l e R s m args below meth c Q nL g sz x mm pc lv (st) := fun H locs ls hW hS hl => by
  subst hn
  exact lv_lload_n C.1.1 C.1.2.1 hd hi (lv_at hl q hq) (kk H locs ls hW hS hl)
theorem j_lload (C : Cx p m c cc nL s args own g sz) {i : Nat} {v : Int64} (hd : decode cc pc = .ok (.lload i, 2)) (q : Nat) (hq : lv[q]? = some (i, .long v)) (n : Nat) (hn : pc + 2 = n) (kk : Wj p l e R s m args below meth c Q nL g sz x mm n lv (.long v :: st)) : Wj p l e R s m args below meth c Q nL g sz x mm pc lv (st) := fun H locs ls hW hS hl => by
  subst hn
  exact lv_lload C.1.1 C.1.2.1 hd (lv_at hl q hq) (kk H locs ls hW hS hl)
theorem j_aload_n (C : Cx p m c cc nL s args own g sz) {k : Fin 4} {i : Nat} {a : Nat} (hd : decode cc pc = .ok (.aload_n k, 1)) (hi : (k : Nat) = i) (q : Nat) (hq : lv[q]? = some (i, .ref a)) (n : Nat) (hn : pc + 1 = n) (kk : Wj p l e R s m args below meth c Q nL g sz x mm n lv (.ref a :: st)) : Wj p l e R s m args below meth c Q nL g sz x mm pc lv (st) := fun H locs ls hW hS hl => by
  subst hn
  exact lv_aload_n C.1.1 C.1.2.1 hd hi (lv_at hl q hq) (kk H locs ls hW hS hl)
theorem j_aload (C : Cx p m c cc nL s args own g sz) {i : Nat} {a : Nat} (hd : decode cc pc = .ok (.aload i, 2)) (q : Nat) (hq : lv[q]? = some (i, .ref a)) (n : Nat) (hn : pc + 2 = n) (kk : Wj p l e R s m args below meth c Q nL g sz x mm n lv (.ref a :: st)) : Wj p l e R s m args below meth c Q nL g sz x mm pc lv (st) := fun H locs ls hW hS hl => by
  subst hn
  exact lv_aload C.1.1 C.1.2.1 hd (lv_at hl q hq) (kk H locs ls hW hS hl)
theorem j_istore_n (C : Cx p m c cc nL s args own g sz) {k : Fin 4} {i : Nat} {v : Int32} {lv2 : List (Nat × Value)} (hd : decode cc pc = .ok (.istore_n k, 1)) (hi : (k : Nat) = i) (hb : i < nL) (hl2 : (i, Value.int v) :: lv.filter (fun q => !(q.1 == i) && !(q.1 + 1 == i && q.2.category == 2)) = lv2) (n : Nat) (hn : pc + 1 = n) (kk : Wj p l e R s m args below meth c Q nL g sz x mm n lv2 st) : Wj p l e R s m args below meth c Q nL g sz x mm pc lv (.int v :: st) := fun H locs ls hW hS hl => by
  subst hn
  exact lv_istore_n C.1.1 C.1.2.1 hd hi hl hb hl2 (fun ls2 hl3 => kk H locs ls2 hW hS hl3)
theorem j_istore (C : Cx p m c cc nL s args own g sz) {i : Nat} {v : Int32} {lv2 : List (Nat × Value)} (hd : decode cc pc = .ok (.istore i, 2)) (hb : i < nL) (hl2 : (i, Value.int v) :: lv.filter (fun q => !(q.1 == i) && !(q.1 + 1 == i && q.2.category == 2)) = lv2) (n : Nat) (hn : pc + 2 = n) (kk : Wj p l e R s m args below meth c Q nL g sz x mm n lv2 st) : Wj p l e R s m args below meth c Q nL g sz x mm pc lv (.int v :: st) := fun H locs ls hW hS hl => by
  subst hn
  exact lv_istore C.1.1 C.1.2.1 hd hl hb hl2 (fun ls2 hl3 => kk H locs ls2 hW hS hl3)
theorem j_lstore_n (C : Cx p m c cc nL s args own g sz) {k : Fin 4} {i : Nat} {v : Int64} {lv2 : List (Nat × Value)} (hd : decode cc pc = .ok (.lstore_n k, 1)) (hi : (k : Nat) = i) (hb : i + 1 < nL) (hl2 : (i, Value.long v) :: lv.filter (fun q => !(q.1 == i) && (!(q.1 == i + 1) && !(q.1 + 1 == i && q.2.category == 2))) = lv2) (n : Nat) (hn : pc + 1 = n) (kk : Wj p l e R s m args below meth c Q nL g sz x mm n lv2 st) : Wj p l e R s m args below meth c Q nL g sz x mm pc lv (.long v :: st) := fun H locs ls hW hS hl => by
  subst hn
  exact lv_lstore_n C.1.1 C.1.2.1 hd hi hl hb hl2 (fun ls2 hl3 => kk H locs ls2 hW hS hl3)
theorem j_lstore (C : Cx p m c cc nL s args own g sz) {i : Nat} {v : Int64} {lv2 : List (Nat × Value)} (hd : decode cc pc = .ok (.lstore i, 2)) (hb : i + 1 < nL) (hl2 : (i, Value.long v) :: lv.filter (fun q => !(q.1 == i) && (!(q.1 == i + 1) && !(q.1 + 1 == i && q.2.category == 2))) = lv2) (n : Nat) (hn : pc + 2 = n) (kk : Wj p l e R s m args below meth c Q nL g sz x mm n lv2 st) : Wj p l e R s m args below meth c Q nL g sz x mm pc lv (.long v :: st) := fun H locs ls hW hS hl => by
  subst hn
  exact lv_lstore C.1.1 C.1.2.1 hd hl hb hl2 (fun ls2 hl3 => kk H locs ls2 hW hS hl3)
theorem j_astore_n (C : Cx p m c cc nL s args own g sz) {k : Fin 4} {i : Nat} {v : Nat} {lv2 : List (Nat × Value)} (hd : decode cc pc = .ok (.astore_n k, 1)) (hi : (k : Nat) = i) (hb : i < nL) (hl2 : (i, Value.ref v) :: lv.filter (fun q => !(q.1 == i) && !(q.1 + 1 == i && q.2.category == 2)) = lv2) (n : Nat) (hn : pc + 1 = n) (kk : Wj p l e R s m args below meth c Q nL g sz x mm n lv2 st) : Wj p l e R s m args below meth c Q nL g sz x mm pc lv (.ref v :: st) := fun H locs ls hW hS hl => by
  subst hn
  exact lv_astore_n C.1.1 C.1.2.1 hd hi hl hb hl2 (fun ls2 hl3 => kk H locs ls2 hW hS hl3)
theorem j_astore (C : Cx p m c cc nL s args own g sz) {i : Nat} {v : Nat} {lv2 : List (Nat × Value)} (hd : decode cc pc = .ok (.astore i, 2)) (hb : i < nL) (hl2 : (i, Value.ref v) :: lv.filter (fun q => !(q.1 == i) && !(q.1 + 1 == i && q.2.category == 2)) = lv2) (n : Nat) (hn : pc + 2 = n) (kk : Wj p l e R s m args below meth c Q nL g sz x mm n lv2 st) : Wj p l e R s m args below meth c Q nL g sz x mm pc lv (.ref v :: st) := fun H locs ls hW hS hl => by
  subst hn
  exact lv_astore C.1.1 C.1.2.1 hd hl hb hl2 (fun ls2 hl3 => kk H locs ls2 hW hS hl3)
theorem j_iinc (C : Cx p m c cc nL s args own g sz) {i k : Nat} {d : Int} {u v : Int32} {lv2 : List (Nat × Value)} (hd : decode cc pc = .ok (.iinc i d, 3)) (hk : lv[k]? = some (i, .int u)) (hv : u + Int32.ofInt d = v) (hb : i < nL) (hl2 : (i, Value.int v) :: lv.filter (fun q => !(q.1 == i) && !(q.1 + 1 == i && q.2.category == 2)) = lv2) (n : Nat) (hn : pc + 3 = n) (kk : Wj p l e R s m args below meth c Q nL g sz x mm n lv2 st) : Wj p l e R s m args below meth c Q nL g sz x mm pc lv (st) := fun H locs ls hW hS hl => by
  subst hn
  exact lv_iinc C.1.1 C.1.2.1 hd hl hk hv hb hl2 (fun ls2 hl3 => kk H locs ls2 hW hS hl3)
theorem j_iadd (C : Cx p m c cc nL s args own g sz) {a b : Int32} (hd : decode cc pc = .ok (.iadd, 1)) (n : Nat) (hn : pc + 1 = n) (kk : Wj p l e R s m args below meth c Q nL g sz x mm n lv (.int (a + b) :: st)) : Wj p l e R s m args below meth c Q nL g sz x mm pc lv (.int b :: .int a :: st) := fun H locs ls hW hS hl => by
  subst hn
  exact lv_iadd C.1.1 C.1.2.1 hd (kk H locs ls hW hS hl)
theorem j_isub (C : Cx p m c cc nL s args own g sz) {a b : Int32} (hd : decode cc pc = .ok (.isub, 1)) (n : Nat) (hn : pc + 1 = n) (kk : Wj p l e R s m args below meth c Q nL g sz x mm n lv (.int (a - b) :: st)) : Wj p l e R s m args below meth c Q nL g sz x mm pc lv (.int b :: .int a :: st) := fun H locs ls hW hS hl => by
  subst hn
  exact lv_isub C.1.1 C.1.2.1 hd (kk H locs ls hW hS hl)
theorem j_imul (C : Cx p m c cc nL s args own g sz) {a b : Int32} (hd : decode cc pc = .ok (.imul, 1)) (n : Nat) (hn : pc + 1 = n) (kk : Wj p l e R s m args below meth c Q nL g sz x mm n lv (.int (a * b) :: st)) : Wj p l e R s m args below meth c Q nL g sz x mm pc lv (.int b :: .int a :: st) := fun H locs ls hW hS hl => by
  subst hn
  exact lv_imul C.1.1 C.1.2.1 hd (kk H locs ls hW hS hl)
theorem j_iand (C : Cx p m c cc nL s args own g sz) {a b : Int32} (hd : decode cc pc = .ok (.iand, 1)) (n : Nat) (hn : pc + 1 = n) (kk : Wj p l e R s m args below meth c Q nL g sz x mm n lv (.int (a &&& b) :: st)) : Wj p l e R s m args below meth c Q nL g sz x mm pc lv (.int b :: .int a :: st) := fun H locs ls hW hS hl => by
  subst hn
  exact lv_iand C.1.1 C.1.2.1 hd (kk H locs ls hW hS hl)
theorem j_ior (C : Cx p m c cc nL s args own g sz) {a b : Int32} (hd : decode cc pc = .ok (.ior, 1)) (n : Nat) (hn : pc + 1 = n) (kk : Wj p l e R s m args below meth c Q nL g sz x mm n lv (.int (a ||| b) :: st)) : Wj p l e R s m args below meth c Q nL g sz x mm pc lv (.int b :: .int a :: st) := fun H locs ls hW hS hl => by
  subst hn
  exact lv_ior C.1.1 C.1.2.1 hd (kk H locs ls hW hS hl)
theorem j_ixor (C : Cx p m c cc nL s args own g sz) {a b : Int32} (hd : decode cc pc = .ok (.ixor, 1)) (n : Nat) (hn : pc + 1 = n) (kk : Wj p l e R s m args below meth c Q nL g sz x mm n lv (.int (a ^^^ b) :: st)) : Wj p l e R s m args below meth c Q nL g sz x mm pc lv (.int b :: .int a :: st) := fun H locs ls hW hS hl => by
  subst hn
  exact lv_ixor C.1.1 C.1.2.1 hd (kk H locs ls hW hS hl)
theorem j_ishl (C : Cx p m c cc nL s args own g sz) {a b : Int32} (hd : decode cc pc = .ok (.ishl, 1)) (n : Nat) (hn : pc + 1 = n) (kk : Wj p l e R s m args below meth c Q nL g sz x mm n lv (.int (shl32 a b) :: st)) : Wj p l e R s m args below meth c Q nL g sz x mm pc lv (.int b :: .int a :: st) := fun H locs ls hW hS hl => by
  subst hn
  exact lv_ishl C.1.1 C.1.2.1 hd (kk H locs ls hW hS hl)
theorem j_ishr (C : Cx p m c cc nL s args own g sz) {a b : Int32} (hd : decode cc pc = .ok (.ishr, 1)) (n : Nat) (hn : pc + 1 = n) (kk : Wj p l e R s m args below meth c Q nL g sz x mm n lv (.int (shr32 a b) :: st)) : Wj p l e R s m args below meth c Q nL g sz x mm pc lv (.int b :: .int a :: st) := fun H locs ls hW hS hl => by
  subst hn
  exact lv_ishr C.1.1 C.1.2.1 hd (kk H locs ls hW hS hl)
theorem j_iushr (C : Cx p m c cc nL s args own g sz) {a b : Int32} (hd : decode cc pc = .ok (.iushr, 1)) (n : Nat) (hn : pc + 1 = n) (kk : Wj p l e R s m args below meth c Q nL g sz x mm n lv (.int (ush32 a b) :: st)) : Wj p l e R s m args below meth c Q nL g sz x mm pc lv (.int b :: .int a :: st) := fun H locs ls hW hS hl => by
  subst hn
  exact lv_iushr C.1.1 C.1.2.1 hd rfl (kk H locs ls hW hS hl)
theorem j_idiv (C : Cx p m c cc nL s args own g sz) {a b v : Int32} (hd : decode cc pc = .ok (.idiv, 1)) (hv : dvn a b = some v) (n : Nat) (hn : pc + 1 = n) (kk : Wj p l e R s m args below meth c Q nL g sz x mm n lv (.int v :: st)) : Wj p l e R s m args below meth c Q nL g sz x mm pc lv (.int b :: .int a :: st) := fun H locs ls hW hS hl => by
  subst hn
  exact lv_idiv C.1.1 C.1.2.1 hd (dvn_ok hv).1 (by rw [(dvn_ok hv).2]; exact kk H locs ls hW hS hl)
theorem j_irem (C : Cx p m c cc nL s args own g sz) {a b v : Int32} (hd : decode cc pc = .ok (.irem, 1)) (hv : rmn a b = some v) (n : Nat) (hn : pc + 1 = n) (kk : Wj p l e R s m args below meth c Q nL g sz x mm n lv (.int v :: st)) : Wj p l e R s m args below meth c Q nL g sz x mm pc lv (.int b :: .int a :: st) := fun H locs ls hW hS hl => by
  subst hn
  exact lv_irem C.1.1 C.1.2.1 hd (rmn_ok hv).1 (by rw [(rmn_ok hv).2]; exact kk H locs ls hW hS hl)
theorem j_i2l (C : Cx p m c cc nL s args own g sz) {a : Int32} (hd : decode cc pc = .ok (.i2l, 1)) (n : Nat) (hn : pc + 1 = n) (kk : Wj p l e R s m args below meth c Q nL g sz x mm n lv (.long a.toInt64 :: st)) : Wj p l e R s m args below meth c Q nL g sz x mm pc lv (.int a :: st) := fun H locs ls hW hS hl => by
  subst hn
  exact lv_i2l C.1.1 C.1.2.1 hd rfl (kk H locs ls hW hS hl)
theorem j_i2b (C : Cx p m c cc nL s args own g sz) {a : Int32} (hd : decode cc pc = .ok (.i2b, 1)) (n : Nat) (hn : pc + 1 = n) (kk : Wj p l e R s m args below meth c Q nL g sz x mm n lv (.int a.toInt8.toInt32 :: st)) : Wj p l e R s m args below meth c Q nL g sz x mm pc lv (.int a :: st) := fun H locs ls hW hS hl => by
  subst hn
  exact lv_i2b C.1.1 C.1.2.1 hd rfl (kk H locs ls hW hS hl)
theorem j_i2s (C : Cx p m c cc nL s args own g sz) {a : Int32} (hd : decode cc pc = .ok (.i2s, 1)) (n : Nat) (hn : pc + 1 = n) (kk : Wj p l e R s m args below meth c Q nL g sz x mm n lv (.int a.toInt16.toInt32 :: st)) : Wj p l e R s m args below meth c Q nL g sz x mm pc lv (.int a :: st) := fun H locs ls hW hS hl => by
  subst hn
  exact lv_i2s C.1.1 C.1.2.1 hd rfl (kk H locs ls hW hS hl)
theorem j_ladd (C : Cx p m c cc nL s args own g sz) {a b : Int64} (hd : decode cc pc = .ok (.ladd, 1)) (n : Nat) (hn : pc + 1 = n) (kk : Wj p l e R s m args below meth c Q nL g sz x mm n lv (.long (a + b) :: st)) : Wj p l e R s m args below meth c Q nL g sz x mm pc lv (.long b :: .long a :: st) := fun H locs ls hW hS hl => by
  subst hn
  exact lv_ladd C.1.1 C.1.2.1 hd (kk H locs ls hW hS hl)
theorem j_lcmp (C : Cx p m c cc nL s args own g sz) {a b : Int64} (hd : decode cc pc = .ok (.lcmp, 1)) (n : Nat) (hn : pc + 1 = n) (kk : Wj p l e R s m args below meth c Q nL g sz x mm n lv (.int (lg_cmp a b) :: st)) : Wj p l e R s m args below meth c Q nL g sz x mm pc lv (.long b :: .long a :: st) := fun H locs ls hW hS hl => by
  subst hn
  exact W.lcmp C.1.1 C.1.2.1 hd (kk H locs ls hW hS hl)
theorem j_dup (C : Cx p m c cc nL s args own g sz) {v : Value} (hd : decode cc pc = .ok (.dup, 1)) (hv : v.category = 1) (n : Nat) (hn : pc + 1 = n) (kk : Wj p l e R s m args below meth c Q nL g sz x mm n lv (v :: v :: st)) : Wj p l e R s m args below meth c Q nL g sz x mm pc lv (v :: st) := fun H locs ls hW hS hl => by
  subst hn
  exact lv_dup C.1.1 C.1.2.1 hd hv (kk H locs ls hW hS hl)
theorem j_dup2 (C : Cx p m c cc nL s args own g sz) {v w : Value} (hd : decode cc pc = .ok (.dup2, 1)) (hv : v.category = 1) (hw : w.category = 1) (n : Nat) (hn : pc + 1 = n) (kk : Wj p l e R s m args below meth c Q nL g sz x mm n lv (v :: w :: v :: w :: st)) : Wj p l e R s m args below meth c Q nL g sz x mm pc lv (v :: w :: st) := fun H locs ls hW hS hl => by
  subst hn
  exact lv_dup2_11 C.1.1 C.1.2.1 hd hv hw (kk H locs ls hW hS hl)
theorem j_pop (C : Cx p m c cc nL s args own g sz) {v : Value} (hd : decode cc pc = .ok (.pop, 1)) (hv : v.category = 1) (n : Nat) (hn : pc + 1 = n) (kk : Wj p l e R s m args below meth c Q nL g sz x mm n lv st) : Wj p l e R s m args below meth c Q nL g sz x mm pc lv (v :: st) := fun H locs ls hW hS hl => by
  subst hn
  exact lv_pop C.1.1 C.1.2.1 hd hv (kk H locs ls hW hS hl)
theorem j_if_eq (C : Cx p m c cc nL s args own g sz) {a : Int32} {off : Int} (hd : decode cc pc = .ok (.ifCond .eq off, 3)) (tgt : Nat) (ht : (pc : Int) + off = (tgt : Int)) (n : Nat) (hn : pc + 3 = n) (kt : a = 0 → Wj p l e R s m args below meth c Q nL g sz x mm tgt lv st) (kf : ¬ a = 0 → Wj p l e R s m args below meth c Q nL g sz x mm n lv st) : Wj p l e R s m args below meth c Q nL g sz x mm pc lv (.int a :: st) := fun H locs ls hW hS hl => by
  subst hn
  exact lv_if_eq C.1.1 C.1.2.1 hd ht (fun q => kt q H locs ls hW hS hl) (fun q => kf q H locs ls hW hS hl)
theorem j_icmp_eq (C : Cx p m c cc nL s args own g sz) {a b : Int32} {off : Int} (hd : decode cc pc = .ok (.if_icmp .eq off, 3)) (tgt : Nat) (ht : (pc : Int) + off = (tgt : Int)) (n : Nat) (hn : pc + 3 = n) (kt : a = b → Wj p l e R s m args below meth c Q nL g sz x mm tgt lv st) (kf : ¬ a = b → Wj p l e R s m args below meth c Q nL g sz x mm n lv st) : Wj p l e R s m args below meth c Q nL g sz x mm pc lv (.int b :: .int a :: st) := fun H locs ls hW hS hl => by
  subst hn
  exact lv_icmp_eq C.1.1 C.1.2.1 hd ht (fun q => kt q H locs ls hW hS hl) (fun q => kf q H locs ls hW hS hl)
theorem j_if_ne (C : Cx p m c cc nL s args own g sz) {a : Int32} {off : Int} (hd : decode cc pc = .ok (.ifCond .ne off, 3)) (tgt : Nat) (ht : (pc : Int) + off = (tgt : Int)) (n : Nat) (hn : pc + 3 = n) (kt : ¬ a = 0 → Wj p l e R s m args below meth c Q nL g sz x mm tgt lv st) (kf : a = 0 → Wj p l e R s m args below meth c Q nL g sz x mm n lv st) : Wj p l e R s m args below meth c Q nL g sz x mm pc lv (.int a :: st) := fun H locs ls hW hS hl => by
  subst hn
  exact lv_if_ne C.1.1 C.1.2.1 hd ht (fun q => kt q H locs ls hW hS hl) (fun q => kf q H locs ls hW hS hl)
theorem j_icmp_ne (C : Cx p m c cc nL s args own g sz) {a b : Int32} {off : Int} (hd : decode cc pc = .ok (.if_icmp .ne off, 3)) (tgt : Nat) (ht : (pc : Int) + off = (tgt : Int)) (n : Nat) (hn : pc + 3 = n) (kt : ¬ a = b → Wj p l e R s m args below meth c Q nL g sz x mm tgt lv st) (kf : a = b → Wj p l e R s m args below meth c Q nL g sz x mm n lv st) : Wj p l e R s m args below meth c Q nL g sz x mm pc lv (.int b :: .int a :: st) := fun H locs ls hW hS hl => by
  subst hn
  exact lv_icmp_ne C.1.1 C.1.2.1 hd ht (fun q => kt q H locs ls hW hS hl) (fun q => kf q H locs ls hW hS hl)
theorem j_if_lt (C : Cx p m c cc nL s args own g sz) {a : Int32} {off : Int} (hd : decode cc pc = .ok (.ifCond .lt off, 3)) (tgt : Nat) (ht : (pc : Int) + off = (tgt : Int)) (n : Nat) (hn : pc + 3 = n) (kt : a < 0 → Wj p l e R s m args below meth c Q nL g sz x mm tgt lv st) (kf : ¬ a < 0 → Wj p l e R s m args below meth c Q nL g sz x mm n lv st) : Wj p l e R s m args below meth c Q nL g sz x mm pc lv (.int a :: st) := fun H locs ls hW hS hl => by
  subst hn
  exact lv_if_lt C.1.1 C.1.2.1 hd ht (fun q => kt q H locs ls hW hS hl) (fun q => kf q H locs ls hW hS hl)
theorem j_icmp_lt (C : Cx p m c cc nL s args own g sz) {a b : Int32} {off : Int} (hd : decode cc pc = .ok (.if_icmp .lt off, 3)) (tgt : Nat) (ht : (pc : Int) + off = (tgt : Int)) (n : Nat) (hn : pc + 3 = n) (kt : a < b → Wj p l e R s m args below meth c Q nL g sz x mm tgt lv st) (kf : ¬ a < b → Wj p l e R s m args below meth c Q nL g sz x mm n lv st) : Wj p l e R s m args below meth c Q nL g sz x mm pc lv (.int b :: .int a :: st) := fun H locs ls hW hS hl => by
  subst hn
  exact lv_icmp_lt C.1.1 C.1.2.1 hd ht (fun q => kt q H locs ls hW hS hl) (fun q => kf q H locs ls hW hS hl)
theorem j_if_ge (C : Cx p m c cc nL s args own g sz) {a : Int32} {off : Int} (hd : decode cc pc = .ok (.ifCond .ge off, 3)) (tgt : Nat) (ht : (pc : Int) + off = (tgt : Int)) (n : Nat) (hn : pc + 3 = n) (kt : 0 ≤ a → Wj p l e R s m args below meth c Q nL g sz x mm tgt lv st) (kf : ¬ 0 ≤ a → Wj p l e R s m args below meth c Q nL g sz x mm n lv st) : Wj p l e R s m args below meth c Q nL g sz x mm pc lv (.int a :: st) := fun H locs ls hW hS hl => by
  subst hn
  exact lv_if_ge C.1.1 C.1.2.1 hd ht (fun q => kt q H locs ls hW hS hl) (fun q => kf q H locs ls hW hS hl)
theorem j_icmp_ge (C : Cx p m c cc nL s args own g sz) {a b : Int32} {off : Int} (hd : decode cc pc = .ok (.if_icmp .ge off, 3)) (tgt : Nat) (ht : (pc : Int) + off = (tgt : Int)) (n : Nat) (hn : pc + 3 = n) (kt : b ≤ a → Wj p l e R s m args below meth c Q nL g sz x mm tgt lv st) (kf : ¬ b ≤ a → Wj p l e R s m args below meth c Q nL g sz x mm n lv st) : Wj p l e R s m args below meth c Q nL g sz x mm pc lv (.int b :: .int a :: st) := fun H locs ls hW hS hl => by
  subst hn
  exact lv_icmp_ge C.1.1 C.1.2.1 hd ht (fun q => kt q H locs ls hW hS hl) (fun q => kf q H locs ls hW hS hl)
theorem j_if_gt (C : Cx p m c cc nL s args own g sz) {a : Int32} {off : Int} (hd : decode cc pc = .ok (.ifCond .gt off, 3)) (tgt : Nat) (ht : (pc : Int) + off = (tgt : Int)) (n : Nat) (hn : pc + 3 = n) (kt : 0 < a → Wj p l e R s m args below meth c Q nL g sz x mm tgt lv st) (kf : ¬ 0 < a → Wj p l e R s m args below meth c Q nL g sz x mm n lv st) : Wj p l e R s m args below meth c Q nL g sz x mm pc lv (.int a :: st) := fun H locs ls hW hS hl => by
  subst hn
  exact lv_if_gt C.1.1 C.1.2.1 hd ht (fun q => kt q H locs ls hW hS hl) (fun q => kf q H locs ls hW hS hl)
theorem j_icmp_gt (C : Cx p m c cc nL s args own g sz) {a b : Int32} {off : Int} (hd : decode cc pc = .ok (.if_icmp .gt off, 3)) (tgt : Nat) (ht : (pc : Int) + off = (tgt : Int)) (n : Nat) (hn : pc + 3 = n) (kt : b < a → Wj p l e R s m args below meth c Q nL g sz x mm tgt lv st) (kf : ¬ b < a → Wj p l e R s m args below meth c Q nL g sz x mm n lv st) : Wj p l e R s m args below meth c Q nL g sz x mm pc lv (.int b :: .int a :: st) := fun H locs ls hW hS hl => by
  subst hn
  exact lv_icmp_gt C.1.1 C.1.2.1 hd ht (fun q => kt q H locs ls hW hS hl) (fun q => kf q H locs ls hW hS hl)
theorem j_if_le (C : Cx p m c cc nL s args own g sz) {a : Int32} {off : Int} (hd : decode cc pc = .ok (.ifCond .le off, 3)) (tgt : Nat) (ht : (pc : Int) + off = (tgt : Int)) (n : Nat) (hn : pc + 3 = n) (kt : a ≤ 0 → Wj p l e R s m args below meth c Q nL g sz x mm tgt lv st) (kf : ¬ a ≤ 0 → Wj p l e R s m args below meth c Q nL g sz x mm n lv st) : Wj p l e R s m args below meth c Q nL g sz x mm pc lv (.int a :: st) := fun H locs ls hW hS hl => by
  subst hn
  exact lv_if_le C.1.1 C.1.2.1 hd ht (fun q => kt q H locs ls hW hS hl) (fun q => kf q H locs ls hW hS hl)
theorem j_icmp_le (C : Cx p m c cc nL s args own g sz) {a b : Int32} {off : Int} (hd : decode cc pc = .ok (.if_icmp .le off, 3)) (tgt : Nat) (ht : (pc : Int) + off = (tgt : Int)) (n : Nat) (hn : pc + 3 = n) (kt : a ≤ b → Wj p l e R s m args below meth c Q nL g sz x mm tgt lv st) (kf : ¬ a ≤ b → Wj p l e R s m args below meth c Q nL g sz x mm n lv st) : Wj p l e R s m args below meth c Q nL g sz x mm pc lv (.int b :: .int a :: st) := fun H locs ls hW hS hl => by
  subst hn
  exact lv_icmp_le C.1.1 C.1.2.1 hd ht (fun q => kt q H locs ls hW hS hl) (fun q => kf q H locs ls hW hS hl)
theorem j_goto (C : Cx p m c cc nL s args own g sz) {off : Int} (hd : decode cc pc = .ok (.goto off, 3)) (tgt : Nat) (ht : (pc : Int) + off = (tgt : Int)) (kk : Wj p l e R s m args below meth c Q nL g sz x mm tgt lv st) : Wj p l e R s m args below meth c Q nL g sz x mm pc lv st := fun H locs ls hW hS hl => lv_goto C.1.1 C.1.2.1 hd ht (kk H locs ls hW hS hl)
theorem j_tableOut (C : Cx p m c cc nL s args own g sz) {dflt lo hi : Int} {offs : Array Int} {len : Nat} {a : Int32} (hd : decode cc pc = .ok (.tableswitch dflt lo hi offs, len)) (h : a.toInt < lo ∨ hi < a.toInt) (tgt : Nat) (ht : (pc : Int) + dflt = (tgt : Int)) (kk : Wj p l e R s m args below meth c Q nL g sz x mm tgt lv st) : Wj p l e R s m args below meth c Q nL g sz x mm pc lv (.int a :: st) := fun H locs ls hW hS hl => lv_tableOut C.1.1 C.1.2.1 hd h ht (kk H locs ls hW hS hl)
theorem j_tableIn (C : Cx p m c cc nL s args own g sz) {dflt lo hi : Int} {offs : Array Int} {len : Nat} {a : Int32} {off : Int} (hd : decode cc pc = .ok (.tableswitch dflt lo hi offs, len)) (h1 : ¬ a.toInt < lo) (h2 : ¬ hi < a.toInt) (ho : offs[(a.toInt - lo).toNat]? = some off) (tgt : Nat) (ht : (pc : Int) + off = (tgt : Int)) (kk : Wj p l e R s m args below meth c Q nL g sz x mm tgt lv st) : Wj p l e R s m args below meth c Q nL g sz x mm pc lv (.int a :: st) := fun H locs ls hW hS hl => lv_tableIn C.1.1 C.1.2.1 hd h1 h2 ho ht (kk H locs ls hW hS hl)
theorem j_lookup (C : Cx p m c cc nL s args own g sz) {dflt : Int} {ps : Array (Int × Int)} {len : Nat} {a : Int32} {off : Int} (hd : decode cc pc = .ok (.lookupswitch dflt ps, len)) (hp : (ps.toList.zip (ps.toList.drop 1)).all (fun (a, next) => a.1 < next.1) = true) (ho : Op.lookupswitch.offset ps.toList dflt a.toInt = off) (tgt : Nat) (ht : (pc : Int) + off = (tgt : Int)) (kk : Wj p l e R s m args below meth c Q nL g sz x mm tgt lv st) : Wj p l e R s m args below meth c Q nL g sz x mm pc lv (.int a :: st) := fun H locs ls hW hS hl => lv_lookup C.1.1 C.1.2.1 hd hp ho ht (kk H locs ls hW hS hl)
theorem j_sub {lv2 : List (Nat × Value)} (ks : List Nat) (hl2 : lv_pick lv ks = lv2) (kk : Wj p l e R s m args below meth c Q nL g sz x mm pc lv2 st) : Wj p l e R s m args below meth c Q nL g sz x mm pc lv st := fun H locs ls hW hS hl => kk H locs ls hW hS (lv_sub hl ks hl2)
theorem j_x {y : St} (h : x = y) (kk : Wj p l e R s m args below meth c Q nL g sz y mm pc lv st) : Wj p l e R s m args below meth c Q nL g sz x mm pc lv st := h ▸ kk
theorem j_m {y : St} (h : mm = y) (kk : Wj p l e R s m args below meth c Q nL g sz x y pc lv st) : Wj p l e R s m args below meth c Q nL g sz x mm pc lv st := h ▸ kk
theorem j_get (C : Cx p m c cc nL s args own g sz) (k : Nat) (hk : k < 70) {ci : Nat} {fs : List Value} (he : ent g x mm k = .inr (ci, fs)) {C0 : String} {T : u_T} {N : Nat} (hc : vwCl[ci]? = some (C0, T, N)) (hin : ∀ w ∈ u_ws C0 T N, w ∈ ALLW) (j : Nat) (hj : j < N) {idx : Nat} (hlink : Cond.fieldLink own idx (T j).1 (T j).2.1 (T j).2.2.1 ∈ ALLW) {v : Value} (hv : fs[j]? = some v) (hd : decode cc pc = .ok (.getfield idx, 3)) (n : Nat) (hn : pc + 3 = n) (kk : Wj p l e R s m args below meth c Q nL g sz x mm n lv (v :: st)) : Wj p l e R s m args below meth c Q nL g sz x mm pc lv (.ref (ad g k) :: st) := fun H locs ls hW hS hl => by
  subst hn
  exact va_get C.1.1 C.1.2.1 C.1.2.2.2.2 hin C.1.2.2.2.1 C.2.1.1 hW k (by rw [wl_get hk, he]) hc j hj (C.1.2.2.2.2 _ hlink) (fun _ h9 => h9) hv hd (kk H locs ls hW hS hl)
theorem j_put {x2 m2 : St} (C : Cx p m c cc nL s args own g sz) (k : Nat) (hk : k < 70) {ci : Nat} {fs : List Value} (he : ent g x mm k = .inr (ci, fs)) {C0 : String} {T : u_T} {N : Nat} (hc : vwCl[ci]? = some (C0, T, N)) (hin : ∀ w ∈ u_ws C0 T N, w ∈ ALLW) (ty0 : Nat → FieldType) (hty : ∀ k, k < N → parseFieldDescriptor (T k).2.2.1 = some (ty0 k)) (hnm : ∀ a, a < N → ∀ b, b < N → a ≠ b → (T a).2.1 ≠ (T b).2.1) (j : Nat) (hj : j < N) {idx : Nat} (hlink : Cond.fieldLink own idx (T j).1 (T j).2.1 (T j).2.2.1 ∈ ALLW) (hfin : (T j).2.2.2 = false) {ty : FieldType} {v : Value} (htj : ty0 j = ty) (hnv : narrow ty v = v) (hfit : fits ty v = true) (hlen : j < fs.length) (he2 : ent g x2 m2 k = .inr (ci, fs.set j v)) (ho : ∀ q, q ≠ k → ent g x2 m2 q = ent g x mm q) (hd : decode cc pc = .ok (.putfield idx, 3)) (n : Nat) (hn : pc + 3 = n) (kk : Wj p l e R s m args below meth c Q nL g sz x2 m2 n lv st) : Wj p l e R s m args below meth c Q nL g sz x mm pc lv (v :: .ref (ad g k) :: st) := fun H locs ls hW hS hl => by
  subst hn
  refine va_put C.1.1 C.1.2.1 C.1.2.2.2.2 hin ty0 hty hnm C.1.2.2.2.1 C.2.1.1 hW (C.2.D _) hS k (by rw [wl_get hk, he]) hc j hj (C.1.2.2.2.2 _ hlink) (fun _ h9 => h9) hfin (by rw [hty j hj, htj]) hnv hfit hlen hd (fun H1 locs1 hP1 hD1 hS1 => ?_)
  rw [wl_set he2 ho] at hP1
  exact kk H1 locs1 ls hP1 hS1 hl
theorem j_iald (C : Cx p m c cc nL s args own g sz) (k : Nat) (hk : k < 70) {n0 : Nat} {f : Nat → Int32} (he : ent g x mm k = .inl (g.2.1 0, n0, .inl f)) {i v : Int32} (hin : vp_in i n0) (hv : f i.toNatClampNeg = v) (hd : decode cc pc = .ok (.iaload, 1)) (n : Nat) (hn : pc + 1 = n) (kk : Wj p l e R s m args below meth c Q nL g sz x mm n lv (.int v :: st)) : Wj p l e R s m args below meth c Q nL g sz x mm pc lv (.int i :: .ref (ad g k) :: st) := fun H locs ls hW hS hl => by
  subst hn; subst hv
  exact va_iald C.1.1 C.1.2.1 C.2.1.1 hW k 0 (by rw [wl_get hk, he]) rfl hin hd (kk H locs ls hW hS hl)
theorem j_iast {x2 m2 : St} (C : Cx p m c cc nL s args own g sz) (k : Nat) (hk : k < 70) {n0 : Nat} {f : Nat → Int32} (he : ent g x mm k = .inl (g.2.1 0, n0, .inl f)) {i v : Int32} (hin : vp_in i n0) (he2 : ent g x2 m2 k = .inl (g.2.1 0, n0, .inl (upd f i.toNatClampNeg v))) (ho : ∀ q, q ≠ k → ent g x2 m2 q = ent g x mm q) (hd : decode cc pc = .ok (.iastore, 1)) (n : Nat) (hn : pc + 1 = n) (kk : Wj p l e R s m args below meth c Q nL g sz x2 m2 n lv st) : Wj p l e R s m args below meth c Q nL g sz x mm pc lv (.int v :: .int i :: .ref (ad g k) :: st) := fun H locs ls hW hS hl => by
  subst hn
  refine va_iast C.1.1 C.1.2.1 C.2.1.1 hW (C.2.D _) hS k 0 (by rw [wl_get hk, he]) rfl hin hd (fun H1 locs1 hP1 hD1 hS1 => ?_)
  rw [wl_set he2 ho] at hP1
  exact kk H1 locs1 ls hP1 hS1 hl
theorem j_aald (C : Cx p m c cc nL s args own g sz) (k : Nat) (hk : k < 70) (t0 : Nat) {cA : ClassId} {C0 : String} {n0 : Nat} {f : Nat → Option Nat} (he : ent g x mm k = .inl (cA, n0, .inr (.inr (.inr (.inr f))))) (ht : (tysJ g)[t0]? = some (cA, .object C0)) {i : Int32} {a : Nat} (hin : vp_in i n0) (hv : f i.toNatClampNeg = some a) (hd : decode cc pc = .ok (.aaload, 1)) (n : Nat) (hn : pc + 1 = n) (kk : Wj p l e R s m args below meth c Q nL g sz x mm n lv (.ref a :: st)) : Wj p l e R s m args below meth c Q nL g sz x mm pc lv (.int i :: .ref (ad g k) :: st) := fun H locs ls hW hS hl => by
  subst hn
  refine va_aldq C.1.1 C.1.2.1 C.2.1.1 hW k t0 (by rw [wl_get hk, he]) ht hin hd ?_
  rw [hv]
  exact kk H locs ls hW hS hl
theorem j_alen (C : Cx p m c cc nL s args own g sz) (k : Nat) (hk : k < 70) (t0 : Nat) {cA : ClassId} {a : vp_A} (he : ent g x mm k = .inl (cA, a)) {ty : FieldType} (ht : (tysJ g)[t0]? = some (cA, ty)) {v : Int32} (hv : Int32.ofNat a.1 = v) (hd : decode cc pc = .ok (.arraylength, 1)) (n : Nat) (hn : pc + 1 = n) (kk : Wj p l e R s m args below meth c Q nL g sz x mm n lv (.int v :: st)) : Wj p l e R s m args below meth c Q nL g sz x mm pc lv (.ref (ad g k) :: st) := fun H locs ls hW hS hl => by
  subst hn
  exact va_alen C.1.1 C.1.2.1 C.2.1.1 hW k t0 (by rw [wl_get hk, he]) ht hv hd (kk H locs ls hW hS hl)
theorem j_gets (C : Cx p m c cc nL s args own g sz) (i : Nat) (hi : i < 7) {idx : Nat} (hlink : Cond.fieldLink own idx "PennyLedge" (stN i) "[I" ∈ ALLW) (hd : decode cc pc = .ok (.getstatic idx, 3)) (n : Nat) (hn : pc + 3 = n) (kk : Wj p l e R s m args below meth c Q nL g sz x mm n lv (.ref (adS g i) :: st)) : Wj p l e R s m args below meth c Q nL g sz x mm pc lv st := fun H locs ls hW hS hl => by
  subst hn
  exact va_gets C.1.1 C.1.2.1 (C.2.2.1 i hi).1 hS C.1.2.2.2.1 (C.1.2.2.2.2 _ hlink) (fun _ h9 => h9) hd (kk H locs ls hW hS hl)
theorem j_getsN (C : Cx p m c cc nL s args own g sz) (i : Nat) (hi : i < 7) {idx : Nat} (hlink : va_Nw (.fieldLinkNest own idx "PennyLedge" (stN i) "[I" "PennyLedge") s) (hd : decode cc pc = .ok (.getstatic idx, 3)) (n : Nat) (hn : pc + 3 = n) (kk : Wj p l e R s m args below meth c Q nL g sz x mm n lv (.ref (adS g i) :: st)) : Wj p l e R s m args below meth c Q nL g sz x mm pc lv st := fun H locs ls hW hS hl => by
  subst hn
  exact va_getsN C.1.1 C.1.2.1 (C.2.2.1 i hi).1 hS C.1.2.2.2.1 (hlink.use rfl) (fun _ h9 => h9) hd (kk H locs ls hW hS hl)
theorem j_sald (C : Cx p m c cc nL s args own g sz) (t : Nat) (ht : t < 7) {i v : Int32} (hv : rdc (stL t) (stC t) i = some v) (hd : decode cc pc = .ok (.iaload, 1)) (n : Nat) (hn : pc + 1 = n) (kk : Wj p l e R s m args below meth c Q nL g sz x mm n lv (.int v :: st)) : Wj p l e R s m args below meth c Q nL g sz x mm pc lv (.int i :: .ref (adS g t) :: st) := fun H locs ls hW hS hl => by
  subst hn
  exact va_ti C.1.1 C.1.2.1 (C.2.2.1 t ht).2 hS (rdc_ok hv).1 (by rw [(rdc_ok hv).2]) hd (kk H locs ls hW hS hl)
theorem j_ldcS (C : Cx p m c cc nL s args own g sz) {tx : String} {idx q : Nat} (hZ : vk_R own idx tx q s) (hd : decode cc pc = .ok (.ldc idx, 2)) (n : Nat) (hn : pc + 2 = n) (kk : Wj p l e R s m args below meth c Q nL g sz x mm n lv (.ref q :: st)) : Wj p l e R s m args below meth c Q nL g sz x mm pc lv st := fun H locs ls hW hS hl => by
  subst hn
  exact va_ldcS C.1.1 C.1.2.1 C.1.2.2.2.1 hZ hd (kk H locs ls hW hS hl)
theorem j_iret {r : Int32} (C : Cx p m c cc nL s args own g sz) (hr : meth.sig.returnType = some .int) (hk : meth.locks = false) (hd : decode cc pc = .ok (.ireturn, 1)) : Wj p l e R s m args below meth c (MQ below (QiJ g sz r x mm) args s 0 0 (Ag sz)) nL g sz x mm pc lv [.int r] := fun H locs ls hW hS hl => W.iret C.1.1 C.1.2.1 hr (fun t ht hWm => ⟨⟨r, (), rfl, rfl, by show Wd g x mm t.heap; rw [ht]; exact hW⟩, hS.F ht⟩) hS.2.2 hd hk
theorem j_zret {r : Int32} (C : Cx p m c cc nL s args own g sz) (hr : meth.sig.returnType = some .boolean) (hk : meth.locks = false) (hv : r = 0 ∨ r = 1) (hd : decode cc pc = .ok (.ireturn, 1)) : Wj p l e R s m args below meth c (MQ below (QiJ g sz r x mm) args s 0 0 (Ag sz)) nL g sz x mm pc lv [.int r] := fun H locs ls hW hS hl => W.zret C.1.1 C.1.2.1 hr (by rcases hv with rfl | rfl <;> rfl) (fun t ht hWm => ⟨⟨r, (), rfl, rfl, by show Wd g x mm t.heap; rw [ht]; exact hW⟩, hS.F ht⟩) hS.2.2 hd hk
theorem j_vret (C : Cx p m c cc nL s args own g sz) (hr : meth.sig.returnType = none) (hk : meth.locks = false) (hd : decode cc pc = .ok (.return_, 1)) : Wj p l e R s m args below meth c (MQ below (QvJ g sz x mm) args s 0 0 (Ag sz)) nL g sz x mm pc lv [] := fun H locs ls hW hS hl => W.vret C.1.1 C.1.2.1 hr (fun t ht hWm => ⟨⟨(), rfl, trivial, by show Wd g x mm t.heap; rw [ht]; exact hW⟩, hS.F ht⟩) hS.2.2 hd hk
theorem j_lret {r : Int64} (C : Cx p m c cc nL s args own g sz) (hr : meth.sig.returnType = some .long) (hk : meth.locks = false) (hd : decode cc pc = .ok (.lreturn, 1)) : Wj p l e R s m args below meth c (MQ below (QlJ g sz r x mm) args s 0 0 (Ag sz)) nL g sz x mm pc lv [.long r] := fun H locs ls hW hS hl => W.lret C.1.1 C.1.2.1 hr (fun t ht hWm => ⟨⟨r, (), rfl, rfl, by show Wd g x mm t.heap; rw [ht]; exact hW⟩, hS.F ht⟩) hS.2.2 hd hk
theorem j_aret {r : Nat} {nm : String} (C : Cx p m c cc nL s args own g sz) (hr : meth.sig.returnType = some (.object nm)) (hk : meth.locks = false) (hd : decode cc pc = .ok (.areturn, 1)) : Wj p l e R s m args below meth c (MQ below (QrJ g sz r x mm) args s 0 0 (Ag sz)) nL g sz x mm pc lv [.ref r] := fun H locs ls hW hS hl => W.aret C.1.1 C.1.2.1 hr (Or.inl ⟨nm, rfl⟩) (Or.inr ⟨r, rfl⟩) (fun t ht hWm => ⟨⟨(), r, rfl, trivial, rfl, by show Wd g x mm t.heap; rw [ht]; exact hW⟩, hS.F ht⟩) hS.2.2 hd hk
theorem j_met {y : MethodName} {maxL : Nat} {ret : Option FieldType} {rm : Room} {av : List Value} {Qc : Array Value → State → Outcome → State → Prop} {lv0 : List (Nat × Value)} (hy : plainName y.cls = true) (ho : y.cls = own) (hav : (lg_sl av).length ≤ maxL) (hlv : lv_args 0 av = lv0)
    (body : ∀ (p : Program) (e : Env) (s : State) (m : MethodId) (args : Array Value) (below : List Frame) (meth : Method) (c : Code), Cx p m c cc maxL s args own g sz → meth.sig.returnType = ret → meth.locks = false → Wj p l e rm s m args below meth c (MQ below Qc args s 0 0 (Ag sz)) maxL g sz x mm 0 lv0 []) :
    Met l y (.code y cc maxL ret :: ALLW) rm (PcJ g sz x mm av) Qc 0 0 (Ag sz) := by
  refine Met.ofW (cc := cc) (maxL := maxL) (ret := ret) hy rfl ?_
  intro p e s m args below meth c s₁ B hml hv
  obtain ⟨rfl, hB, hW⟩ := hv
  have hts := atoms_spec (ws := Cond.code y cc maxL ret :: ALLW) B.pre
  have hown : s.vm.findClass y.cls = some m.cls := findClass_of_methodNamed B.named
  rw [lg_entry_eq]
  exact body p e s m _ below meth c ⟨⟨B.exec, B.bytes, hml, ho ▸ hown, fun w hw => hts w (List.mem_cons_of_mem _ hw)⟩, hB⟩ B.returns B.notSynchronized s.heap [] _ hW va_S.rf (hlv ▸ lv_entry av hav)
abbrev HdJ (y : MethodName) (C0 : String) (n : Nat) : Prop := y.cls = C0 ∧ y.cls ≠ "java/lang/invoke/MethodHandle" ∧ y.cls ≠ "java/lang/invoke/VarHandle" ∧ (parseMethodDescriptor y.desc).map (fun d => d.parameters.length) = some n
theorem j_cwV {y : MethodName} {C0 : String} {idx n maxY : Nat} {bytes : ByteArray} {ret : Option FieldType} {rm : Room} (C : Cx p m c cc nL s args own g sz) (hcode : Cond.code y bytes maxY ret ∈ ALLW) (hlink : Cond.methodLink own idx y ∈ ALLW) (hinst : Cond.instanceMethod y ∈ ALLW) (hsel : Cond.selects C0 y y ∈ ALLW) (hini : Cond.initialized C0 ∈ ALLW) (hd : HdJ y C0 n) (hz : rm.cells = 0 ∧ rm.slots = 0) (hR : rm.frames + 1 ≤ R.frames ∧ 8 + (maxY + 11) + rm.locals ≤ R.locals) : CallW R s args own C0 idx y bytes maxY ret (.code y bytes maxY ret :: ALLW) rm 0 0 n := by
  refine cwV n C.1.2.2.2.2 ?_ rfl hz.1 hz.2 hd hR
  intro w hw
  have hm : w ∈ ALLW := by
    rcases List.mem_append.mp hw with h | h
    · simp only [List.mem_cons, List.not_mem_nil, or_false] at h
      rcases h with rfl | rfl | rfl | rfl <;> assumption
    · rcases List.mem_cons.mp h with rfl | h
      · exact hcode
      · exact h
  exact ⟨hm, good_of_word (goodAll _ hm)⟩
theorem j_cwS {y : MethodName} {idx n maxY : Nat} {bytes : ByteArray} {ret : Option FieldType} {rm : Room} (C : Cx p m c cc nL s args own g sz) (hcode : Cond.code y bytes maxY ret ∈ ALLW) (hlink : Cond.methodLink own idx y ∈ ALLW) (hinst : Cond.static y ∈ ALLW) (hini : Cond.initialized own ∈ ALLW) (hd : HdJ y own n) (hz : rm.cells = 0 ∧ rm.slots = 0) (hR : rm.frames + 1 ≤ R.frames ∧ 8 + (maxY + 11) + rm.locals ≤ R.locals) : CallB R s args own idx y bytes maxY ret (.code y bytes maxY ret :: ALLW) rm 0 0 n ∧ (Cond.static y).before args s = true := by
  refine cwS n C.1.2.2.2.2 ?_ rfl hz.1 hz.2 hd hR
  intro w hw
  have hm : w ∈ ALLW := by
    rcases List.mem_append.mp hw with h | h
    · simp only [List.mem_cons, List.not_mem_nil, or_false] at h
      rcases h with rfl | rfl | rfl <;> assumption
    · rcases List.mem_cons.mp h with rfl | h
      · exact hcode
      · exact h
  exact ⟨hm, good_of_word (goodAll _ hm)⟩
/-- a static of another class -/
theorem j_cwO {y : MethodName} {C0 : String} {idx n maxY : Nat} {bytes : ByteArray} {ret : Option FieldType} {rm : Room} (C : Cx p m c cc nL s args own g sz) (hcode : Cond.code y bytes maxY ret ∈ ALLW) (hlink : Cond.methodLink own idx y ∈ ALLW) (hinst : Cond.static y ∈ ALLW) (hini : Cond.initialized C0 ∈ ALLW) (hd : HdJ y C0 n) (hz : rm.cells = 0 ∧ rm.slots = 0) (hR : rm.frames + 1 ≤ R.frames ∧ 8 + (maxY + 11) + rm.locals ≤ R.locals) : CallB R s args own idx y bytes maxY ret (.code y bytes maxY ret :: ALLW) rm 0 0 n ∧ (Cond.static y).before args s = true := by
  refine ⟨callB_of n C.1.2.2.2.2 ?_ rfl hz.1 hz.2 (by rw [hd.1]; exact C.1.2.2.2.2 _ hini) (C.1.2.2.2.2 _ hlink) ⟨hd.2.1, hd.2.2.1, hd.2.2.2⟩ hR, C.1.2.2.2.2 _ hinst⟩
  intro w hw
  have hm : w ∈ ALLW := by
    rcases List.mem_cons.mp hw with rfl | h
    · exact hcode
    · exact h
  exact ⟨hm, good_of_word (goodAll _ hm)⟩
def RecvJ (g : GG) (x mm : St) (b : Nat) (C0 : String) : Prop := ∃ (k ci : Nat) (fs : List Value) (T : u_T) (N : Nat), b = ad g k ∧ k < 70 ∧ ent g x mm k = .inr (ci, fs) ∧ vwCl[ci]? = some (C0, T, N)
theorem RecvJ.cell {b : Nat} {C0 : String} (h : RecvJ g x mm b C0) (hB : Bs g sz s s.heap) (H : Heap) (locs : List Loc) (hW : Wd g x mm H) (_ : va_S (Ag sz) s.heap H locs) : ∃ cellB : Cell, H[b]? = some cellB ∧ cellB.vm.isStatics = false ∧ s.vm.findClass C0 = some cellB.cls := by
  obtain ⟨k, ci, fs, T, N, rfl, hk, he, hc⟩ := h
  exact va_recv hB.1.1 hW hc (q0 := k) (by rw [wl_get hk, he])
theorem j_callVi {y : MethodName} {C0 : String} {b : Nat} {idx na maxY : Nat} {bytes : ByteArray} {ret : Option FieldType} {rm : Room} {r : Int32} {As rest : List Value} (C : Cx p m c cc nL s args own g sz) (hM : Met l y (.code y bytes maxY ret :: ALLW) rm (PcJ g sz x mm (.ref b :: As)) (QiJ g sz r x' m') 0 0 (Ag sz)) (cw : CallW R s args own C0 idx y bytes maxY ret (.code y bytes maxY ret :: ALLW) rm 0 0 na) (hrec : ∀ (H : Heap) (locs : List Loc), Wd g x mm H → va_S (Ag sz) s.heap H locs → ∃ cellB : Cell, H[b]? = some cellB ∧ cellB.vm.isStatics = false ∧ s.vm.findClass C0 = some cellB.cls) (hna : As.length = na) (hcat : (rest.map fun v => v.category).sum ≤ 8) (hd : decode cc pc = .ok (.invokevirtual idx, 3)) (n : Nat) (hn : pc + 3 = n) (kk : Wj p l e R s m args below meth c Q nL g sz x' m' n lv (.int r :: rest)) : Wj p l e R s m args below meth c Q nL g sz x mm pc lv (As.reverse ++ .ref b :: rest) := fun H locs ls hW hS hl => by
  subst hn
  exact va_calli (va_runV C.1 hM cw ⟨PcJ.blind g sz x mm _, hrec H locs hW hS, fun U hU hWm => ⟨rfl, by rw [hU]; exact C.2.go hS hWm, by rw [hU]; exact hW⟩⟩ rfl hna hl.1 rfl (lv_room hcat) hd ⟨Nat.zero_le _, Nat.zero_le _⟩) hS (fun _ _ h => h) (fun _ h => h) (fun r2 u t H1 locs1 ht _ hr hB _ _ hS1 => by subst hr; rw [ht] at hB; exact kk H1 locs1 ls hB hS1 hl)
theorem j_callVl {y : MethodName} {C0 : String} {b : Nat} {idx na maxY : Nat} {bytes : ByteArray} {ret : Option FieldType} {rm : Room} {r : Int64} {As rest : List Value} (C : Cx p m c cc nL s args own g sz) (hM : Met l y (.code y bytes maxY ret :: ALLW) rm (PcJ g sz x mm (.ref b :: As)) (QlJ g sz r x' m') 0 0 (Ag sz)) (cw : CallW R s args own C0 idx y bytes maxY ret (.code y bytes maxY ret :: ALLW) rm 0 0 na) (hrec : ∀ (H : Heap) (locs : List Loc), Wd g x mm H → va_S (Ag sz) s.heap H locs → ∃ cellB : Cell, H[b]? = some cellB ∧ cellB.vm.isStatics = false ∧ s.vm.findClass C0 = some cellB.cls) (hna : As.length = na) (hcat : (rest.map fun v => v.category).sum ≤ 8) (hd : decode cc pc = .ok (.invokevirtual idx, 3)) (n : Nat) (hn : pc + 3 = n) (kk : Wj p l e R s m args below meth c Q nL g sz x' m' n lv (.long r :: rest)) : Wj p l e R s m args below meth c Q nL g sz x mm pc lv (As.reverse ++ .ref b :: rest) := fun H locs ls hW hS hl => by
  subst hn
  exact va_calll (va_runV C.1 hM cw ⟨PcJ.blind g sz x mm _, hrec H locs hW hS, fun U hU hWm => ⟨rfl, by rw [hU]; exact C.2.go hS hWm, by rw [hU]; exact hW⟩⟩ rfl hna hl.1 rfl (lv_room hcat) hd ⟨Nat.zero_le _, Nat.zero_le _⟩) hS (fun _ _ h => h) (fun _ h => h) (fun r2 u t H1 locs1 ht _ hr hB _ _ hS1 => by subst hr; rw [ht] at hB; exact kk H1 locs1 ls hB hS1 hl)
theorem j_callVv {y : MethodName} {C0 : String} {b : Nat} {idx na maxY : Nat} {bytes : ByteArray} {ret : Option FieldType} {rm : Room} {As rest : List Value} (C : Cx p m c cc nL s args own g sz) (hM : Met l y (.code y bytes maxY ret :: ALLW) rm (PcJ g sz x mm (.ref b :: As)) (QvJ g sz x' m') 0 0 (Ag sz)) (cw : CallW R s args own C0 idx y bytes maxY ret (.code y bytes maxY ret :: ALLW) rm 0 0 na) (hrec : ∀ (H : Heap) (locs : List Loc), Wd g x mm H → va_S (Ag sz) s.heap H locs → ∃ cellB : Cell, H[b]? = some cellB ∧ cellB.vm.isStatics = false ∧ s.vm.findClass C0 = some cellB.cls) (hna : As.length = na) (hcat : (rest.map fun v => v.category).sum ≤ 8) (hd : decode cc pc = .ok (.invokevirtual idx, 3)) (n : Nat) (hn : pc + 3 = n) (kk : Wj p l e R s m args below meth c Q nL g sz x' m' n lv rest) : Wj p l e R s m args below meth c Q nL g sz x mm pc lv (As.reverse ++ .ref b :: rest) := fun H locs ls hW hS hl => by
  subst hn
  exact va_callv (va_runV C.1 hM cw ⟨PcJ.blind g sz x mm _, hrec H locs hW hS, fun U hU hWm => ⟨rfl, by rw [hU]; exact C.2.go hS hWm, by rw [hU]; exact hW⟩⟩ rfl hna hl.1 rfl (lv_room hcat) hd ⟨Nat.zero_le _, Nat.zero_le _⟩) hS (fun _ _ h => h) (fun _ h => h) (fun u t H1 locs1 ht _ _ hB _ _ hS1 => by rw [ht] at hB; exact kk H1 locs1 ls hB hS1 hl)
theorem j_callVr {y : MethodName} {C0 : String} {b : Nat} {idx na maxY : Nat} {bytes : ByteArray} {ret : Option FieldType} {rm : Room} {r : Nat} {As rest : List Value} (C : Cx p m c cc nL s args own g sz) (hM : Met l y (.code y bytes maxY ret :: ALLW) rm (PcJ g sz x mm (.ref b :: As)) (QrJ g sz r x' m') 0 0 (Ag sz)) (cw : CallW R s args own C0 idx y bytes maxY ret (.code y bytes maxY ret :: ALLW) rm 0 0 na) (hrec : ∀ (H : Heap) (locs : List Loc), Wd g x mm H → va_S (Ag sz) s.heap H locs → ∃ cellB : Cell, H[b]? = some cellB ∧ cellB.vm.isStatics = false ∧ s.vm.findClass C0 = some cellB.cls) (hna : As.length = na) (hcat : (rest.map fun v => v.category).sum ≤ 8) (hd : decode cc pc = .ok (.invokevirtual idx, 3)) (n : Nat) (hn : pc + 3 = n) (kk : Wj p l e R s m args below meth c Q nL g sz x' m' n lv (.ref r :: rest)) : Wj p l e R s m args below meth c Q nL g sz x mm pc lv (As.reverse ++ .ref b :: rest) := fun H locs ls hW hS hl => by
  subst hn
  exact va_callr (va_runV C.1 hM cw ⟨PcJ.blind g sz x mm _, hrec H locs hW hS, fun U hU hWm => ⟨rfl, by rw [hU]; exact C.2.go hS hWm, by rw [hU]; exact hW⟩⟩ rfl hna hl.1 rfl (lv_room hcat) hd ⟨Nat.zero_le _, Nat.zero_le _⟩) hS (fun _ _ h => h) (fun _ h => h) (fun u a t H1 locs1 ht _ _ hB _ _ hS1 => by obtain ⟨rfl, hB⟩ := hB; rw [ht] at hB; exact kk H1 locs1 ls hB hS1 hl)
theorem j_callSi {y : MethodName} {idx na maxY : Nat} {bytes : ByteArray} {ret : Option FieldType} {rm : Room} {r : Int32} {As rest : List Value} (C : Cx p m c cc nL s args own g sz) (hM : Met l y (.code y bytes maxY ret :: ALLW) rm (PcJ g sz x mm As) (QiJ g sz r x' m') 0 0 (Ag sz)) (cw : CallB R s args own idx y bytes maxY ret (.code y bytes maxY ret :: ALLW) rm 0 0 na ∧ (Cond.static y).before args s = true) (hna : As.length = na) (hcat : (rest.map fun v => v.category).sum ≤ 8) (hd : decode cc pc = .ok (.invokestatic idx, 3)) (n : Nat) (hn : pc + 3 = n) (kk : Wj p l e R s m args below meth c Q nL g sz x' m' n lv (.int r :: rest)) : Wj p l e R s m args below meth c Q nL g sz x mm pc lv (As.reverse ++ rest) := fun H locs ls hW hS hl => by
  subst hn
  exact va_calli (va_runS C.1 hM cw ⟨PcJ.blind g sz x mm _, fun U hU hWm => ⟨rfl, by rw [hU]; exact C.2.go hS hWm, by rw [hU]; exact hW⟩⟩ rfl hna hl.1 rfl (lv_room hcat) hd ⟨Nat.zero_le _, Nat.zero_le _⟩) hS (fun _ _ h => h) (fun _ h => h) (fun r2 u t H1 locs1 ht _ hr hB _ _ hS1 => by subst hr; rw [ht] at hB; exact kk H1 locs1 ls hB hS1 hl)
theorem j_callSl {y : MethodName} {idx na maxY : Nat} {bytes : ByteArray} {ret : Option FieldType} {rm : Room} {r : Int64} {As rest : List Value} (C : Cx p m c cc nL s args own g sz) (hM : Met l y (.code y bytes maxY ret :: ALLW) rm (PcJ g sz x mm As) (QlJ g sz r x' m') 0 0 (Ag sz)) (cw : CallB R s args own idx y bytes maxY ret (.code y bytes maxY ret :: ALLW) rm 0 0 na ∧ (Cond.static y).before args s = true) (hna : As.length = na) (hcat : (rest.map fun v => v.category).sum ≤ 8) (hd : decode cc pc = .ok (.invokestatic idx, 3)) (n : Nat) (hn : pc + 3 = n) (kk : Wj p l e R s m args below meth c Q nL g sz x' m' n lv (.long r :: rest)) : Wj p l e R s m args below meth c Q nL g sz x mm pc lv (As.reverse ++ rest) := fun H locs ls hW hS hl => by
  subst hn
  exact va_calll (va_runS C.1 hM cw ⟨PcJ.blind g sz x mm _, fun U hU hWm => ⟨rfl, by rw [hU]; exact C.2.go hS hWm, by rw [hU]; exact hW⟩⟩ rfl hna hl.1 rfl (lv_room hcat) hd ⟨Nat.zero_le _, Nat.zero_le _⟩) hS (fun _ _ h => h) (fun _ h => h) (fun r2 u t H1 locs1 ht _ hr hB _ _ hS1 => by subst hr; rw [ht] at hB; exact kk H1 locs1 ls hB hS1 hl)
theorem j_callSv {y : MethodName} {idx na maxY : Nat} {bytes : ByteArray} {ret : Option FieldType} {rm : Room} {As rest : List Value} (C : Cx p m c cc nL s args own g sz) (hM : Met l y (.code y bytes maxY ret :: ALLW) rm (PcJ g sz x mm As) (QvJ g sz x' m') 0 0 (Ag sz)) (cw : CallB R s args own idx y bytes maxY ret (.code y bytes maxY ret :: ALLW) rm 0 0 na ∧ (Cond.static y).before args s = true) (hna : As.length = na) (hcat : (rest.map fun v => v.category).sum ≤ 8) (hd : decode cc pc = .ok (.invokestatic idx, 3)) (n : Nat) (hn : pc + 3 = n) (kk : Wj p l e R s m args below meth c Q nL g sz x' m' n lv rest) : Wj p l e R s m args below meth c Q nL g sz x mm pc lv (As.reverse ++ rest) := fun H locs ls hW hS hl => by
  subst hn
  exact va_callv (va_runS C.1 hM cw ⟨PcJ.blind g sz x mm _, fun U hU hWm => ⟨rfl, by rw [hU]; exact C.2.go hS hWm, by rw [hU]; exact hW⟩⟩ rfl hna hl.1 rfl (lv_room hcat) hd ⟨Nat.zero_le _, Nat.zero_le _⟩) hS (fun _ _ h => h) (fun _ h => h) (fun u t H1 locs1 ht _ _ hB _ _ hS1 => by rw [ht] at hB; exact kk H1 locs1 ls hB hS1 hl)
theorem j_callSr {y : MethodName} {idx na maxY : Nat} {bytes : ByteArray} {ret : Option FieldType} {rm : Room} {r : Nat} {As rest : List Value} (C : Cx p m c cc nL s args own g sz) (hM : Met l y (.code y bytes maxY ret :: ALLW) rm (PcJ g sz x mm As) (QrJ g sz r x' m') 0 0 (Ag sz)) (cw : CallB R s args own idx y bytes maxY ret (.code y bytes maxY ret :: ALLW) rm 0 0 na ∧ (Cond.static y).before args s = true) (hna : As.length = na) (hcat : (rest.map fun v => v.category).sum ≤ 8) (hd : decode cc pc = .ok (.invokestatic idx, 3)) (n : Nat) (hn : pc + 3 = n) (kk : Wj p l e R s m args below meth c Q nL g sz x' m' n lv (.ref r :: rest)) : Wj p l e R s m args below meth c Q nL g sz x mm pc lv (As.reverse ++ rest) := fun H locs ls hW hS hl => by
  subst hn
  exact va_callr (va_runS C.1 hM cw ⟨PcJ.blind g sz x mm _, fun U hU hWm => ⟨rfl, by rw [hU]; exact C.2.go hS hWm, by rw [hU]; exact hW⟩⟩ rfl hna hl.1 rfl (lv_room hcat) hd ⟨Nat.zero_le _, Nat.zero_le _⟩) hS (fun _ _ h => h) (fun _ h => h) (fun u a t H1 locs1 ht _ _ hB _ _ hS1 => by obtain ⟨rfl, hB⟩ := hB; rw [ht] at hB; exact kk H1 locs1 ls hB hS1 hl)
end JR
