/-! aux: rows that the generator uses beside the J rows -/
def FU : Nat := 1000
def irm (a b : Int32) : Int32 := a - a / b * b
def gsh (k : Nat) : Option Nat := if isSh k = true then some k else none
def gst (w : Nat) : Option Nat := if w < 11 then some w else none
def gne (a b : Nat) : Option Nat := if a = b then none else some a
theorem gsh_ok {k v : Nat} (h : gsh k = some v) : isSh k = true := by
  unfold gsh at h
  split at h
  · assumption
  · cases h
theorem gst_ok {k v : Nat} (h : gst k = some v) : k < 11 := by
  unfold gst at h
  split at h
  · assumption
  · cases h
theorem gne_ok {a b v : Nat} (h : gne a b = some v) : ¬ a = b := by
  unfold gne at h
  split at h
  · cases h
  · assumption
theorem stb_ok {q w : Nat} {i : Int32} (hq : isSA q = true) (h : rdn (alM q) (stb q) i = some w) : w < 11 := by
  obtain ⟨h1, h2⟩ := rdn_ok h
  have h3 : i.toNatClampNeg < alM q := Nat.not_le.mp fun z => h1 (Or.inr z)
  rcases (show q = 6 ∨ q = 7 by simpa [isSA] using hq) with rfl | rfl
  · rw [← h2]
    have : i.toNatClampNeg < 7 := h3
    show (if 6 = 6 then i.toNatClampNeg else 7 + i.toNatClampNeg) < 11
    rw [if_pos rfl]
    omega
  · rw [← h2]
    have : i.toNatClampNeg < 3 := h3
    show (if 7 = 6 then i.toNatClampNeg else 7 + i.toNatClampNeg) < 11
    rw [if_neg (by decide)]
    omega
def acp (x : St) (k1 k2 n1 n2 : Nat) (sp dp n : Int32) : Option St := if sp < 0 ∨ dp < 0 ∨ n < 0 ∨ n1 < sp.toNatClampNeg + n.toNatClampNeg ∨ n2 < dp.toNatClampNeg + n.toNatClampNeg then none else some (setr x k2 (va_cpy (x k1) (x k2) sp.toNatClampNeg dp.toNatClampNeg n.toNatClampNeg))
theorem acp_ok {x y : St} {k1 k2 n1 n2 : Nat} {sp dp n : Int32} (h : acp x k1 k2 n1 n2 sp dp n = some y) : ¬ sp < 0 ∧ ¬ dp < 0 ∧ ¬ n < 0 ∧ sp.toNatClampNeg + n.toNatClampNeg ≤ n1 ∧ dp.toNatClampNeg + n.toNatClampNeg ≤ n2 ∧ setr x k2 (va_cpy (x k1) (x k2) sp.toNatClampNeg dp.toNatClampNeg n.toNatClampNeg) = y := by
  unfold acp at h
  split at h
  · cases h
  · rename_i q
    exact ⟨fun z => q (Or.inl z), fun z => q (Or.inr (Or.inl z)), fun z => q (Or.inr (Or.inr (Or.inl z))), Nat.not_lt.mp fun z => q (Or.inr (Or.inr (Or.inr (Or.inl z)))), Nat.not_lt.mp fun z => q (Or.inr (Or.inr (Or.inr (Or.inr z)))), Option.some.inj h⟩
theorem sw_gen {a : Int32} (n : Nat) (hn : n < 100) (h : ∀ i : Nat, i ≤ n → ¬ a = nI i) : a.toInt < ((0 : Nat) : Int) ∨ ((n : Nat) : Int) < a.toInt := by
  by_cases h1 : a.toInt < ((0 : Nat) : Int)
  · exact Or.inl h1
  · right
    have h2 : ¬ a < 0 := fun q => h1 (by have := Int32.lt_iff_toInt_lt.mp q; simpa using this)
    obtain ⟨j, hj, rfl⟩ := nI_of h2
    rw [nI_toInt hj]
    rcases Nat.lt_or_ge n j with q | q
    · exact_mod_cast q
    · exact absurd rfl (h j q)
theorem sw_out2 {a : Int32} (h0 : ¬ a = 0) (h1 : ¬ a = 1) (h2 : ¬ a = 2) : a.toInt < 0 ∨ 2 < a.toInt := sw_gen 2 (by decide) (fun i hi => by
  rcases (show i = 0 ∨ i = 1 ∨ i = 2 by omega) with rfl | rfl | rfl <;> assumption)
theorem sw_out4 {a : Int32} (h0 : ¬ a = 0) (h1 : ¬ a = 1) (h2 : ¬ a = 2) (h3 : ¬ a = 3) (h4 : ¬ a = 4) : a.toInt < 0 ∨ 4 < a.toInt := sw_gen 4 (by decide) (fun i hi => by
  rcases (show i = 0 ∨ i = 1 ∨ i = 2 ∨ i = 3 ∨ i = 4 by omega) with rfl | rfl | rfl | rfl | rfl <;> assumption)
theorem sw_out5 {a : Int32} (h0 : ¬ a = 0) (h1 : ¬ a = 1) (h2 : ¬ a = 2) (h3 : ¬ a = 3) (h4 : ¬ a = 4) (h5 : ¬ a = 5) : a.toInt < 0 ∨ 5 < a.toInt := sw_gen 5 (by decide) (fun i hi => by
  rcases (show i = 0 ∨ i = 1 ∨ i = 2 ∨ i = 3 ∨ i = 4 ∨ i = 5 by omega) with rfl | rfl | rfl | rfl | rfl | rfl <;> assumption)
theorem sw_out6 {a : Int32} (h0 : ¬ a = 0) (h1 : ¬ a = 1) (h2 : ¬ a = 2) (h3 : ¬ a = 3) (h4 : ¬ a = 4) (h5 : ¬ a = 5) (h6 : ¬ a = 6) : a.toInt < 0 ∨ 6 < a.toInt := sw_gen 6 (by decide) (fun i hi => by
  rcases (show i = 0 ∨ i = 1 ∨ i = 2 ∨ i = 3 ∨ i = 4 ∨ i = 5 ∨ i = 6 by omega) with rfl | rfl | rfl | rfl | rfl | rfl | rfl <;> assumption)
theorem sw_out7 {a : Int32} (h0 : ¬ a = 0) (h1 : ¬ a = 1) (h2 : ¬ a = 2) (h3 : ¬ a = 3) (h4 : ¬ a = 4) (h5 : ¬ a = 5) (h6 : ¬ a = 6) (h7 : ¬ a = 7) : a.toInt < 0 ∨ 7 < a.toInt := sw_gen 7 (by decide) (fun i hi => by
  rcases (show i = 0 ∨ i = 1 ∨ i = 2 ∨ i = 3 ∨ i = 4 ∨ i = 5 ∨ i = 6 ∨ i = 7 by omega) with rfl | rfl | rfl | rfl | rfl | rfl | rfl | rfl <;> assumption)
theorem lk_gen {a : Int32} {b1 b2 D : Int} (h0 : ¬ a = 0) (h1 : ¬ a = 1) : Op.lookupswitch.offset [(0, b1), (1, b2)] D a.toInt = D := by
  have h2 : ¬ (0 : Int) = a.toInt := fun q => h0 (Int32.toInt_inj.mp q.symm)
  have h3 : ¬ (1 : Int) = a.toInt := fun q => h1 (Int32.toInt_inj.mp q.symm)
  simp [Op.lookupswitch.offset, h2, h3]
theorem sw_lk2 {a : Int32} (h0 : ¬ a = 0) (h1 : ¬ a = 1) : Op.lookupswitch.offset (#[((0 : Int), (27 : Int)), (1, 31)] : Array (Int × Int)).toList 35 a.toInt = 35 := lk_gen h0 h1
def J0_length (w : Nat) : Int32 := nI (skL.getD w 0)
def J0_charAt (w : Nat) (i : Int32) : Option Int32 := rdc (skL.getD w 0) (fun j => (skB.getD w []).getD j 0) i
def mxI (x y : Int32) : Int32 := if x < y then y else x
def mnI (x y : Int32) : Int32 := if y < x then y else x
section AR
variable {p : Program} {l : Launch} {e : Env} {R : Room} {s : State} {m : MethodId} {args : Array Value} {below : List Frame} {meth : Method} {c : Code} {Q : State → Prop} {cc : ByteArray} {nL : Nat} {own : String} {g : GG} {sz : Nat} {x mm S : St} {pc : Nat} {lv : List (Nat × Value)} {st : List Value}
theorem j_idivc (C : Cx p m c cc nL s args own g sz) {a b : Int32} (hd : decode cc pc = .ok (.idiv, 1)) (hb : ¬ b = 0) (n : Nat) (hn : pc + 1 = n) (kk : Wj p l e R s m args below meth c Q nL g sz x mm n lv (.int (a / b) :: st)) : Wj p l e R s m args below meth c Q nL g sz x mm pc lv (.int b :: .int a :: st) := j_idiv C hd (by unfold dvn; rw [if_neg hb]) n hn kk
theorem j_iremc (C : Cx p m c cc nL s args own g sz) {a b : Int32} (hd : decode cc pc = .ok (.irem, 1)) (hb : ¬ b = 0) (n : Nat) (hn : pc + 1 = n) (kk : Wj p l e R s m args below meth c Q nL g sz x mm n lv (.int (irm a b) :: st)) : Wj p l e R s m args below meth c Q nL g sz x mm pc lv (.int b :: .int a :: st) := j_irem C hd (by unfold rmn; rw [if_neg hb]; rfl) n hn kk
theorem w_ldcwS {H : Heap} {locs : List Loc} {cells slots : Nat} {ls : Array Slot} (hexec : p.tables.exec = Jvm.exec) (hb : c.code = cc) {tx : String} {index q : Nat} (hown : s.vm.findClass own = some m.cls) (hZ : vk_R own index tx q s) (hdg : decode cc pc = .ok (.ldc_w index, 3))
    (k : W p l e R s m args below meth c H locs cells slots Q (F0 m (pc + 3) ls (.ref q :: st))) : W p l e R s m args below meth c H locs cells slots Q (F0 m pc ls st) := by
  intro T hT X
  obtain ⟨t, a1, b1⟩ := k T hT X
  refine ⟨t, ?_, b1⟩
  obtain ⟨k0, cf, i, a', hk, hcf, hcp, -, hr, hev'⟩ := Cond.stringRef_spec hown hZ.1
  cases hZ.2.symm.trans hev'
  obtain ⟨k', hk', he⟩ := X.warmed.alike.2.2 _ _ hk
  have hr' : k'.resolved[index]? = some (some (.string q)) := by
    rcases X.warmed.entry hk hk' index with h | ⟨h, -⟩
    · rw [h]; exact hr
    · rw [hr] at h; cases h
  subst hb
  jvm_step X.here [hexec, hdg, ldc_w.wp_string (e := e) (s := T) (f := F0 m pc ls st) X.here.top hk' (by rw [he]; exact hcf) hcp hr']
  exact a1
theorem j_ldcwS (C : Cx p m c cc nL s args own g sz) {tx : String} {idx q : Nat} (hZ : vk_R own idx tx q s) (hd : decode cc pc = .ok (.ldc_w idx, 3)) (n : Nat) (hn : pc + 3 = n) (kk : Wj p l e R s m args below meth c Q nL g sz x mm n lv (.ref q :: st)) : Wj p l e R s m args below meth c Q nL g sz x mm pc lv st := fun H locs ls hW hS hl => by
  subst hn
  exact w_ldcwS C.1.1 C.1.2.1 C.1.2.2.2.1 hZ hd (kk H locs ls hW hS hl)
theorem j_acopy {x2 m2 : St} (C : Cx p m c cc nL s args own g sz) (k1 k2 : Nat) (hk1 : k1 < 70) (hk2 : k2 < 70) {n1 n2 : Nat} {f h : Nat → Int32} (he1 : ent g x mm k1 = .inl (g.2.1 0, n1, .inl f)) (he2 : ent g x mm k2 = .inl (g.2.1 0, n2, .inl h)) {idx : Nat} (hlink : Cond.methodLink own idx arraycopyName ∈ ALLW) (hnat : Cond.native arraycopyName ∈ ALLW) (hstt : Cond.static arraycopyName ∈ ALLW) (hini : Cond.initialized "java/lang/System" ∈ ALLW)
    {sp dp n : Int32} (h1 : ¬ sp < 0) (h2 : ¬ dp < 0) (h3 : ¬ n < 0) (h4 : sp.toNatClampNeg + n.toNatClampNeg ≤ n1) (h5 : dp.toNatClampNeg + n.toNatClampNeg ≤ n2) (hfr : 1 ≤ R.frames) (hlo : (st.map fun v => v.category).sum + (nativeFrameWords "java/lang/System" "arraycopy" 5 + 11) ≤ R.locals)
    (he3 : ent g x2 m2 k2 = .inl (g.2.1 0, n2, .inl (va_cpy f h sp.toNatClampNeg dp.toNatClampNeg n.toNatClampNeg))) (ho : ∀ q, q ≠ k2 → ent g x2 m2 q = ent g x mm q) (hd : decode cc pc = .ok (.invokestatic idx, 3)) (n0 : Nat) (hn : pc + 3 = n0) (kk : Wj p l e R s m args below meth c Q nL g sz x2 m2 n0 lv st) : Wj p l e R s m args below meth c Q nL g sz x mm pc lv (.int n :: .int dp :: .ref (ad g k2) :: .int sp :: .ref (ad g k1) :: st) := fun H locs ls hW hS hl => by
  subst hn
  refine va_copyi C.1.1 C.1.2.1 (C.1.2.2.1.trans hl.1.symm) C.1.2.2.2.1 (C.1.2.2.2.2 _ hlink) (C.1.2.2.2.2 _ hnat) (C.1.2.2.2.2 _ hstt) (C.1.2.2.2.2 _ hini) C.2.1.1 hW (C.2.D _) hS k1 k2 0 0 (by rw [wl_get hk1, he1]) (by rw [wl_get hk2, he2]) rfl rfl rfl h1 h2 h3 h4 h5 (fun _ _ => rfl) hfr hlo hd (fun H1 locs1 hP1 hD1 hS1 => ?_)
  rw [wl_set he3 ho] at hP1
  exact kk H1 locs1 ls hP1 hS1 hl
theorem j3_acopy {k1 k2 : Nat} (hk1 : isSt k1 = true) (hk2 : isSt k2 = true) {x2 : St} (C : Cx p m c cc nL s args own g sz) {idx : Nat} (hlink : Cond.methodLink own idx arraycopyName ∈ ALLW) (hnat : Cond.native arraycopyName ∈ ALLW) (hstt : Cond.static arraycopyName ∈ ALLW) (hini : Cond.initialized "java/lang/System" ∈ ALLW) {sp dp n : Int32} (hv : acp x (k1 + 1) (k2 + 1) 40 40 sp dp n = some x2) (hfr : 1 ≤ R.frames) (hlo : (st.map fun v => v.category).sum + (nativeFrameWords "java/lang/System" "arraycopy" 5 + 11) ≤ R.locals) (hd : decode cc pc = .ok (.invokestatic idx, 3)) (n0 : Nat) (hn : pc + 3 = n0) (kk : Wj p l e R s m args below meth c Q nL g sz x2 mm n0 lv st) : Wj p l e R s m args below meth c Q nL g sz x mm pc lv (.int n :: .int dp :: .ref (ad g (k2 + 1)) :: .int sp :: .ref (ad g (k1 + 1)) :: st) := by
  obtain ⟨h1, h2, h3, h4, h5, h6⟩ := acp_ok hv
  subst h6
  exact j_acopy C (k1 + 1) (k2 + 1) (ent_sta (g := g) (x := x) (mm := mm) hk1).1 (ent_sta (g := g) (x := x) (mm := mm) hk2).1 (ent_sta hk1).2 (ent_sta hk2).2 hlink hnat hstt hini h1 h2 h3 h4 h5 hfr hlo (by rw [(ent_sta hk2).2, setr_same]) (fun q hq => ent_x (setr_other _ _ hq)) hd n0 hn kk
theorem j_mmax (C : Cx p m c cc nL s args own g sz) {idx : Nat} (hlink : Cond.methodLink own idx yJ9_max_7cf53 ∈ ALLW) {a b : Int32} (hd : decode cc pc = .ok (.invokestatic idx, 3)) (hfr : 1 ≤ R.frames) (hlo : (st.map fun v => v.category).sum + 13 ≤ R.locals) (n : Nat) (hn : pc + 3 = n) (kk : Wj p l e R s m args below meth c Q nL g sz x mm n lv (.int (mxI a b) :: st)) : Wj p l e R s m args below meth c Q nL g sz x mm pc lv (.int b :: .int a :: st) := fun H locs ls hW hS hl => by
  subst hn
  exact va_mmax C.1.1 C.1.2.1 (C.1.2.2.1.trans hl.1.symm) C.1.2.2.2.1 (C.1.2.2.2.2 _ hlink) (C.1.2.2.2.2 _ qs_J9_max_7cf53) (C.1.2.2.2.2 _ qn_J9) (C.1.2.2.2.2 _ qc_J9_max_7cf53) hfr hlo (Nat.zero_le _) (Nat.zero_le _) hd (kk H locs ls hW hS hl)
theorem j_mmin (C : Cx p m c cc nL s args own g sz) {idx : Nat} (hlink : Cond.methodLink own idx yJ9_min_7cf53 ∈ ALLW) {a b : Int32} (hd : decode cc pc = .ok (.invokestatic idx, 3)) (hfr : 1 ≤ R.frames) (hlo : (st.map fun v => v.category).sum + 13 ≤ R.locals) (n : Nat) (hn : pc + 3 = n) (kk : Wj p l e R s m args below meth c Q nL g sz x mm n lv (.int (mnI a b) :: st)) : Wj p l e R s m args below meth c Q nL g sz x mm pc lv (.int b :: .int a :: st) := fun H locs ls hW hS hl => by
  subst hn
  exact va_mmin C.1.1 C.1.2.1 (C.1.2.2.1.trans hl.1.symm) C.1.2.2.2.1 (C.1.2.2.2.2 _ hlink) (C.1.2.2.2.2 _ qs_J9_min_7cf53) (C.1.2.2.2.2 _ qn_J9) (C.1.2.2.2.2 _ qc_J9_min_7cf53) hfr hlo (Nat.zero_le _) (Nat.zero_le _) hd (kk H locs ls hW hS hl)
end AR
/-! constants, heads, switches, looks -/
theorem c_bipush_m99 : (Int8.ofInt (-99)).toInt32 = (-99) := by decide +kernel
theorem c_bipush_6 : (Int8.ofInt 6).toInt32 = 6 := by decide +kernel
theorem c_bipush_7 : (Int8.ofInt 7).toInt32 = 7 := by decide +kernel
theorem c_bipush_8 : (Int8.ofInt 8).toInt32 = 8 := by decide +kernel
theorem c_bipush_9 : (Int8.ofInt 9).toInt32 = 9 := by decide +kernel
theorem c_bipush_10 : (Int8.ofInt 10).toInt32 = 10 := by decide +kernel
theorem c_bipush_11 : (Int8.ofInt 11).toInt32 = 11 := by decide +kernel
theorem c_bipush_12 : (Int8.ofInt 12).toInt32 = 12 := by decide +kernel
theorem c_bipush_16 : (Int8.ofInt 16).toInt32 = 16 := by decide +kernel
theorem c_bipush_17 : (Int8.ofInt 17).toInt32 = 17 := by decide +kernel
theorem c_bipush_20 : (Int8.ofInt 20).toInt32 = 20 := by decide +kernel
theorem c_bipush_24 : (Int8.ofInt 24).toInt32 = 24 := by decide +kernel
theorem c_bipush_25 : (Int8.ofInt 25).toInt32 = 25 := by decide +kernel
theorem c_bipush_32 : (Int8.ofInt 32).toInt32 = 32 := by decide +kernel
theorem c_bipush_40 : (Int8.ofInt 40).toInt32 = 40 := by decide +kernel
theorem c_bipush_41 : (Int8.ofInt 41).toInt32 = 41 := by decide +kernel
theorem c_bipush_42 : (Int8.ofInt 42).toInt32 = 42 := by decide +kernel
theorem c_bipush_48 : (Int8.ofInt 48).toInt32 = 48 := by decide +kernel
theorem c_bipush_49 : (Int8.ofInt 49).toInt32 = 49 := by decide +kernel
theorem c_bipush_50 : (Int8.ofInt 50).toInt32 = 50 := by decide +kernel
theorem c_bipush_57 : (Int8.ofInt 57).toInt32 = 57 := by decide +kernel
theorem c_bipush_59 : (Int8.ofInt 59).toInt32 = 59 := by decide +kernel
theorem c_bipush_60 : (Int8.ofInt 60).toInt32 = 60 := by decide +kernel
theorem c_bipush_63 : (Int8.ofInt 63).toInt32 = 63 := by decide +kernel
theorem c_bipush_65 : (Int8.ofInt 65).toInt32 = 65 := by decide +kernel
theorem c_bipush_97 : (Int8.ofInt 97).toInt32 = 97 := by decide +kernel
theorem c_bipush_100 : (Int8.ofInt 100).toInt32 = 100 := by decide +kernel
theorem c_bipush_101 : (Int8.ofInt 101).toInt32 = 101 := by decide +kernel
theorem c_bipush_102 : (Int8.ofInt 102).toInt32 = 102 := by decide +kernel
theorem c_bipush_107 : (Int8.ofInt 107).toInt32 = 107 := by decide +kernel
theorem c_bipush_120 : (Int8.ofInt 120).toInt32 = 120 := by decide +kernel
theorem c_bipush_122 : (Int8.ofInt 122).toInt32 = 122 := by decide +kernel
theorem c_iconst_m1 : Int32.ofInt (-1) = (-1) := by decide +kernel
theorem c_iconst_0 : Int32.ofInt 0 = 0 := by decide +kernel
theorem c_iconst_1 : Int32.ofInt 1 = 1 := by decide +kernel
theorem c_iconst_2 : Int32.ofInt 2 = 2 := by decide +kernel
theorem c_iconst_3 : Int32.ofInt 3 = 3 := by decide +kernel
theorem c_iconst_4 : Int32.ofInt 4 = 4 := by decide +kernel
theorem c_iconst_5 : Int32.ofInt 5 = 5 := by decide +kernel
theorem c_oi_m1 : Int32.ofInt (-1) = (-1) := by decide +kernel
theorem c_oi_1 : Int32.ofInt 1 = 1 := by decide +kernel
theorem c_oi_6 : Int32.ofInt 6 = 6 := by decide +kernel
theorem c_sipush_255 : (Int16.ofInt 255).toInt32 = 255 := by decide +kernel
theorem c_sipush_275 : (Int16.ofInt 275).toInt32 = 275 := by decide +kernel
theorem c_sipush_343 : (Int16.ofInt 343).toInt32 = 343 := by decide +kernel
theorem c_sipush_999 : (Int16.ofInt 999).toInt32 = 999 := by decide +kernel
theorem c_sipush_9900 : (Int16.ofInt 9900).toInt32 = 9900 := by decide +kernel
theorem c_sipush_9930 : (Int16.ofInt 9930).toInt32 = 9930 := by decide +kernel
theorem c_sipush_9939 : (Int16.ofInt 9939).toInt32 = 9939 := by decide +kernel
theorem c_sipush_9999 : (Int16.ofInt 9999).toInt32 = 9999 := by decide +kernel
theorem c_sipush_10000 : (Int16.ofInt 10000).toInt32 = 10000 := by decide +kernel
theorem c_sipush_12345 : (Int16.ofInt 12345).toInt32 = 12345 := by decide +kernel
theorem hd_J0_charAt_5068e : HdJ yJ0_charAt_5068e RJ0 1 := ⟨rfl, by decide +kernel, by decide +kernel, by decide +kernel⟩
theorem hd_J0_length_8abf5 : HdJ yJ0_length_8abf5 RJ0 0 := ⟨rfl, by decide +kernel, by decide +kernel, by decide +kernel⟩
theorem hd_J6_bitCount_0f7a4 : HdJ yJ6_bitCount_0f7a4 RJ6 1 := ⟨rfl, by decide +kernel, by decide +kernel, by decide +kernel⟩
theorem hd_X0_hasFrom : HdJ yX0_hasFrom RX0 2 := ⟨rfl, by decide +kernel, by decide +kernel, by decide +kernel⟩
theorem hd_X0_put : HdJ yX0_put RX0 2 := ⟨rfl, by decide +kernel, by decide +kernel, by decide +kernel⟩
theorem hd_X0_renew : HdJ yX0_renew RX0 2 := ⟨rfl, by decide +kernel, by decide +kernel, by decide +kernel⟩
theorem hd_X1_advance : HdJ yX1_advance RX1 1 := ⟨rfl, by decide +kernel, by decide +kernel, by decide +kernel⟩
theorem hd_X1_become : HdJ yX1_become RX1 1 := ⟨rfl, by decide +kernel, by decide +kernel, by decide +kernel⟩
theorem hd_X1_bitsAt : HdJ yX1_bitsAt RX1 1 := ⟨rfl, by decide +kernel, by decide +kernel, by decide +kernel⟩
theorem hd_X1_bitsOnShelf : HdJ yX1_bitsOnShelf RX1 0 := ⟨rfl, by decide +kernel, by decide +kernel, by decide +kernel⟩
theorem hd_X1_depthOf : HdJ yX1_depthOf RX1 1 := ⟨rfl, by decide +kernel, by decide +kernel, by decide +kernel⟩
theorem hd_X1_draw : HdJ yX1_draw RX1 0 := ⟨rfl, by decide +kernel, by decide +kernel, by decide +kernel⟩
theorem hd_X1_gain : HdJ yX1_gain RX1 0 := ⟨rfl, by decide +kernel, by decide +kernel, by decide +kernel⟩
theorem hd_X1_goOver : HdJ yX1_goOver RX1 2 := ⟨rfl, by decide +kernel, by decide +kernel, by decide +kernel⟩
theorem hd_X1_goneOver : HdJ yX1_goneOver RX1 0 := ⟨rfl, by decide +kernel, by decide +kernel, by decide +kernel⟩
theorem hd_X1_hasRoom : HdJ yX1_hasRoom RX1 1 := ⟨rfl, by decide +kernel, by decide +kernel, by decide +kernel⟩
theorem hd_X1_highest : HdJ yX1_highest RX1 0 := ⟨rfl, by decide +kernel, by decide +kernel, by decide +kernel⟩
theorem hd_X1_isOnShelf : HdJ yX1_isOnShelf RX1 1 := ⟨rfl, by decide +kernel, by decide +kernel, by decide +kernel⟩
theorem hd_X1_leans : HdJ yX1_leans RX1 1 := ⟨rfl, by decide +kernel, by decide +kernel, by decide +kernel⟩
theorem hd_X1_leastInHand : HdJ yX1_leastInHand RX1 0 := ⟨rfl, by decide +kernel, by decide +kernel, by decide +kernel⟩
theorem hd_X1_manySpotsHeld : HdJ yX1_manySpotsHeld RX1 0 := ⟨rfl, by decide +kernel, by decide +kernel, by decide +kernel⟩
theorem hd_X1_manyStacks : HdJ yX1_manyStacks RX1 0 := ⟨rfl, by decide +kernel, by decide +kernel, by decide +kernel⟩
theorem hd_X1_mint : HdJ yX1_mint RX1 1 := ⟨rfl, by decide +kernel, by decide +kernel, by decide +kernel⟩
theorem hd_X1_passBeat : HdJ yX1_passBeat RX1 0 := ⟨rfl, by decide +kernel, by decide +kernel, by decide +kernel⟩
theorem hd_X1_pull : HdJ yX1_pull RX1 1 := ⟨rfl, by decide +kernel, by decide +kernel, by decide +kernel⟩
theorem hd_X1_pushAll : HdJ yX1_pushAll RX1 0 := ⟨rfl, by decide +kernel, by decide +kernel, by decide +kernel⟩
theorem hd_X1_pushMoves : HdJ yX1_pushMoves RX1 1 := ⟨rfl, by decide +kernel, by decide +kernel, by decide +kernel⟩
theorem hd_X1_pushRun : HdJ yX1_pushRun RX1 1 := ⟨rfl, by decide +kernel, by decide +kernel, by decide +kernel⟩
theorem hd_X1_put : HdJ yX1_put RX1 2 := ⟨rfl, by decide +kernel, by decide +kernel, by decide +kernel⟩
theorem hd_X1_release : HdJ yX1_release RX1 2 := ⟨rfl, by decide +kernel, by decide +kernel, by decide +kernel⟩
theorem hd_X1_runRows : HdJ yX1_runRows RX1 1 := ⟨rfl, by decide +kernel, by decide +kernel, by decide +kernel⟩
theorem hd_X1_runWeight : HdJ yX1_runWeight RX1 1 := ⟨rfl, by decide +kernel, by decide +kernel, by decide +kernel⟩
theorem hd_X1_shake : HdJ yX1_shake RX1 0 := ⟨rfl, by decide +kernel, by decide +kernel, by decide +kernel⟩
theorem hd_X1_slideAll : HdJ yX1_slideAll RX1 0 := ⟨rfl, by decide +kernel, by decide +kernel, by decide +kernel⟩
theorem hd_X1_slideTop : HdJ yX1_slideTop RX1 1 := ⟨rfl, by decide +kernel, by decide +kernel, by decide +kernel⟩
theorem hd_X1_toldPlace : HdJ yX1_toldPlace RX1 1 := ⟨rfl, by decide +kernel, by decide +kernel, by decide +kernel⟩
theorem hd_X1_topSlides : HdJ yX1_topSlides RX1 1 := ⟨rfl, by decide +kernel, by decide +kernel, by decide +kernel⟩
theorem hd_X1_worthAt : HdJ yX1_worthAt RX1 1 := ⟨rfl, by decide +kernel, by decide +kernel, by decide +kernel⟩
theorem hd_X1_worthOf : HdJ yX1_worthOf RX1 1 := ⟨rfl, by decide +kernel, by decide +kernel, by decide +kernel⟩
theorem hd_X2_append : HdJ yX2_append RX2 1 := ⟨rfl, by decide +kernel, by decide +kernel, by decide +kernel⟩
theorem hd_X2_isDigit : HdJ yX2_isDigit RX2 1 := ⟨rfl, by decide +kernel, by decide +kernel, by decide +kernel⟩
theorem hd_X2_isLetter : HdJ yX2_isLetter RX2 1 := ⟨rfl, by decide +kernel, by decide +kernel, by decide +kernel⟩
theorem hd_X2_isWord : HdJ yX2_isWord RX2 1 := ⟨rfl, by decide +kernel, by decide +kernel, by decide +kernel⟩
theorem hd_X2_next : HdJ yX2_next RX2 0 := ⟨rfl, by decide +kernel, by decide +kernel, by decide +kernel⟩
theorem hd_X2_readNumber : HdJ yX2_readNumber RX2 0 := ⟨rfl, by decide +kernel, by decide +kernel, by decide +kernel⟩
theorem hd_X2_readWord : HdJ yX2_readWord RX2 0 := ⟨rfl, by decide +kernel, by decide +kernel, by decide +kernel⟩
theorem hd_X2_rewind : HdJ yX2_rewind RX2 0 := ⟨rfl, by decide +kernel, by decide +kernel, by decide +kernel⟩
theorem hd_X3_canDrop : HdJ yX3_canDrop RX3 1 := ⟨rfl, by decide +kernel, by decide +kernel, by decide +kernel⟩
theorem hd_X3_cellOf : HdJ yX3_cellOf RX3 2 := ⟨rfl, by decide +kernel, by decide +kernel, by decide +kernel⟩
theorem hd_X3_columnOf : HdJ yX3_columnOf RX3 3 := ⟨rfl, by decide +kernel, by decide +kernel, by decide +kernel⟩
theorem hd_X3_found : HdJ yX3_found RX3 1 := ⟨rfl, by decide +kernel, by decide +kernel, by decide +kernel⟩
theorem hd_X3_gainBy : HdJ yX3_gainBy RX3 4 := ⟨rfl, by decide +kernel, by decide +kernel, by decide +kernel⟩
theorem hd_X3_gainOfThree : HdJ yX3_gainOfThree RX3 2 := ⟨rfl, by decide +kernel, by decide +kernel, by decide +kernel⟩
theorem hd_X3_isCell : HdJ yX3_isCell RX3 2 := ⟨rfl, by decide +kernel, by decide +kernel, by decide +kernel⟩
theorem hd_X3_isCoin : HdJ yX3_isCoin RX3 1 := ⟨rfl, by decide +kernel, by decide +kernel, by decide +kernel⟩
theorem hd_X3_isColumn : HdJ yX3_isColumn RX3 1 := ⟨rfl, by decide +kernel, by decide +kernel, by decide +kernel⟩
theorem hd_X3_isKind : HdJ yX3_isKind RX3 1 := ⟨rfl, by decide +kernel, by decide +kernel, by decide +kernel⟩
theorem hd_X3_isSearched : HdJ yX3_isSearched RX3 1 := ⟨rfl, by decide +kernel, by decide +kernel, by decide +kernel⟩
theorem hd_X3_isSetting : HdJ yX3_isSetting RX3 2 := ⟨rfl, by decide +kernel, by decide +kernel, by decide +kernel⟩
theorem hd_X3_isSheet : HdJ yX3_isSheet RX3 1 := ⟨rfl, by decide +kernel, by decide +kernel, by decide +kernel⟩
theorem hd_X3_isUnder : HdJ yX3_isUnder RX3 2 := ⟨rfl, by decide +kernel, by decide +kernel, by decide +kernel⟩
theorem hd_X3_isWidth : HdJ yX3_isWidth RX3 1 := ⟨rfl, by decide +kernel, by decide +kernel, by decide +kernel⟩
theorem hd_X3_kindWord : HdJ yX3_kindWord RX3 1 := ⟨rfl, by decide +kernel, by decide +kernel, by decide +kernel⟩
theorem hd_X3_passesEnd : HdJ yX3_passesEnd RX3 1 := ⟨rfl, by decide +kernel, by decide +kernel, by decide +kernel⟩
theorem hd_X3_readCoin : HdJ yX3_readCoin RX3 2 := ⟨rfl, by decide +kernel, by decide +kernel, by decide +kernel⟩
theorem hd_X3_readItem : HdJ yX3_readItem RX3 1 := ⟨rfl, by decide +kernel, by decide +kernel, by decide +kernel⟩
theorem hd_X3_readSetting : HdJ yX3_readSetting RX3 2 := ⟨rfl, by decide +kernel, by decide +kernel, by decide +kernel⟩
theorem hd_X3_readText : HdJ yX3_readText RX3 1 := ⟨rfl, by decide +kernel, by decide +kernel, by decide +kernel⟩
theorem hd_X3_settingWord : HdJ yX3_settingWord RX3 1 := ⟨rfl, by decide +kernel, by decide +kernel, by decide +kernel⟩
theorem hd_X3_soonestWay : HdJ yX3_soonestWay RX3 1 := ⟨rfl, by decide +kernel, by decide +kernel, by decide +kernel⟩
theorem hd_X3_walk : HdJ yX3_walk RX3 2 := ⟨rfl, by decide +kernel, by decide +kernel, by decide +kernel⟩
theorem hd_X3_within : HdJ yX3_within RX3 3 := ⟨rfl, by decide +kernel, by decide +kernel, by decide +kernel⟩
theorem hd_X4_above : HdJ yX4_above RX4 1 := ⟨rfl, by decide +kernel, by decide +kernel, by decide +kernel⟩
theorem hd_X4_beat : HdJ yX4_beat RX4 0 := ⟨rfl, by decide +kernel, by decide +kernel, by decide +kernel⟩
theorem hd_X4_beatsGo : HdJ yX4_beatsGo RX4 1 := ⟨rfl, by decide +kernel, by decide +kernel, by decide +kernel⟩
theorem hd_X4_become : HdJ yX4_become RX4 2 := ⟨rfl, by decide +kernel, by decide +kernel, by decide +kernel⟩
theorem hd_X4_bestWay : HdJ yX4_bestWay RX4 3 := ⟨rfl, by decide +kernel, by decide +kernel, by decide +kernel⟩
theorem hd_X4_bits : HdJ yX4_bits RX4 1 := ⟨rfl, by decide +kernel, by decide +kernel, by decide +kernel⟩
theorem hd_X4_byteAt : HdJ yX4_byteAt RX4 1 := ⟨rfl, by decide +kernel, by decide +kernel, by decide +kernel⟩
theorem hd_X4_cellOf : HdJ yX4_cellOf RX4 2 := ⟨rfl, by decide +kernel, by decide +kernel, by decide +kernel⟩
theorem hd_X4_coinAt : HdJ yX4_coinAt RX4 2 := ⟨rfl, by decide +kernel, by decide +kernel, by decide +kernel⟩
theorem hd_X4_columnOf : HdJ yX4_columnOf RX4 3 := ⟨rfl, by decide +kernel, by decide +kernel, by decide +kernel⟩
theorem hd_X4_comesOn : HdJ yX4_comesOn RX4 2 := ⟨rfl, by decide +kernel, by decide +kernel, by decide +kernel⟩
theorem hd_X4_copyRow : HdJ yX4_copyRow RX4 2 := ⟨rfl, by decide +kernel, by decide +kernel, by decide +kernel⟩
theorem hd_X4_cutTo : HdJ yX4_cutTo RX4 2 := ⟨rfl, by decide +kernel, by decide +kernel, by decide +kernel⟩
theorem hd_X4_drawn : HdJ yX4_drawn RX4 1 := ⟨rfl, by decide +kernel, by decide +kernel, by decide +kernel⟩
theorem hd_X4_dropped : HdJ yX4_dropped RX4 2 := ⟨rfl, by decide +kernel, by decide +kernel, by decide +kernel⟩
theorem hd_X4_dropsBy : HdJ yX4_dropsBy RX4 2 := ⟨rfl, by decide +kernel, by decide +kernel, by decide +kernel⟩
theorem hd_X4_findSoonest : HdJ yX4_findSoonest RX4 1 := ⟨rfl, by decide +kernel, by decide +kernel, by decide +kernel⟩
theorem hd_X4_finding : HdJ yX4_finding RX4 1 := ⟨rfl, by decide +kernel, by decide +kernel, by decide +kernel⟩
theorem hd_X4_gain : HdJ yX4_gain RX4 0 := ⟨rfl, by decide +kernel, by decide +kernel, by decide +kernel⟩
theorem hd_X4_gainBy : HdJ yX4_gainBy RX4 4 := ⟨rfl, by decide +kernel, by decide +kernel, by decide +kernel⟩
theorem hd_X4_goesOn : HdJ yX4_goesOn RX4 2 := ⟨rfl, by decide +kernel, by decide +kernel, by decide +kernel⟩
theorem hd_X4_goesOver : HdJ yX4_goesOver RX4 2 := ⟨rfl, by decide +kernel, by decide +kernel, by decide +kernel⟩
theorem hd_X4_highOf : HdJ yX4_highOf RX4 1 := ⟨rfl, by decide +kernel, by decide +kernel, by decide +kernel⟩
theorem hd_X4_highest : HdJ yX4_highest RX4 0 := ⟨rfl, by decide +kernel, by decide +kernel, by decide +kernel⟩
theorem hd_X4_isCell : HdJ yX4_isCell RX4 2 := ⟨rfl, by decide +kernel, by decide +kernel, by decide +kernel⟩
theorem hd_X4_isCoin : HdJ yX4_isCoin RX4 1 := ⟨rfl, by decide +kernel, by decide +kernel, by decide +kernel⟩
theorem hd_X4_isColumn : HdJ yX4_isColumn RX4 1 := ⟨rfl, by decide +kernel, by decide +kernel, by decide +kernel⟩
theorem hd_X4_isInHand : HdJ yX4_isInHand RX4 1 := ⟨rfl, by decide +kernel, by decide +kernel, by decide +kernel⟩
theorem hd_X4_isKind : HdJ yX4_isKind RX4 1 := ⟨rfl, by decide +kernel, by decide +kernel, by decide +kernel⟩
theorem hd_X4_isLeaning : HdJ yX4_isLeaning RX4 2 := ⟨rfl, by decide +kernel, by decide +kernel, by decide +kernel⟩
theorem hd_X4_isMoved : HdJ yX4_isMoved RX4 1 := ⟨rfl, by decide +kernel, by decide +kernel, by decide +kernel⟩
theorem hd_X4_isOnShelf : HdJ yX4_isOnShelf RX4 1 := ⟨rfl, by decide +kernel, by decide +kernel, by decide +kernel⟩
theorem hd_X4_isSheet : HdJ yX4_isSheet RX4 1 := ⟨rfl, by decide +kernel, by decide +kernel, by decide +kernel⟩
theorem hd_X4_isSo : HdJ yX4_isSo RX4 2 := ⟨rfl, by decide +kernel, by decide +kernel, by decide +kernel⟩
theorem hd_X4_isSpot : HdJ yX4_isSpot RX4 1 := ⟨rfl, by decide +kernel, by decide +kernel, by decide +kernel⟩
theorem hd_X4_isTooLate : HdJ yX4_isTooLate RX4 1 := ⟨rfl, by decide +kernel, by decide +kernel, by decide +kernel⟩
theorem hd_X4_isUnder : HdJ yX4_isUnder RX4 2 := ⟨rfl, by decide +kernel, by decide +kernel, by decide +kernel⟩
theorem hd_X4_isWord : HdJ yX4_isWord RX4 1 := ⟨rfl, by decide +kernel, by decide +kernel, by decide +kernel⟩
theorem hd_X4_item : HdJ yX4_item RX4 2 := ⟨rfl, by decide +kernel, by decide +kernel, by decide +kernel⟩
theorem hd_X4_jolt : HdJ yX4_jolt RX4 0 := ⟨rfl, by decide +kernel, by decide +kernel, by decide +kernel⟩
theorem hd_X4_kindOf : HdJ yX4_kindOf RX4 1 := ⟨rfl, by decide +kernel, by decide +kernel, by decide +kernel⟩
theorem hd_X4_leastInHand : HdJ yX4_leastInHand RX4 0 := ⟨rfl, by decide +kernel, by decide +kernel, by decide +kernel⟩
theorem hd_X4_must : HdJ yX4_must RX4 1 := ⟨rfl, by decide +kernel, by decide +kernel, by decide +kernel⟩
theorem hd_X4_next : HdJ yX4_next RX4 0 := ⟨rfl, by decide +kernel, by decide +kernel, by decide +kernel⟩
theorem hd_X4_number : HdJ yX4_number RX4 2 := ⟨rfl, by decide +kernel, by decide +kernel, by decide +kernel⟩
theorem hd_X4_putBack : HdJ yX4_putBack RX4 1 := ⟨rfl, by decide +kernel, by decide +kernel, by decide +kernel⟩
theorem hd_X4_readCell : HdJ yX4_readCell RX4 0 := ⟨rfl, by decide +kernel, by decide +kernel, by decide +kernel⟩
theorem hd_X4_readItem : HdJ yX4_readItem RX4 0 := ⟨rfl, by decide +kernel, by decide +kernel, by decide +kernel⟩
theorem hd_X4_refuses : HdJ yX4_refuses RX4 2 := ⟨rfl, by decide +kernel, by decide +kernel, by decide +kernel⟩
theorem hd_X4_refusesShelf : HdJ yX4_refusesShelf RX4 2 := ⟨rfl, by decide +kernel, by decide +kernel, by decide +kernel⟩
theorem hd_X4_refusesSoon : HdJ yX4_refusesSoon RX4 1 := ⟨rfl, by decide +kernel, by decide +kernel, by decide +kernel⟩
theorem hd_X4_refusesThree : HdJ yX4_refusesThree RX4 1 := ⟨rfl, by decide +kernel, by decide +kernel, by decide +kernel⟩
theorem hd_X4_refusesWays : HdJ yX4_refusesWays RX4 1 := ⟨rfl, by decide +kernel, by decide +kernel, by decide +kernel⟩
theorem hd_X4_runOf : HdJ yX4_runOf RX4 1 := ⟨rfl, by decide +kernel, by decide +kernel, by decide +kernel⟩
theorem hd_X4_setOf : HdJ yX4_setOf RX4 1 := ⟨rfl, by decide +kernel, by decide +kernel, by decide +kernel⟩
theorem hd_X4_shelf : HdJ yX4_shelf RX4 0 := ⟨rfl, by decide +kernel, by decide +kernel, by decide +kernel⟩
theorem hd_X4_slides : HdJ yX4_slides RX4 1 := ⟨rfl, by decide +kernel, by decide +kernel, by decide +kernel⟩
theorem hd_X4_slidesOff : HdJ yX4_slidesOff RX4 2 := ⟨rfl, by decide +kernel, by decide +kernel, by decide +kernel⟩
theorem hd_X4_struck : HdJ yX4_struck RX4 1 := ⟨rfl, by decide +kernel, by decide +kernel, by decide +kernel⟩
theorem hd_X4_taken : HdJ yX4_taken RX4 1 := ⟨rfl, by decide +kernel, by decide +kernel, by decide +kernel⟩
theorem hd_X4_topOf : HdJ yX4_topOf RX4 1 := ⟨rfl, by decide +kernel, by decide +kernel, by decide +kernel⟩
theorem hd_X4_ways : HdJ yX4_ways RX4 1 := ⟨rfl, by decide +kernel, by decide +kernel, by decide +kernel⟩
theorem hd_X4_weighs : HdJ yX4_weighs RX4 1 := ⟨rfl, by decide +kernel, by decide +kernel, by decide +kernel⟩
theorem hd_X4_weightOf : HdJ yX4_weightOf RX4 1 := ⟨rfl, by decide +kernel, by decide +kernel, by decide +kernel⟩
theorem hd_X4_which : HdJ yX4_which RX4 1 := ⟨rfl, by decide +kernel, by decide +kernel, by decide +kernel⟩
theorem hd_X4_within : HdJ yX4_within RX4 3 := ⟨rfl, by decide +kernel, by decide +kernel, by decide +kernel⟩
theorem hd_X4_wonIn : HdJ yX4_wonIn RX4 2 := ⟨rfl, by decide +kernel, by decide +kernel, by decide +kernel⟩
theorem hd_X4_worth : HdJ yX4_worth RX4 1 := ⟨rfl, by decide +kernel, by decide +kernel, by decide +kernel⟩
theorem hd_X4_worthOf : HdJ yX4_worthOf RX4 1 := ⟨rfl, by decide +kernel, by decide +kernel, by decide +kernel⟩
theorem hd_X3_coin : HdJ yX3_coin RX3 1 := ⟨rfl, by decide +kernel, by decide +kernel, by decide +kernel⟩
theorem hd_X3_of : HdJ yX3_of RX3 2 := ⟨rfl, by decide +kernel, by decide +kernel, by decide +kernel⟩
theorem hd_X3_change : HdJ yX3_change RX3 2 := ⟨rfl, by decide +kernel, by decide +kernel, by decide +kernel⟩
theorem hd_X3_lay : HdJ yX3_lay RX3 3 := ⟨rfl, by decide +kernel, by decide +kernel, by decide +kernel⟩
theorem hd_X3_lift : HdJ yX3_lift RX3 2 := ⟨rfl, by decide +kernel, by decide +kernel, by decide +kernel⟩
theorem hd_X3_height : HdJ yX3_height RX3 2 := ⟨rfl, by decide +kernel, by decide +kernel, by decide +kernel⟩
theorem hd_X3_seen : HdJ yX3_seen RX3 3 := ⟨rfl, by decide +kernel, by decide +kernel, by decide +kernel⟩
theorem hd_X3_set : HdJ yX3_set RX3 2 := ⟨rfl, by decide +kernel, by decide +kernel, by decide +kernel⟩
theorem hd_X3_drop : HdJ yX3_drop RX3 2 := ⟨rfl, by decide +kernel, by decide +kernel, by decide +kernel⟩
theorem hd_X3_beats : HdJ yX3_beats RX3 1 := ⟨rfl, by decide +kernel, by decide +kernel, by decide +kernel⟩
theorem hd_X3_now : HdJ yX3_now RX3 1 := ⟨rfl, by decide +kernel, by decide +kernel, by decide +kernel⟩
theorem hd_X3_run : HdJ yX3_run RX3 1 := ⟨rfl, by decide +kernel, by decide +kernel, by decide +kernel⟩
theorem hd_X3_weight : HdJ yX3_weight RX3 1 := ⟨rfl, by decide +kernel, by decide +kernel, by decide +kernel⟩
theorem hd_X3_moved : HdJ yX3_moved RX3 0 := ⟨rfl, by decide +kernel, by decide +kernel, by decide +kernel⟩
theorem hd_X3_leaning : HdJ yX3_leaning RX3 0 := ⟨rfl, by decide +kernel, by decide +kernel, by decide +kernel⟩
theorem hd_X3_ahead : HdJ yX3_ahead RX3 2 := ⟨rfl, by decide +kernel, by decide +kernel, by decide +kernel⟩
theorem hd_X3_falls : HdJ yX3_falls RX3 1 := ⟨rfl, by decide +kernel, by decide +kernel, by decide +kernel⟩
theorem hd_X3_rest : HdJ yX3_rest RX3 0 := ⟨rfl, by decide +kernel, by decide +kernel, by decide +kernel⟩
theorem hd_X3_brings : HdJ yX3_brings RX3 3 := ⟨rfl, by decide +kernel, by decide +kernel, by decide +kernel⟩
theorem hd_X3_best : HdJ yX3_best RX3 2 := ⟨rfl, by decide +kernel, by decide +kernel, by decide +kernel⟩
theorem hd_X3_wait : HdJ yX3_wait RX3 2 := ⟨rfl, by decide +kernel, by decide +kernel, by decide +kernel⟩
theorem hd_X3_three : HdJ yX3_three RX3 1 := ⟨rfl, by decide +kernel, by decide +kernel, by decide +kernel⟩
theorem hd_X3_threeBring : HdJ yX3_threeBring RX3 1 := ⟨rfl, by decide +kernel, by decide +kernel, by decide +kernel⟩
theorem hd_X3_soonest : HdJ yX3_soonest RX3 1 := ⟨rfl, by decide +kernel, by decide +kernel, by decide +kernel⟩
theorem hd_X3_firstFor : HdJ yX3_firstFor RX3 1 := ⟨rfl, by decide +kernel, by decide +kernel, by decide +kernel⟩
theorem hd_X3_ways : HdJ yX3_ways RX3 2 := ⟨rfl, by decide +kernel, by decide +kernel, by decide +kernel⟩
theorem hd_X3_total : HdJ yX3_total RX3 1 := ⟨rfl, by decide +kernel, by decide +kernel, by decide +kernel⟩
theorem hd_X3_luck : HdJ yX3_luck RX3 2 := ⟨rfl, by decide +kernel, by decide +kernel, by decide +kernel⟩
theorem hd_X3_play : HdJ yX3_play RX3 1 := ⟨rfl, by decide +kernel, by decide +kernel, by decide +kernel⟩
theorem hd_X3_jolt : HdJ yX3_jolt RX3 0 := ⟨rfl, by decide +kernel, by decide +kernel, by decide +kernel⟩
theorem hd_X3_jolted : HdJ yX3_jolted RX3 0 := ⟨rfl, by decide +kernel, by decide +kernel, by decide +kernel⟩
theorem hd_X3_stroke : HdJ yX3_stroke RX3 1 := ⟨rfl, by decide +kernel, by decide +kernel, by decide +kernel⟩
theorem hd_X3_force : HdJ yX3_force RX3 2 := ⟨rfl, by decide +kernel, by decide +kernel, by decide +kernel⟩
theorem hd_X3_kindFor : HdJ yX3_kindFor RX3 2 := ⟨rfl, by decide +kernel, by decide +kernel, by decide +kernel⟩
theorem hd_X3_seed : HdJ yX3_seed RX3 1 := ⟨rfl, by decide +kernel, by decide +kernel, by decide +kernel⟩
theorem hd_X3_feed : HdJ yX3_feed RX3 2 := ⟨rfl, by decide +kernel, by decide +kernel, by decide +kernel⟩
theorem hd_X3_wipe : HdJ yX3_wipe RX3 0 := ⟨rfl, by decide +kernel, by decide +kernel, by decide +kernel⟩
theorem hd_X3_text : HdJ yX3_text RX3 0 := ⟨rfl, by decide +kernel, by decide +kernel, by decide +kernel⟩
theorem hd_X3_hold : HdJ yX3_hold RX3 2 := ⟨rfl, by decide +kernel, by decide +kernel, by decide +kernel⟩
theorem hd_X3_as : HdJ yX3_as RX3 2 := ⟨rfl, by decide +kernel, by decide +kernel, by decide +kernel⟩
theorem hd_X3_sheet : HdJ yX3_sheet RX3 3 := ⟨rfl, by decide +kernel, by decide +kernel, by decide +kernel⟩
theorem hd_X3_write : HdJ yX3_write RX3 3 := ⟨rfl, by decide +kernel, by decide +kernel, by decide +kernel⟩
theorem hd_X3_copy : HdJ yX3_copy RX3 5 := ⟨rfl, by decide +kernel, by decide +kernel, by decide +kernel⟩
theorem hd_X3_load : HdJ yX3_load RX3 1 := ⟨rfl, by decide +kernel, by decide +kernel, by decide +kernel⟩
theorem hd_X3_judge : HdJ yX3_judge RX3 1 := ⟨rfl, by decide +kernel, by decide +kernel, by decide +kernel⟩
theorem hd_X3_image : HdJ yX3_image RX3 0 := ⟨rfl, by decide +kernel, by decide +kernel, by decide +kernel⟩
theorem hd_X3_undo : HdJ yX3_undo RX3 0 := ⟨rfl, by decide +kernel, by decide +kernel, by decide +kernel⟩
theorem hd_X3_tear : HdJ yX3_tear RX3 0 := ⟨rfl, by decide +kernel, by decide +kernel, by decide +kernel⟩
theorem hd_X3_count : HdJ yX3_count RX3 1 := ⟨rfl, by decide +kernel, by decide +kernel, by decide +kernel⟩
theorem hd_X3_status : HdJ yX3_status RX3 1 := ⟨rfl, by decide +kernel, by decide +kernel, by decide +kernel⟩
theorem hd_X4_coin : HdJ yX4_coin RX4 1 := ⟨rfl, by decide +kernel, by decide +kernel, by decide +kernel⟩
theorem hd_X4_of : HdJ yX4_of RX4 2 := ⟨rfl, by decide +kernel, by decide +kernel, by decide +kernel⟩
theorem hd_X4_change : HdJ yX4_change RX4 2 := ⟨rfl, by decide +kernel, by decide +kernel, by decide +kernel⟩
theorem hd_X4_lay : HdJ yX4_lay RX4 3 := ⟨rfl, by decide +kernel, by decide +kernel, by decide +kernel⟩
theorem hd_X4_lift : HdJ yX4_lift RX4 2 := ⟨rfl, by decide +kernel, by decide +kernel, by decide +kernel⟩
theorem hd_X4_height : HdJ yX4_height RX4 2 := ⟨rfl, by decide +kernel, by decide +kernel, by decide +kernel⟩
theorem hd_X4_seen : HdJ yX4_seen RX4 3 := ⟨rfl, by decide +kernel, by decide +kernel, by decide +kernel⟩
theorem hd_X4_set : HdJ yX4_set RX4 2 := ⟨rfl, by decide +kernel, by decide +kernel, by decide +kernel⟩
theorem hd_X4_drop : HdJ yX4_drop RX4 2 := ⟨rfl, by decide +kernel, by decide +kernel, by decide +kernel⟩
theorem hd_X4_beats : HdJ yX4_beats RX4 1 := ⟨rfl, by decide +kernel, by decide +kernel, by decide +kernel⟩
theorem hd_X4_now : HdJ yX4_now RX4 1 := ⟨rfl, by decide +kernel, by decide +kernel, by decide +kernel⟩
theorem hd_X4_run : HdJ yX4_run RX4 1 := ⟨rfl, by decide +kernel, by decide +kernel, by decide +kernel⟩
theorem hd_X4_weight : HdJ yX4_weight RX4 1 := ⟨rfl, by decide +kernel, by decide +kernel, by decide +kernel⟩
theorem hd_X4_moved : HdJ yX4_moved RX4 0 := ⟨rfl, by decide +kernel, by decide +kernel, by decide +kernel⟩
theorem hd_X4_leaning : HdJ yX4_leaning RX4 0 := ⟨rfl, by decide +kernel, by decide +kernel, by decide +kernel⟩
theorem hd_X4_ahead : HdJ yX4_ahead RX4 2 := ⟨rfl, by decide +kernel, by decide +kernel, by decide +kernel⟩
theorem hd_X4_falls : HdJ yX4_falls RX4 1 := ⟨rfl, by decide +kernel, by decide +kernel, by decide +kernel⟩
theorem hd_X4_rest : HdJ yX4_rest RX4 0 := ⟨rfl, by decide +kernel, by decide +kernel, by decide +kernel⟩
theorem hd_X4_brings : HdJ yX4_brings RX4 3 := ⟨rfl, by decide +kernel, by decide +kernel, by decide +kernel⟩
theorem hd_X4_best : HdJ yX4_best RX4 2 := ⟨rfl, by decide +kernel, by decide +kernel, by decide +kernel⟩
theorem hd_X4_wait : HdJ yX4_wait RX4 2 := ⟨rfl, by decide +kernel, by decide +kernel, by decide +kernel⟩
theorem hd_X4_three : HdJ yX4_three RX4 1 := ⟨rfl, by decide +kernel, by decide +kernel, by decide +kernel⟩
theorem hd_X4_threeBring : HdJ yX4_threeBring RX4 1 := ⟨rfl, by decide +kernel, by decide +kernel, by decide +kernel⟩
theorem hd_X4_soonest : HdJ yX4_soonest RX4 1 := ⟨rfl, by decide +kernel, by decide +kernel, by decide +kernel⟩
theorem hd_X4_firstFor : HdJ yX4_firstFor RX4 1 := ⟨rfl, by decide +kernel, by decide +kernel, by decide +kernel⟩
theorem hd_X4_ways_ : HdJ yX4_ways_ RX4 2 := ⟨rfl, by decide +kernel, by decide +kernel, by decide +kernel⟩
theorem hd_X4_total : HdJ yX4_total RX4 1 := ⟨rfl, by decide +kernel, by decide +kernel, by decide +kernel⟩
theorem hd_X4_luck : HdJ yX4_luck RX4 2 := ⟨rfl, by decide +kernel, by decide +kernel, by decide +kernel⟩
theorem hd_X4_play : HdJ yX4_play RX4 1 := ⟨rfl, by decide +kernel, by decide +kernel, by decide +kernel⟩
theorem hd_X4_jolted : HdJ yX4_jolted RX4 0 := ⟨rfl, by decide +kernel, by decide +kernel, by decide +kernel⟩
theorem hd_X4_stroke : HdJ yX4_stroke RX4 1 := ⟨rfl, by decide +kernel, by decide +kernel, by decide +kernel⟩
theorem hd_X4_force : HdJ yX4_force RX4 2 := ⟨rfl, by decide +kernel, by decide +kernel, by decide +kernel⟩
theorem hd_X4_kindFor : HdJ yX4_kindFor RX4 2 := ⟨rfl, by decide +kernel, by decide +kernel, by decide +kernel⟩
theorem hd_X4_seed : HdJ yX4_seed RX4 1 := ⟨rfl, by decide +kernel, by decide +kernel, by decide +kernel⟩
theorem hd_X4_feed : HdJ yX4_feed RX4 2 := ⟨rfl, by decide +kernel, by decide +kernel, by decide +kernel⟩
theorem hd_X4_wipe : HdJ yX4_wipe RX4 0 := ⟨rfl, by decide +kernel, by decide +kernel, by decide +kernel⟩
theorem hd_X4_text : HdJ yX4_text RX4 0 := ⟨rfl, by decide +kernel, by decide +kernel, by decide +kernel⟩
theorem hd_X4_hold : HdJ yX4_hold RX4 2 := ⟨rfl, by decide +kernel, by decide +kernel, by decide +kernel⟩
theorem hd_X4_as : HdJ yX4_as RX4 2 := ⟨rfl, by decide +kernel, by decide +kernel, by decide +kernel⟩
theorem hd_X4_sheet : HdJ yX4_sheet RX4 3 := ⟨rfl, by decide +kernel, by decide +kernel, by decide +kernel⟩
theorem hd_X4_write : HdJ yX4_write RX4 3 := ⟨rfl, by decide +kernel, by decide +kernel, by decide +kernel⟩
theorem hd_X4_copy : HdJ yX4_copy RX4 5 := ⟨rfl, by decide +kernel, by decide +kernel, by decide +kernel⟩
theorem hd_X4_load : HdJ yX4_load RX4 1 := ⟨rfl, by decide +kernel, by decide +kernel, by decide +kernel⟩
theorem hd_X4_judge : HdJ yX4_judge RX4 1 := ⟨rfl, by decide +kernel, by decide +kernel, by decide +kernel⟩
theorem hd_X4_image : HdJ yX4_image RX4 0 := ⟨rfl, by decide +kernel, by decide +kernel, by decide +kernel⟩
theorem hd_X4_undo : HdJ yX4_undo RX4 0 := ⟨rfl, by decide +kernel, by decide +kernel, by decide +kernel⟩
theorem hd_X4_tear : HdJ yX4_tear RX4 0 := ⟨rfl, by decide +kernel, by decide +kernel, by decide +kernel⟩
theorem hd_X4_count : HdJ yX4_count RX4 1 := ⟨rfl, by decide +kernel, by decide +kernel, by decide +kernel⟩
theorem hd_X4_status : HdJ yX4_status RX4 1 := ⟨rfl, by decide +kernel, by decide +kernel, by decide +kernel⟩
