/-! THE CLAIM OUT OF ONE WALK OF THE LAW'S BODY. Your part is whole_start (and what it stands on); all else here is the same for every law, but numbers. -/
def R_law : String := "PennyLedgeLaw"
def lw_P (b : Addr) (xs : List Int32) (args : Array Value) (s : State) : Prop := args = #[.ref b] ∧ s.IntsAt b xs ∧ xs.length ≤ 3072 ∧ (Jvm.Cond.and given_1 narrow_1).before args s = true
def lw_Q (_ : Array Value) (s : State) (o : Outcome) (t : State) : Prop := o = .returned (some (.int 1)) ∧ Framed s o t [] 600000 7302250
def lw_Z (below : List Frame) (a : Array Value) (s : State) : State → Prop := fun t => ∃ o, t.status = .running ∧ Ended t below o ∧ lw_Q a s o t
/-- the law's own end, with 1 on the stack, nothing written that was there before, its room as the claim has it -/
theorem lw_ret {p : Program} {l : Launch} {e : Env} {s : State} {m : MethodId} {below : List Frame} {meth : Method} {c : Code} {b : Nat} (hx : p.tables.exec = Jvm.exec) (hb : c.code = code) (hr : meth.sig.returnType = ret) (hlocks : meth.locks = false) {pc : Nat} {H : Heap} {ls : Array Slot} (hdg : decode code pc = .ok (.ireturn, 1)) : W p l e room_1 s m #[Value.ref b] below meth c H [] 600000 7302250 (lw_Z below #[Value.ref b] s) (F0 m pc ls [.int 1]) := by
  intro T hT X
  obtain ⟨fs, hret, hrun, hended, hW, hframe⟩ := X.leave (v := some (.int 1)) (hlocks := hlocks) (fun h => by rw [hr] at h; cases h)
  have hmeth' : T.vm.method? m = some meth := X.method'
  refine ⟨T.setFrames fs, ?_, .returned (some (.int 1)), hrun, hended, rfl, ⟨_, rfl⟩, hW, hframe⟩
  jvm_step X.here [X.here.top, hx, hb, hdg, hmeth', hr, ret, narrow_b1]
  (try refine ⟨rfl, ?_⟩); (try refine ⟨rfl, ?_⟩)
  first | (intro acts; rw [hret _ acts rfl rfl rfl]) | rw [hret _ _ rfl rfl rfl]
  exact Steps.refl _
/-- what holds at the law's entry: the machine, the code, the tables' words (any of lw_tbl by 'hts w (by decide +kernel)'), the script of L ints xs at the cell b, what the Statement gives of the start (any of its parts by flat_of_before) -/
def lw_At (p : Program) (s : State) (m : MethodId) (meth : Method) (c : Code) (b L : Nat) (xs : Nat → Int32) : Prop :=
  p.tables.exec = Jvm.exec ∧ c.code = code ∧ meth.sig.returnType = ret ∧ c.maxLocals = 4 ∧ s.vm.findClass R_law = some m.cls ∧ (∀ w ∈ lw_tbl, w.before #[Value.ref b] s = true) ∧ va_X b L xs s s.heap ∧ b < s.heap.size ∧ meth.locks = false ∧ (Jvm.Cond.and given_1 narrow_1).before #[Value.ref b] s = true

theorem RLL_00 : RLL x00 m00 := by
  have z3 : ∀ q, A00 3 q = 0 := fun q => rfl
  have c0 : A00 0 6 = 0 := rfl
  refine ⟨A00, 0, 0, ⟨⟨⟨by decide, ?_, ?_⟩, ⟨?_, ?_, ?_, ?_⟩, by decide, ?_⟩, by decide⟩, ?_, ⟨m00, ?_⟩, ⟨⟨rfl, fun h => absurd rfl h⟩, fun i hi => rfl, by decide⟩, ⟨0, by decide, rfl, rfl, fun i h => absurd h (Nat.not_lt_zero _)⟩, ?_⟩
  · intro c h
    rw [c0] at h
    omega
  · intro c h
    rw [c0] at h
    omega
  · intro q _
    rw [z3]
    omega
  · intro q i _ h
    rw [z3] at h
    omega
  · intro q i j _ _ h
    rw [z3] at h
    omega
  · intro c h
    rw [c0] at h
    omega
  · intro i _
    exact Or.inl rfl
  · intro k j hk
    rcases (show k = 0 ∨ k = 1 ∨ k = 2 ∨ k = 3 ∨ k = 4 ∨ k = 5 ∨ k = 6 by omega) with rfl | rfl | rfl | rfl | rfl | rfl | rfl
    · show shF j = nI (A00 0 j)
      unfold shF A00
      rw [if_pos rfl]
      by_cases h : j = 9
      · rw [if_pos h, if_pos h]
        rfl
      · rw [if_neg h, if_neg h]
        rfl
    · rfl
    · rfl
    · rfl
    · rfl
    · rfl
    · rfl
  · funext k
    unfold mst
    by_cases h1 : k = 1
    · subst h1
      rw [if_pos rfl]
      rfl
    · rw [if_neg h1]
      by_cases h0 : k = 0
      · subst h0
        rw [if_pos rfl]
        funext j
        by_cases h5 : j = 5
        · rw [if_pos h5]
          rfl
        · rw [if_neg h5]
          by_cases h6 : j = 6
          · rw [if_pos h6]
            rfl
          · rw [if_neg h6]
      · rw [if_neg h0]
  · intro s hs
    rcases (show s = 0 ∨ s = 1 ∨ s = 2 ∨ s = 3 by omega) with rfl | rfl | rfl | rfl <;> exact ⟨0, by decide, rfl, rfl, rfl, Or.inl rfl, fun j _ => rfl⟩
/-! both worlds, side by side -/
def gW (g : GG) (q q2 : Nat → Nat) (S K V : Nat → Nat) : GG := (g.1, g.2.1, (fun k => if k < 56 then q k else q2 (k - 56)), S, K, V)
theorem lvl_lt (i : Nat) : lvl i < 56 := by
  by_cases h : i < 4
  · rcases (show i = 0 ∨ i = 1 ∨ i = 2 ∨ i = 3 by omega) with rfl | rfl | rfl | rfl <;> decide
  · obtain ⟨k, rfl⟩ : ∃ k, i = k + 4 := ⟨i - 4, by omega⟩
    show (0 : Nat) < 56
    decide
theorem sht_lt (i : Nat) : sht i < 56 := by
  by_cases h : i < 4
  · rcases (show i = 0 ∨ i = 1 ∨ i = 2 ∨ i = 3 by omega) with rfl | rfl | rfl | rfl <;> decide
  · obtain ⟨k, rfl⟩ : ∃ k, i = k + 4 := ⟨i - 4, by omega⟩
    show (0 : Nat) < 56
    decide
theorem entX_G (g : GG) (q q2 S K V : Nat → Nat) (k : Nat) (F : Nat → Int32) : entX (gW g q q2 S K V) k F = entX (sa g q) k F := by
  have hl : (fun i => some (ad (gW g q q2 S K V) (lvl i))) = (fun i => some (ad (sa g q) (lvl i))) := by
    funext i
    exact congrArg some (if_pos (lvl_lt i))
  have hs : (fun i => some (ad (gW g q q2 S K V) (sht i))) = (fun i => some (ad (sa g q) (sht i))) := by
    funext i
    exact congrArg some (if_pos (sht_lt i))
  unfold entX
  rw [hl, hs]
  by_cases h1 : isSh k = true
  · rw [if_pos h1, if_pos h1]
    rcases isSh_c h1 with rfl | rfl | rfl | rfl | rfl | rfl <;> rfl
  · rw [if_neg h1, if_neg h1]
    by_cases h2 : isSt k = true
    · rw [if_pos h2, if_pos h2]
      rcases isSt_c h2 with rfl | rfl | rfl | rfl <;> rfl
    · rw [if_neg h2, if_neg h2]
      by_cases h3 : k = 0
      · rw [if_pos h3, if_pos h3]
        rfl
      · rw [if_neg h3, if_neg h3]
        by_cases h4 : k = 23
        · rw [if_pos h4, if_pos h4]
          subst h4
          rfl
        · rw [if_neg h4, if_neg h4]
          rfl
theorem wX_len (g : GG) (q : Nat → Nat) : (wX3 g q).length = 56 := by
  unfold wX3
  rw [List.length_map, List.length_range]
theorem wX_G (g : GG) (q q2 S K V : Nat → Nat) : wX3 (sa g q) q ++ wX4 (gW g q q2 S K V) q2 = wl (gW g q q2 S K V) (ent (gW g q q2 S K V) x00 m00) := by
  apply List.ext_getElem?
  intro i
  by_cases h : i < 56
  · rw [List.getElem?_append_left (by rw [wX_len]; exact h), wl_get (by omega)]
    unfold wX3
    rw [List.getElem?_map, List.getElem?_range h]
    show some (q i, entX (sa g q) i (x00 i)) = some (ad (gW g q q2 S K V) i, ent (gW g q q2 S K V) x00 m00 i)
    unfold ent
    rw [if_pos h, entX_G, show ad (gW g q q2 S K V) i = q i from if_pos h]
  · rw [List.getElem?_append_right (by rw [wX_len]; omega), wX_len]
    by_cases h2 : i < 70
    · rw [wl_get h2]
      unfold wX4
      rw [List.getElem?_map, List.getElem?_range (by omega)]
      show some (q2 (i - 56), entM (sa (gW g q q2 S K V) (fun k => q2 (k - 56))) (i - 56) (m00 (i - 56))) = some (ad (gW g q q2 S K V) i, ent (gW g q q2 S K V) x00 m00 i)
      unfold ent
      rw [if_neg h, show ad (gW g q q2 S K V) i = q2 (i - 56) from if_neg h]
      rfl
    · unfold wl wX4
      rw [List.getElem?_map, List.getElem?_map, List.getElem?_eq_none (by rw [List.length_range]; omega), List.getElem?_eq_none (by rw [List.length_range]; omega)]
      rfl
/-! THE LAW'S ROWS -/
def Wl (p : Program) (l : Launch) (e : Env) (s : State) (m : MethodId) (b : Nat) (below : List Frame) (meth : Method) (c : Code) (g : GG) (x mm : St) (pc : Nat) (lv : List (Nat × Value)) (st : List Value) : Prop :=
  ∀ (H : Heap) (locs : List Loc) (ls : Array Slot), Wd g x mm H → va_S (Ag s.heap.size) s.heap H locs → lv_has ls 4 lv → W p l e room_1 s m #[Value.ref b] below meth c H locs 600000 7302250 (lw_Z below #[Value.ref b] s) (F0 m pc ls st)
abbrev lvL (g : GG) (b i : Nat) : List (Nat × Value) := [(3, .int (nI i)), (2, .ref (ad g 56)), (1, .ref (ad g 0)), (0, .ref b)]
abbrev Cl (p : Program) (m : MethodId) (c : Code) (s : State) (b : Nat) (g : GG) : Prop := Cx p m c code 4 s #[Value.ref b] RL g s.heap.size
section LR
variable {p : Program} {l : Launch} {e : Env} {s : State} {m : MethodId} {b : Nat} {below : List Frame} {meth : Method} {c : Code} {g : GG} {x mm x' m' : St} {pc : Nat} {lv : List (Nat × Value)} {st : List Value}
theorem l_iconst (C : Cl p m c s b g) {k : Int} {v : Int32} (hd : decode code pc = .ok (.iconst k, 1)) (hv : Int32.ofInt k = v) (n : Nat) (hn : pc + 1 = n) (kk : Wl p l e s m b below meth c g x mm n lv (.int v :: st)) : Wl p l e s m b below meth c g x mm pc lv (st) := fun H locs ls hW hS hl => by
  subst hn
  exact lv_iconst C.1.1 C.1.2.1 hd hv (kk H locs ls hW hS hl)
theorem l_bipush (C : Cl p m c s b g) {k : Int} {v : Int32} (hd : decode code pc = .ok (.bipush k, 2)) (hv : (Int8.ofInt k).toInt32 = v) (n : Nat) (hn : pc + 2 = n) (kk : Wl p l e s m b below meth c g x mm n lv (.int v :: st)) : Wl p l e s m b below meth c g x mm pc lv (st) := fun H locs ls hW hS hl => by
  subst hn
  exact lv_bipush C.1.1 C.1.2.1 hd hv (kk H locs ls hW hS hl)
theorem l_iload_n (C : Cl p m c s b g) {k : Fin 4} {i : Nat} {v : Int32} (hd : decode code pc = .ok (.iload_n k, 1)) (hi : (k : Nat) = i) (q : Nat) (hq : lv[q]? = some (i, .int v)) (n : Nat) (hn : pc + 1 = n) (kk : Wl p l e s m b below meth c g x mm n lv (.int v :: st)) : Wl p l e s m b below meth c g x mm pc lv (st) := fun H locs ls hW hS hl => by
  subst hn
  exact lv_iload_n C.1.1 C.1.2.1 hd hi (lv_at hl q hq) (kk H locs ls hW hS hl)
theorem l_aload_n (C : Cl p m c s b g) {k : Fin 4} {i : Nat} {a : Nat} (hd : decode code pc = .ok (.aload_n k, 1)) (hi : (k : Nat) = i) (q : Nat) (hq : lv[q]? = some (i, .ref a)) (n : Nat) (hn : pc + 1 = n) (kk : Wl p l e s m b below meth c g x mm n lv (.ref a :: st)) : Wl p l e s m b below meth c g x mm pc lv (st) := fun H locs ls hW hS hl => by
  subst hn
  exact lv_aload_n C.1.1 C.1.2.1 hd hi (lv_at hl q hq) (kk H locs ls hW hS hl)
theorem l_iinc (C : Cl p m c s b g) {i k : Nat} {d : Int} {u v : Int32} {lv2 : List (Nat × Value)} (hd : decode code pc = .ok (.iinc i d, 3)) (hk : lv[k]? = some (i, .int u)) (hv : u + Int32.ofInt d = v) (hb : i < 4) (hl2 : (i, Value.int v) :: lv.filter (fun q => !(q.1 == i) && !(q.1 + 1 == i && q.2.category == 2)) = lv2) (n : Nat) (hn : pc + 3 = n) (kk : Wl p l e s m b below meth c g x mm n lv2 st) : Wl p l e s m b below meth c g x mm pc lv st := fun H locs ls hW hS hl => by
  subst hn
  exact lv_iinc C.1.1 C.1.2.1 hd hl hk hv hb hl2 (fun ls2 hl3 => kk H locs ls2 hW hS hl3)
theorem l_isub (C : Cl p m c s b g) {a1 b1 : Int32} (hd : decode code pc = .ok (.isub, 1)) (n : Nat) (hn : pc + 1 = n) (kk : Wl p l e s m b below meth c g x mm n lv (.int (a1 - b1) :: st)) : Wl p l e s m b below meth c g x mm pc lv (.int b1 :: .int a1 :: st) := fun H locs ls hW hS hl => by
  subst hn
  exact lv_isub C.1.1 C.1.2.1 hd (kk H locs ls hW hS hl)
theorem l_iand (C : Cl p m c s b g) {a1 b1 : Int32} (hd : decode code pc = .ok (.iand, 1)) (n : Nat) (hn : pc + 1 = n) (kk : Wl p l e s m b below meth c g x mm n lv (.int (a1 &&& b1) :: st)) : Wl p l e s m b below meth c g x mm pc lv (.int b1 :: .int a1 :: st) := fun H locs ls hW hS hl => by
  subst hn
  exact lv_iand C.1.1 C.1.2.1 hd (kk H locs ls hW hS hl)
theorem l_lcmp (C : Cl p m c s b g) {a1 b1 : Int64} (hd : decode code pc = .ok (.lcmp, 1)) (n : Nat) (hn : pc + 1 = n) (kk : Wl p l e s m b below meth c g x mm n lv (.int (lg_cmp a1 b1) :: st)) : Wl p l e s m b below meth c g x mm pc lv (.long b1 :: .long a1 :: st) := fun H locs ls hW hS hl => by
  subst hn
  exact W.lcmp C.1.1 C.1.2.1 hd (kk H locs ls hW hS hl)
theorem l_if_eq (C : Cl p m c s b g) {a1 : Int32} {off : Int} (hd : decode code pc = .ok (.ifCond .eq off, 3)) (tgt : Nat) (ht : (pc : Int) + off = (tgt : Int)) (n : Nat) (hn : pc + 3 = n) (kt : a1 = 0 → Wl p l e s m b below meth c g x mm tgt lv st) (kf : ¬ a1 = 0 → Wl p l e s m b below meth c g x mm n lv st) : Wl p l e s m b below meth c g x mm pc lv (.int a1 :: st) := fun H locs ls hW hS hl => by
  subst hn
  exact lv_if_eq C.1.1 C.1.2.1 hd ht (fun q => kt q H locs ls hW hS hl) (fun q => kf q H locs ls hW hS hl)
theorem l_icmp_eq (C : Cl p m c s b g) {a1 b1 : Int32} {off : Int} (hd : decode code pc = .ok (.if_icmp .eq off, 3)) (tgt : Nat) (ht : (pc : Int) + off = (tgt : Int)) (n : Nat) (hn : pc + 3 = n) (kt : a1 = b1 → Wl p l e s m b below meth c g x mm tgt lv st) (kf : ¬ a1 = b1 → Wl p l e s m b below meth c g x mm n lv st) : Wl p l e s m b below meth c g x mm pc lv (.int b1 :: .int a1 :: st) := fun H locs ls hW hS hl => by
  subst hn
  exact lv_icmp_eq C.1.1 C.1.2.1 hd ht (fun q => kt q H locs ls hW hS hl) (fun q => kf q H locs ls hW hS hl)
theorem l_icmp_gt (C : Cl p m c s b g) {a1 b1 : Int32} {off : Int} (hd : decode code pc = .ok (.if_icmp .gt off, 3)) (tgt : Nat) (ht : (pc : Int) + off = (tgt : Int)) (n : Nat) (hn : pc + 3 = n) (kt : b1 < a1 → Wl p l e s m b below meth c g x mm tgt lv st) (kf : ¬ b1 < a1 → Wl p l e s m b below meth c g x mm n lv st) : Wl p l e s m b below meth c g x mm pc lv (.int b1 :: .int a1 :: st) := fun H locs ls hW hS hl => by
  subst hn
  exact lv_icmp_gt C.1.1 C.1.2.1 hd ht (fun q => kt q H locs ls hW hS hl) (fun q => kf q H locs ls hW hS hl)
theorem l_goto (C : Cl p m c s b g) {off : Int} (hd : decode code pc = .ok (.goto off, 3)) (tgt : Nat) (ht : (pc : Int) + off = (tgt : Int)) (kk : Wl p l e s m b below meth c g x mm tgt lv st) : Wl p l e s m b below meth c g x mm pc lv st := fun H locs ls hW hS hl => lv_goto C.1.1 C.1.2.1 hd ht (kk H locs ls hW hS hl)
theorem l_tableOut (C : Cl p m c s b g) {dflt lo hi : Int} {offs : Array Int} {len : Nat} {a1 : Int32} (hd : decode code pc = .ok (.tableswitch dflt lo hi offs, len)) (h : a1.toInt < lo ∨ hi < a1.toInt) (tgt : Nat) (ht : (pc : Int) + dflt = (tgt : Int)) (kk : Wl p l e s m b below meth c g x mm tgt lv st) : Wl p l e s m b below meth c g x mm pc lv (.int a1 :: st) := fun H locs ls hW hS hl => lv_tableOut C.1.1 C.1.2.1 hd h ht (kk H locs ls hW hS hl)
theorem l_tableIn (C : Cl p m c s b g) {dflt lo hi : Int} {offs : Array Int} {len : Nat} {a1 : Int32} {off : Int} (hd : decode code pc = .ok (.tableswitch dflt lo hi offs, len)) (h1 : ¬ a1.toInt < lo) (h2 : ¬ hi < a1.toInt) (ho : offs[(a1.toInt - lo).toNat]? = some off) (tgt : Nat) (ht : (pc : Int) + off = (tgt : Int)) (kk : Wl p l e s m b below meth c g x mm tgt lv st) : Wl p l e s m b below meth c g x mm pc lv (.int a1 :: st) := fun H locs ls hW hS hl => lv_tableIn C.1.1 C.1.2.1 hd h1 h2 ho ht (kk H locs ls hW hS hl)
theorem l_slen (C : Cl p m c s b g) {L : Nat} {xs : Nat → Int32} (hX : va_X b L xs s s.heap) (hbl : b < s.heap.size) (hd : decode code pc = .ok (.arraylength, 1)) (n : Nat) (hn : pc + 1 = n) (kk : Wl p l e s m b below meth c g x mm n lv (.int (nI L) :: st)) : Wl p l e s m b below meth c g x mm pc lv (.ref b :: st) := fun H locs ls hW hS hl => by
  subst hn
  exact va_slen C.1.1 C.1.2.1 hX hbl (Nat.not_le.mpr hbl) hS hd (kk H locs ls hW hS hl)
theorem l_sld (C : Cl p m c s b g) {L : Nat} {xs : Nat → Int32} (hX : va_X b L xs s s.heap) (hbl : b < s.heap.size) (hL : L ≤ 3072) {k : Nat} (hk : k < L) (hd : decode code pc = .ok (.iaload, 1)) (n : Nat) (hn : pc + 1 = n) (kk : Wl p l e s m b below meth c g x mm n lv (.int (xs k) :: st)) : Wl p l e s m b below meth c g x mm pc lv (.int (nI k) :: .ref b :: st) := fun H locs ls hW hS hl => by
  subst hn
  refine va_sld C.1.1 C.1.2.1 hX hbl (Nat.not_le.mpr hbl) hS (vp_in_nI hk (by omega)) hd ?_
  rw [nI_clamp (by omega)]
  exact kk H locs ls hW hS hl
/-- script[i + j] -/
theorem l_arg (C : Cl p m c s b g) {L : Nat} {xs : Nat → Int32} (hX : va_X b L xs s s.heap) (hbl : b < s.heap.size) (hL : L ≤ 3072) {i : Nat} (j : Nat) (hij : i + j < L) {kz : Int} (hkz : Int32.ofInt kz = nI j) (d0 : decode code pc = .ok (.aload_n 0, 1)) (d1 : decode code (pc + 1) = .ok (.iload_n 3, 1)) (d2 : decode code (pc + 1 + 1) = .ok (.iconst kz, 1)) (d3 : decode code (pc + 1 + 1 + 1) = .ok (.iadd, 1)) (d4 : decode code (pc + 1 + 1 + 1 + 1) = .ok (.iaload, 1)) (n : Nat) (hn : pc + 5 = n) (kk : Wl p l e s m b below meth c g x mm n (lvL g b i) (.int (xs (i + j)) :: st)) : Wl p l e s m b below meth c g x mm pc (lvL g b i) st := by
  refine l_aload_n C d0 rfl 3 rfl _ rfl ?_
  refine l_iload_n C d1 rfl 0 rfl _ rfl ?_
  refine l_iconst C d2 hkz _ rfl ?_
  intro H locs ls hW hS hl
  refine lv_iadd C.1.1 C.1.2.1 d3 ?_
  rw [nI_add]
  exact l_sld C hX hbl hL hij d4 n hn kk H locs ls hW hS hl
theorem l_recv0 : RecvJ g x mm (ad g 0) RX3 := ⟨0, 3, fsP g (x 0), TX3, 8, rfl, by decide, rfl, rfl⟩
theorem l_recv56 : RecvJ g x mm (ad g 56) RX4 := ⟨56, 4, fsM g (mm 0), TX4, 27, rfl, by decide, rfl, rfl⟩
theorem l_callVi {y : MethodName} {C0 : String} {b0 : Nat} {idx na maxY : Nat} {bytes : ByteArray} {ret : Option FieldType} {rm : Room} {r : Int32} {As rest : List Value} (C : Cl p m c s b g) (hM : Met l y (.code y bytes maxY ret :: ALLW) rm (PcJ g s.heap.size x mm (.ref b0 :: As)) (QiJ g s.heap.size r x' m') 0 0 (Ag s.heap.size)) (cw : CallW room_1 s #[Value.ref b] RL C0 idx y bytes maxY ret (.code y bytes maxY ret :: ALLW) rm 0 0 na) (hrec : RecvJ g x mm b0 C0) (hna : As.length = na) (hcat : (rest.map fun v => v.category).sum ≤ 8) (hd : decode code pc = .ok (.invokevirtual idx, 3)) (n : Nat) (hn : pc + 3 = n) (kk : Wl p l e s m b below meth c g x' m' n lv (.int r :: rest)) : Wl p l e s m b below meth c g x mm pc lv (As.reverse ++ .ref b0 :: rest) := fun H locs ls hW hS hl => by
  subst hn
  exact va_calli (va_runV C.1 hM cw ⟨PcJ.blind g s.heap.size x mm _, hrec.cell C.2 H locs hW hS, fun U hU hWm => ⟨rfl, by rw [hU]; exact C.2.go hS hWm, by rw [hU]; exact hW⟩⟩ rfl hna hl.1 rfl (lv_room hcat) hd ⟨Nat.le_of_ble_eq_true rfl, Nat.le_of_ble_eq_true rfl⟩) hS (fun _ _ h => h) (fun _ h => h) (fun r2 u t H1 locs1 ht _ hr hB _ _ hS1 => by subst hr; rw [ht] at hB; exact kk H1 locs1 ls hB hS1 hl)
theorem l_callVl {y : MethodName} {C0 : String} {b0 : Nat} {idx na maxY : Nat} {bytes : ByteArray} {ret : Option FieldType} {rm : Room} {r : Int64} {As rest : List Value} (C : Cl p m c s b g) (hM : Met l y (.code y bytes maxY ret :: ALLW) rm (PcJ g s.heap.size x mm (.ref b0 :: As)) (QlJ g s.heap.size r x' m') 0 0 (Ag s.heap.size)) (cw : CallW room_1 s #[Value.ref b] RL C0 idx y bytes maxY ret (.code y bytes maxY ret :: ALLW) rm 0 0 na) (hrec : RecvJ g x mm b0 C0) (hna : As.length = na) (hcat : (rest.map fun v => v.category).sum ≤ 8) (hd : decode code pc = .ok (.invokevirtual idx, 3)) (n : Nat) (hn : pc + 3 = n) (kk : Wl p l e s m b below meth c g x' m' n lv (.long r :: rest)) : Wl p l e s m b below meth c g x mm pc lv (As.reverse ++ .ref b0 :: rest) := fun H locs ls hW hS hl => by
  subst hn
  exact va_calll (va_runV C.1 hM cw ⟨PcJ.blind g s.heap.size x mm _, hrec.cell C.2 H locs hW hS, fun U hU hWm => ⟨rfl, by rw [hU]; exact C.2.go hS hWm, by rw [hU]; exact hW⟩⟩ rfl hna hl.1 rfl (lv_room hcat) hd ⟨Nat.le_of_ble_eq_true rfl, Nat.le_of_ble_eq_true rfl⟩) hS (fun _ _ h => h) (fun _ h => h) (fun r2 u t H1 locs1 ht _ hr hB _ _ hS1 => by subst hr; rw [ht] at hB; exact kk H1 locs1 ls hB hS1 hl)
theorem l_ret (C : Cl p m c s b g) (hr : meth.sig.returnType = ret) (hlocks : meth.locks = false) (hd : decode code pc = .ok (.ireturn, 1)) : Wl p l e s m b below meth c g x mm pc lv [.int 1] := fun H locs ls hW hS hl => va_forget hS.2.2 (lw_ret C.1.1 C.1.2.1 hr hlocks hd)
theorem l_cmp (a : Int64) : lg_cmp a a = 0 := by
  unfold lg_cmp
  rw [if_neg (Int64.lt_irrefl), if_pos rfl]
end LR
