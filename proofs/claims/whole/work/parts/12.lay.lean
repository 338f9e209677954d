/-! THE LAYOUT'S ROWS: fields and arrays of each class, in the words of its block -/
theorem ups_same (x : St) (k j : Nat) (v : Int32) : ups x k j v k = upd (x k) j v := by
  funext b
  simp only [ups, upd, if_true]
theorem ups_other (x : St) {k q : Nat} (j : Nat) (v : Int32) (h : q ≠ k) : ups x k j v q = x q := by
  funext b
  simp only [ups, if_neg h]
theorem setr_same (x : St) (k : Nat) (f : Nat → Int32) : setr x k f k = f := by simp only [setr, if_true]
theorem setr_other (x : St) {k q : Nat} (f : Nat → Int32) (h : q ≠ k) : setr x k f q = x q := by simp only [setr, if_neg h]
theorem put_other {x S : St} {k n q : Nat} (h : q < k ∨ k + n ≤ q) : put x k n S q = x q := by
  unfold put
  rcases h with h | h
  · rw [if_neg (by omega)]
  · by_cases h1 : k ≤ q
    · rw [if_pos h1, if_neg (by omega)]
    · rw [if_neg h1]
theorem ent_x {g : GG} {x x2 mm : St} {q : Nat} (h : x2 q = x q) : ent g x2 mm q = ent g x mm q := by
  unfold ent
  rw [h]
theorem ent_m {g : GG} {x mm m2 : St} {q : Nat} (h : m2 (q - 56) = mm (q - 56)) : ent g x m2 q = ent g x mm q := by
  unfold ent
  rw [h]
theorem isSh_c {k : Nat} (h : isSh k = true) : k = 1 ∨ k = 8 ∨ k = 15 ∨ k = 27 ∨ k = 34 ∨ k = 41 := by
  simpa [isSh] using h
theorem isSt_c {k : Nat} (h : isSt k = true) : k = 48 ∨ k = 50 ∨ k = 52 ∨ k = 54 := by
  simpa [isSt] using h
theorem isSh_lt {k : Nat} (h : isSh k = true) : k < 70 := by
  rcases isSh_c h with rfl | rfl | rfl | rfl | rfl | rfl <;> decide
theorem isSt_lt {k : Nat} (h : isSt k = true) : k < 70 := by
  rcases isSt_c h with rfl | rfl | rfl | rfl <;> decide
theorem ent_sh {g : GG} {x mm : St} {k : Nat} (h : isSh k = true) : ent g x mm k = .inr (1, fsS g k (x k)) := by
  rcases isSh_c h with rfl | rfl | rfl | rfl | rfl | rfl <;> rfl
theorem ent_st {g : GG} {x mm : St} {k : Nat} (h : isSt k = true) : ent g x mm k = .inr (0, fsH g k (x k)) := by
  rcases isSt_c h with rfl | rfl | rfl | rfl <;> rfl
theorem ent_sha {g : GG} {x mm : St} {k j : Nat} (h : isSh k = true) (h1 : 1 ≤ j) (h2 : j < 7) : k + j < 70 ∧ ent g x mm (k + j) = .inl (g.2.1 0, shl j, .inl (x (k + j))) := by
  rcases isSh_c h with rfl | rfl | rfl | rfl | rfl | rfl <;>
    rcases (show j = 1 ∨ j = 2 ∨ j = 3 ∨ j = 4 ∨ j = 5 ∨ j = 6 by omega) with rfl | rfl | rfl | rfl | rfl | rfl <;> exact ⟨by decide, rfl⟩
theorem ent_sta {g : GG} {x mm : St} {k : Nat} (h : isSt k = true) : k + 1 < 70 ∧ ent g x mm (k + 1) = .inl (g.2.1 0, 40, .inl (x (k + 1))) := by
  rcases isSt_c h with rfl | rfl | rfl | rfl <;> exact ⟨by decide, rfl⟩
def isMA (j : Nat) : Bool := j == 1 || (j == 2 || (j == 3 || (j == 4 || (j == 5 || (j == 8 || (j == 9 || (j == 10 || (j == 11 || (j == 12 || j == 13)))))))))
theorem isMA_c {j : Nat} (h : isMA j = true) : j = 1 ∨ j = 2 ∨ j = 3 ∨ j = 4 ∨ j = 5 ∨ j = 8 ∨ j = 9 ∨ j = 10 ∨ j = 11 ∨ j = 12 ∨ j = 13 := by
  simpa [isMA] using h
theorem ent_ma {g : GG} {x mm : St} {j : Nat} (h : isMA j = true) : 56 + j < 70 ∧ ent g x mm (56 + j) = .inl (g.2.1 0, alM j, .inl (mm j)) := by
  rcases isMA_c h with rfl | rfl | rfl | rfl | rfl | rfl | rfl | rfl | rfl | rfl | rfl <;> exact ⟨by decide, rfl⟩
theorem fsS_set (g : GG) (k : Nat) (F : Nat → Int32) (v : Int32) {j : Nat} (h1 : 6 ≤ j) (h2 : j < 10) : (fsS g k F).set j (.int v) = fsS g k (upd F j v) := by
  rcases (show j = 6 ∨ j = 7 ∨ j = 8 ∨ j = 9 by omega) with rfl | rfl | rfl | rfl <;> rfl
theorem fsT_set (g : GG) (k : Nat) (F : Nat → Int32) (v : Int32) {j : Nat} (h1 : 1 ≤ j) (h2 : j < 6) : (fsT g k F).set j (.int v) = fsT g k (upd F j v) := by
  rcases (show j = 1 ∨ j = 2 ∨ j = 3 ∨ j = 4 ∨ j = 5 by omega) with rfl | rfl | rfl | rfl | rfl <;> rfl
theorem fsH_set (g : GG) (k : Nat) (F : Nat → Int32) (v : Int32) {j : Nat} (h1 : 1 ≤ j) (h2 : j < 3) : (fsH g k F).set j (.int v) = fsH g k (upd F j v) := by
  rcases (show j = 1 ∨ j = 2 by omega) with rfl | rfl <;> rfl
theorem sht_ok {i : Int32} {k : Nat} (h : rdn 4 sht i = some k) : isSt k = true := by
  obtain ⟨h1, h2⟩ := rdn_ok h
  have h3 : i.toNatClampNeg < 4 := Nat.not_le.mp fun q => h1 (Or.inr q)
  rw [← h2]
  rcases (show i.toNatClampNeg = 0 ∨ i.toNatClampNeg = 1 ∨ i.toNatClampNeg = 2 ∨ i.toNatClampNeg = 3 by omega) with e | e | e | e <;> rw [e] <;> rfl
theorem lvl_ok {i : Int32} {k : Nat} (h : rdn 4 lvl i = some k) : isSh k = true := by
  obtain ⟨h1, h2⟩ := rdn_ok h
  have h3 : i.toNatClampNeg < 4 := Nat.not_le.mp fun q => h1 (Or.inr q)
  rw [← h2]
  rcases (show i.toNatClampNeg = 0 ∨ i.toNatClampNeg = 1 ∨ i.toNatClampNeg = 2 ∨ i.toNatClampNeg = 3 by omega) with e | e | e | e <;> rw [e] <;> rfl
theorem bool_nf {v : Int32} (h : v = 0 ∨ v = 1) : narrow .boolean (.int v) = .int v ∧ fits .boolean (.int v) = true := by
  rcases h with rfl | rfl <;> exact ⟨rfl, rfl⟩
section LR
variable {p : Program} {l : Launch} {e : Env} {R : Room} {s : State} {m : MethodId} {args : Array Value} {below : List Frame} {meth : Method} {c : Code} {Q : State → Prop} {cc : ByteArray} {nL : Nat} {own : String} {g : GG} {sz : Nat} {x mm S : St} {pc : Nat} {lv : List (Nat × Value)} {st : List Value}
theorem j1_get {k : Nat} (hk : isSh k = true) (C : Cx p m c cc nL s args own g sz) (j : Nat) (hj : j < 10) {idx : Nat} (hlink : Cond.fieldLink own idx (TX1 j).1 (TX1 j).2.1 (TX1 j).2.2.1 ∈ ALLW) {v : Value} (hv : (fsS g k (S 0))[j]? = some v) (hd : decode cc pc = .ok (.getfield idx, 3)) (n : Nat) (hn : pc + 3 = n) (kk : Wj p l e R s m args below meth c Q nL g sz (put x k 7 S) mm n lv (v :: st)) : Wj p l e R s m args below meth c Q nL g sz (put x k 7 S) mm pc lv (.ref (ad g k) :: st) :=
  j_get C k (isSh_lt hk) (by rw [ent_sh hk, put_0 (by decide)]) (C0 := RX1) (T := TX1) (N := 10) rfl inX1 j hj hlink hv hd n hn kk
theorem j3s_get {k : Nat} (hk : isSh k = true) (C : Cx p m c cc nL s args own g sz) (j : Nat) (hj : j < 10) {idx : Nat} (hlink : Cond.fieldLink own idx (TX1 j).1 (TX1 j).2.1 (TX1 j).2.2.1 ∈ ALLW) {v : Value} (hv : (fsS g k (x k))[j]? = some v) (hd : decode cc pc = .ok (.getfield idx, 3)) (n : Nat) (hn : pc + 3 = n) (kk : Wj p l e R s m args below meth c Q nL g sz x mm n lv (v :: st)) : Wj p l e R s m args below meth c Q nL g sz x mm pc lv (.ref (ad g k) :: st) :=
  j_get C k (isSh_lt hk) (ent_sh hk) (C0 := RX1) (T := TX1) (N := 10) rfl inX1 j hj hlink hv hd n hn kk
theorem j1_put {k : Nat} (hk : isSh k = true) (C : Cx p m c cc nL s args own g sz) (j : Nat) (h1 : 6 ≤ j) (h2 : j < 10) (hty : tyX1 j = .int) (hfin : (TX1 j).2.2.2 = false) {idx : Nat} (hlink : Cond.fieldLink own idx (TX1 j).1 (TX1 j).2.1 (TX1 j).2.2.1 ∈ ALLW) {v : Int32} (hd : decode cc pc = .ok (.putfield idx, 3)) (n : Nat) (hn : pc + 3 = n) (kk : Wj p l e R s m args below meth c Q nL g sz (put x k 7 (ups S 0 j v)) mm n lv st) : Wj p l e R s m args below meth c Q nL g sz (put x k 7 S) mm pc lv (.int v :: .ref (ad g k) :: st) :=
  j_put C k (isSh_lt hk) (ent_sh hk) (C0 := RX1) (T := TX1) (N := 10) rfl inX1 tyX1 tyX1_ok nmX1 j (by omega) hlink hfin hty (vp_nar_int _) rfl (by simp only [fsS, List.length_cons, List.length_nil]; omega) (by rw [← ups_put (by decide), Nat.add_zero, ent_sh hk, ups_same, fsS_set _ _ _ _ h1 h2]) (fun q hq => ent_x (by rw [← ups_put (by decide), Nat.add_zero, ups_other _ _ _ hq])) hd n hn kk
theorem j3s_put {k : Nat} (hk : isSh k = true) (C : Cx p m c cc nL s args own g sz) (j : Nat) (h1 : 6 ≤ j) (h2 : j < 10) (hty : tyX1 j = .int) (hfin : (TX1 j).2.2.2 = false) {idx : Nat} (hlink : Cond.fieldLink own idx (TX1 j).1 (TX1 j).2.1 (TX1 j).2.2.1 ∈ ALLW) {v : Int32} (hd : decode cc pc = .ok (.putfield idx, 3)) (n : Nat) (hn : pc + 3 = n) (kk : Wj p l e R s m args below meth c Q nL g sz (ups x k j v) mm n lv st) : Wj p l e R s m args below meth c Q nL g sz x mm pc lv (.int v :: .ref (ad g k) :: st) :=
  j_put C k (isSh_lt hk) (ent_sh hk) (C0 := RX1) (T := TX1) (N := 10) rfl inX1 tyX1 tyX1_ok nmX1 j (by omega) hlink hfin hty (vp_nar_int _) rfl (by simp only [fsS, List.length_cons, List.length_nil]; omega) (by rw [ent_sh hk, ups_same, fsS_set _ _ _ _ h1 h2]) (fun q hq => ent_x (ups_other _ _ _ hq)) hd n hn kk
theorem j2_get (C : Cx p m c cc nL s args own g sz) (j : Nat) (hj : j < 6) {idx : Nat} (hlink : Cond.fieldLink own idx (TX2 j).1 (TX2 j).2.1 (TX2 j).2.2.1 ∈ ALLW) {v : Value} (hv : (fsT g 23 (S 0))[j]? = some v) (hd : decode cc pc = .ok (.getfield idx, 3)) (n : Nat) (hn : pc + 3 = n) (kk : Wj p l e R s m args below meth c Q nL g sz (put x 23 2 S) mm n lv (v :: st)) : Wj p l e R s m args below meth c Q nL g sz (put x 23 2 S) mm pc lv (.ref (ad g 23) :: st) :=
  j_get C 23 (by decide) (by show Sum.inr (2, fsT g 23 (put x 23 2 S 23)) = _; rw [put_0 (by decide)]) (C0 := RX2) (T := TX2) (N := 6) rfl inX2 j hj hlink hv hd n hn kk
theorem j3t_get (C : Cx p m c cc nL s args own g sz) (j : Nat) (hj : j < 6) {idx : Nat} (hlink : Cond.fieldLink own idx (TX2 j).1 (TX2 j).2.1 (TX2 j).2.2.1 ∈ ALLW) {v : Value} (hv : (fsT g 23 (x 23))[j]? = some v) (hd : decode cc pc = .ok (.getfield idx, 3)) (n : Nat) (hn : pc + 3 = n) (kk : Wj p l e R s m args below meth c Q nL g sz x mm n lv (v :: st)) : Wj p l e R s m args below meth c Q nL g sz x mm pc lv (.ref (ad g 23) :: st) :=
  j_get C 23 (by decide) rfl (C0 := RX2) (T := TX2) (N := 6) rfl inX2 j hj hlink hv hd n hn kk
theorem j2_put (C : Cx p m c cc nL s args own g sz) (j : Nat) (h1 : 1 ≤ j) (h2 : j < 6) (hty : tyX2 j = .int) (hfin : (TX2 j).2.2.2 = false) {idx : Nat} (hlink : Cond.fieldLink own idx (TX2 j).1 (TX2 j).2.1 (TX2 j).2.2.1 ∈ ALLW) {v : Int32} (hd : decode cc pc = .ok (.putfield idx, 3)) (n : Nat) (hn : pc + 3 = n) (kk : Wj p l e R s m args below meth c Q nL g sz (put x 23 2 (ups S 0 j v)) mm n lv st) : Wj p l e R s m args below meth c Q nL g sz (put x 23 2 S) mm pc lv (.int v :: .ref (ad g 23) :: st) :=
  j_put C 23 (by decide) (rfl : ent g (put x 23 2 S) mm 23 = .inr (2, fsT g 23 (put x 23 2 S 23))) (C0 := RX2) (T := TX2) (N := 6) rfl inX2 tyX2 tyX2_ok nmX2 j (by omega) hlink hfin hty (vp_nar_int _) rfl (by simp only [fsT, List.length_cons, List.length_nil]; omega) (by rw [← ups_put (k := 23) (j := 0) (by decide)]; show Sum.inr (2, fsT g 23 (ups (put x 23 2 S) 23 j v 23)) = _; rw [ups_same, fsT_set _ _ _ _ h1 h2]) (fun q hq => ent_x (by rw [← ups_put (k := 23) (j := 0) (by decide), ups_other _ _ _ hq])) hd n hn kk
theorem j3t_put (C : Cx p m c cc nL s args own g sz) (j : Nat) (h1 : 1 ≤ j) (h2 : j < 6) (hty : tyX2 j = .int) (hfin : (TX2 j).2.2.2 = false) {idx : Nat} (hlink : Cond.fieldLink own idx (TX2 j).1 (TX2 j).2.1 (TX2 j).2.2.1 ∈ ALLW) {v : Int32} (hd : decode cc pc = .ok (.putfield idx, 3)) (n : Nat) (hn : pc + 3 = n) (kk : Wj p l e R s m args below meth c Q nL g sz (ups x 23 j v) mm n lv st) : Wj p l e R s m args below meth c Q nL g sz x mm pc lv (.int v :: .ref (ad g 23) :: st) :=
  j_put C 23 (by decide) (rfl : ent g x mm 23 = .inr (2, fsT g 23 (x 23))) (C0 := RX2) (T := TX2) (N := 6) rfl inX2 tyX2 tyX2_ok nmX2 j (by omega) hlink hfin hty (vp_nar_int _) rfl (by simp only [fsT, List.length_cons, List.length_nil]; omega) (by show Sum.inr (2, fsT g 23 (ups x 23 j v 23)) = _; rw [ups_same, fsT_set _ _ _ _ h1 h2]) (fun q hq => ent_x (ups_other _ _ _ hq)) hd n hn kk
theorem j0_get {k : Nat} (hk : isSt k = true) (C : Cx p m c cc nL s args own g sz) (j : Nat) (hj : j < 3) {idx : Nat} (hlink : Cond.fieldLink own idx (TX0 j).1 (TX0 j).2.1 (TX0 j).2.2.1 ∈ ALLW) {v : Value} (hv : (fsH g k (S 0))[j]? = some v) (hd : decode cc pc = .ok (.getfield idx, 3)) (n : Nat) (hn : pc + 3 = n) (kk : Wj p l e R s m args below meth c Q nL g sz (put x k 2 S) mm n lv (v :: st)) : Wj p l e R s m args below meth c Q nL g sz (put x k 2 S) mm pc lv (.ref (ad g k) :: st) :=
  j_get C k (isSt_lt hk) (by rw [ent_st hk, put_0 (by decide)]) (C0 := RX0) (T := TX0) (N := 3) rfl inX0 j hj hlink hv hd n hn kk
theorem j3h_get {k : Nat} (hk : isSt k = true) (C : Cx p m c cc nL s args own g sz) (j : Nat) (hj : j < 3) {idx : Nat} (hlink : Cond.fieldLink own idx (TX0 j).1 (TX0 j).2.1 (TX0 j).2.2.1 ∈ ALLW) {v : Value} (hv : (fsH g k (x k))[j]? = some v) (hd : decode cc pc = .ok (.getfield idx, 3)) (n : Nat) (hn : pc + 3 = n) (kk : Wj p l e R s m args below meth c Q nL g sz x mm n lv (v :: st)) : Wj p l e R s m args below meth c Q nL g sz x mm pc lv (.ref (ad g k) :: st) :=
  j_get C k (isSt_lt hk) (ent_st hk) (C0 := RX0) (T := TX0) (N := 3) rfl inX0 j hj hlink hv hd n hn kk
theorem j0_put {k : Nat} (hk : isSt k = true) (C : Cx p m c cc nL s args own g sz) (j : Nat) (h1 : 1 ≤ j) (h2 : j < 3) (hty : tyX0 j = .int) (hfin : (TX0 j).2.2.2 = false) {idx : Nat} (hlink : Cond.fieldLink own idx (TX0 j).1 (TX0 j).2.1 (TX0 j).2.2.1 ∈ ALLW) {v : Int32} (hd : decode cc pc = .ok (.putfield idx, 3)) (n : Nat) (hn : pc + 3 = n) (kk : Wj p l e R s m args below meth c Q nL g sz (put x k 2 (ups S 0 j v)) mm n lv st) : Wj p l e R s m args below meth c Q nL g sz (put x k 2 S) mm pc lv (.int v :: .ref (ad g k) :: st) :=
  j_put C k (isSt_lt hk) (ent_st hk) (C0 := RX0) (T := TX0) (N := 3) rfl inX0 tyX0 tyX0_ok nmX0 j (by omega) hlink hfin hty (vp_nar_int _) rfl (by simp only [fsH, List.length_cons, List.length_nil]; omega) (by rw [← ups_put (by decide), Nat.add_zero, ent_st hk, ups_same, fsH_set _ _ _ _ h1 h2]) (fun q hq => ent_x (by rw [← ups_put (by decide), Nat.add_zero, ups_other _ _ _ hq])) hd n hn kk
theorem j3_get (C : Cx p m c cc nL s args own g sz) (j : Nat) (hj : j < 8) {idx : Nat} (hlink : Cond.fieldLink own idx (TX3 j).1 (TX3 j).2.1 (TX3 j).2.2.1 ∈ ALLW) {v : Value} (hv : (fsP g (x 0))[j]? = some v) (hd : decode cc pc = .ok (.getfield idx, 3)) (n : Nat) (hn : pc + 3 = n) (kk : Wj p l e R s m args below meth c Q nL g sz x mm n lv (v :: st)) : Wj p l e R s m args below meth c Q nL g sz x mm pc lv (.ref (ad g 0) :: st) :=
  j_get C 0 (by decide) rfl (C0 := RX3) (T := TX3) (N := 8) rfl inX3 j hj hlink hv hd n hn kk
theorem j3_putz (C : Cx p m c cc nL s args own g sz) {idx : Nat} (hlink : Cond.fieldLink own idx (TX3 2).1 (TX3 2).2.1 (TX3 2).2.2.1 ∈ ALLW) {v : Int32} (hv : v = 0 ∨ v = 1) (hd : decode cc pc = .ok (.putfield idx, 3)) (n : Nat) (hn : pc + 3 = n) (kk : Wj p l e R s m args below meth c Q nL g sz (ups x 0 2 v) mm n lv st) : Wj p l e R s m args below meth c Q nL g sz x mm pc lv (.int v :: .ref (ad g 0) :: st) :=
  j_put C 0 (by decide) (rfl : ent g x mm 0 = .inr (3, fsP g (x 0))) (C0 := RX3) (T := TX3) (N := 8) rfl inX3 tyX3 tyX3_ok nmX3 2 (by decide) hlink rfl (ty := .boolean) rfl (bool_nf hv).1 (bool_nf hv).2 (Nat.lt_of_lt_of_le (by decide : 2 < 8) (Nat.le_refl 8)) (by show Sum.inr (3, fsP g (ups x 0 2 v 0)) = _; rw [ups_same]; rfl) (fun q hq => ent_x (ups_other _ _ _ hq)) hd n hn kk
theorem j4_get (C : Cx p m c cc nL s args own g sz) (j : Nat) (hj : j < 27) {idx : Nat} (hlink : Cond.fieldLink own idx (TX4 j).1 (TX4 j).2.1 (TX4 j).2.2.1 ∈ ALLW) {v : Value} (hv : (fsM g (mm 0))[j]? = some v) (hd : decode cc pc = .ok (.getfield idx, 3)) (n : Nat) (hn : pc + 3 = n) (kk : Wj p l e R s m args below meth c Q nL g sz x mm n lv (v :: st)) : Wj p l e R s m args below meth c Q nL g sz x mm pc lv (.ref (ad g 56) :: st) :=
  j_get C 56 (by decide) rfl (C0 := RX4) (T := TX4) (N := 27) rfl inX4 j hj hlink hv hd n hn kk
def fsM_w (j : Nat) : Bool := j == 3 || (j == 5 || (j == 6 || (j == 7 || (j == 8 || (j == 9 || (j == 11 || (j == 12 || (j == 13 || (j == 14 || (j == 15 || (j == 16 || (j == 20 || j == 21))))))))))))
theorem fsM_set (g : GG) (F : Nat → Int32) (v : Int32) {j : Nat} (h : fsM_w j = true) : j < 27 ∧ (fsM g F).set j (.int v) = fsM g (upd F j v) := by
  have h2 : j = 3 ∨ j = 5 ∨ j = 6 ∨ j = 7 ∨ j = 8 ∨ j = 9 ∨ j = 11 ∨ j = 12 ∨ j = 13 ∨ j = 14 ∨ j = 15 ∨ j = 16 ∨ j = 20 ∨ j = 21 := by simpa [fsM_w] using h
  rcases h2 with rfl | rfl | rfl | rfl | rfl | rfl | rfl | rfl | rfl | rfl | rfl | rfl | rfl | rfl <;> exact ⟨by decide, rfl⟩
theorem ent_mo {g : GG} {x mm m2 : St} {j : Nat} (h : ∀ q, q ≠ j → m2 q = mm q) : ∀ q, q ≠ 56 + j → ent g x m2 q = ent g x mm q := by
  intro q hq
  by_cases h1 : q < 56
  · unfold ent
    rw [if_pos h1, if_pos h1]
  · exact ent_m (h _ (by omega))
theorem j4_putT {ty : FieldType} (C : Cx p m c cc nL s args own g sz) (j : Nat) (hj : fsM_w j = true) (hty : tyX4 j = ty) (hfin : (TX4 j).2.2.2 = false) {idx : Nat} (hlink : Cond.fieldLink own idx (TX4 j).1 (TX4 j).2.1 (TX4 j).2.2.1 ∈ ALLW) {v : Int32} (hnar : narrow ty (.int v) = .int v) (hfit : fits ty (.int v) = true) (hd : decode cc pc = .ok (.putfield idx, 3)) (n : Nat) (hn : pc + 3 = n) (kk : Wj p l e R s m args below meth c Q nL g sz x (ups mm 0 j v) n lv st) : Wj p l e R s m args below meth c Q nL g sz x mm pc lv (.int v :: .ref (ad g 56) :: st) :=
  j_put C 56 (by decide) (rfl : ent g x mm 56 = .inr (4, fsM g (mm 0))) (C0 := RX4) (T := TX4) (N := 27) rfl inX4 tyX4 tyX4_ok nmX4 j (fsM_set g (mm 0) v hj).1 hlink hfin hty hnar hfit (fsM_set g (mm 0) v hj).1 (by show Sum.inr (4, fsM g (ups mm 0 j v 0)) = _; rw [ups_same, (fsM_set g (mm 0) v hj).2]) (ent_mo (j := 0) (fun q hq => ups_other _ _ _ hq)) hd n hn kk
theorem j4_put (C : Cx p m c cc nL s args own g sz) (j : Nat) (hj : fsM_w j = true) (hty : tyX4 j = .int) (hfin : (TX4 j).2.2.2 = false) {idx : Nat} (hlink : Cond.fieldLink own idx (TX4 j).1 (TX4 j).2.1 (TX4 j).2.2.1 ∈ ALLW) {v : Int32} (hd : decode cc pc = .ok (.putfield idx, 3)) (n : Nat) (hn : pc + 3 = n) (kk : Wj p l e R s m args below meth c Q nL g sz x (ups mm 0 j v) n lv st) : Wj p l e R s m args below meth c Q nL g sz x mm pc lv (.int v :: .ref (ad g 56) :: st) := j4_putT C j hj hty hfin hlink (vp_nar_int _) rfl hd n hn kk
theorem j4_putz (C : Cx p m c cc nL s args own g sz) (j : Nat) (hj : fsM_w j = true) (hty : tyX4 j = .boolean) (hfin : (TX4 j).2.2.2 = false) {idx : Nat} (hlink : Cond.fieldLink own idx (TX4 j).1 (TX4 j).2.1 (TX4 j).2.2.1 ∈ ALLW) {v : Int32} (hv : v = 0 ∨ v = 1) (hd : decode cc pc = .ok (.putfield idx, 3)) (n : Nat) (hn : pc + 3 = n) (kk : Wj p l e R s m args below meth c Q nL g sz x (ups mm 0 j v) n lv st) : Wj p l e R s m args below meth c Q nL g sz x mm pc lv (.int v :: .ref (ad g 56) :: st) := j4_putT C j hj hty hfin hlink (bool_nf hv).1 (bool_nf hv).2 hd n hn kk
theorem j1_ald {k : Nat} (hk : isSh k = true) (j : Nat) (hj1 : 1 ≤ j) (hj2 : j < 7) (C : Cx p m c cc nL s args own g sz) {i v : Int32} (hv : rd S j (shl j) i = some v) (hd : decode cc pc = .ok (.iaload, 1)) (n : Nat) (hn : pc + 1 = n) (kk : Wj p l e R s m args below meth c Q nL g sz (put x k 7 S) mm n lv (.int v :: st)) : Wj p l e R s m args below meth c Q nL g sz (put x k 7 S) mm pc lv (.int i :: .ref (ad g (k + j)) :: st) :=
  j_iald C (k + j) (ent_sha (g := g) (x := x) (mm := mm) hk hj1 hj2).1 (by rw [(ent_sha hk hj1 hj2).2, put_in hj2]) (rd_ok hv).1 (rd_ok hv).2 hd n hn kk
theorem j1_ast {k : Nat} (hk : isSh k = true) (j : Nat) (hj1 : 1 ≤ j) (hj2 : j < 7) {S2 : St} (C : Cx p m c cc nL s args own g sz) {i v : Int32} (hv : wr S j (shl j) i v = some S2) (hd : decode cc pc = .ok (.iastore, 1)) (n : Nat) (hn : pc + 1 = n) (kk : Wj p l e R s m args below meth c Q nL g sz (put x k 7 S2) mm n lv st) : Wj p l e R s m args below meth c Q nL g sz (put x k 7 S) mm pc lv (.int v :: .int i :: .ref (ad g (k + j)) :: st) := by
  obtain ⟨h1, h2⟩ := wr_ok hv
  subst h2
  exact j_iast C (k + j) (ent_sha (g := g) (x := x) (mm := mm) hk hj1 hj2).1 (by rw [(ent_sha hk hj1 hj2).2, put_in hj2]) h1 (by rw [← ups_put hj2, (ent_sha hk hj1 hj2).2, ups_same, put_in hj2]) (fun q hq => ent_x (by rw [← ups_put hj2, ups_other _ _ _ hq])) hd n hn kk
theorem j3s_ald {k : Nat} (hk : isSh k = true) (j : Nat) (hj1 : 1 ≤ j) (hj2 : j < 7) (C : Cx p m c cc nL s args own g sz) {i v : Int32} (hv : rd x (k + j) (shl j) i = some v) (hd : decode cc pc = .ok (.iaload, 1)) (n : Nat) (hn : pc + 1 = n) (kk : Wj p l e R s m args below meth c Q nL g sz x mm n lv (.int v :: st)) : Wj p l e R s m args below meth c Q nL g sz x mm pc lv (.int i :: .ref (ad g (k + j)) :: st) :=
  j_iald C (k + j) (ent_sha (g := g) (x := x) (mm := mm) hk hj1 hj2).1 (ent_sha hk hj1 hj2).2 (rd_ok hv).1 (rd_ok hv).2 hd n hn kk
theorem j3s_ast {k : Nat} (hk : isSh k = true) (j : Nat) (hj1 : 1 ≤ j) (hj2 : j < 7) {S2 : St} (C : Cx p m c cc nL s args own g sz) {i v : Int32} (hv : wr x (k + j) (shl j) i v = some S2) (hd : decode cc pc = .ok (.iastore, 1)) (n : Nat) (hn : pc + 1 = n) (kk : Wj p l e R s m args below meth c Q nL g sz S2 mm n lv st) : Wj p l e R s m args below meth c Q nL g sz x mm pc lv (.int v :: .int i :: .ref (ad g (k + j)) :: st) := by
  obtain ⟨h1, h2⟩ := wr_ok hv
  subst h2
  exact j_iast C (k + j) (ent_sha (g := g) (x := x) (mm := mm) hk hj1 hj2).1 (ent_sha hk hj1 hj2).2 h1 (by rw [(ent_sha hk hj1 hj2).2, ups_same]) (fun q hq => ent_x (ups_other _ _ _ hq)) hd n hn kk
theorem j2_ald (C : Cx p m c cc nL s args own g sz) {i v : Int32} (hv : rd S 1 120 i = some v) (hd : decode cc pc = .ok (.iaload, 1)) (n : Nat) (hn : pc + 1 = n) (kk : Wj p l e R s m args below meth c Q nL g sz (put x 23 2 S) mm n lv (.int v :: st)) : Wj p l e R s m args below meth c Q nL g sz (put x 23 2 S) mm pc lv (.int i :: .ref (ad g (24)) :: st) :=
  j_iald C (24) (by decide) (by show Sum.inl (g.2.1 0, 120, Sum.inl (put x 23 2 S (23 + 1))) = _; rw [put_in (by decide)]) (rd_ok hv).1 (rd_ok hv).2 hd n hn kk
theorem j2_ast {S2 : St} (C : Cx p m c cc nL s args own g sz) {i v : Int32} (hv : wr S 1 120 i v = some S2) (hd : decode cc pc = .ok (.iastore, 1)) (n : Nat) (hn : pc + 1 = n) (kk : Wj p l e R s m args below meth c Q nL g sz (put x 23 2 S2) mm n lv st) : Wj p l e R s m args below meth c Q nL g sz (put x 23 2 S) mm pc lv (.int v :: .int i :: .ref (ad g (24)) :: st) := by
  obtain ⟨h1, h2⟩ := wr_ok hv
  subst h2
  exact j_iast C (24) (by decide) (by show Sum.inl (g.2.1 0, 120, Sum.inl (put x 23 2 S (23 + 1))) = _; rw [put_in (by decide)]) h1 (by rw [← ups_put (k := 23) (j := 1) (by decide)]; show Sum.inl (g.2.1 0, 120, Sum.inl (ups (put x 23 2 S) (23 + 1) i.toNatClampNeg v (23 + 1))) = _; rw [ups_same, put_in (by decide)]) (fun q hq => ent_x (by rw [← ups_put (k := 23) (j := 1) (by decide), ups_other _ _ _ hq])) hd n hn kk
theorem j0_ald {k : Nat} (hk : isSt k = true) (C : Cx p m c cc nL s args own g sz) {i v : Int32} (hv : rd S 1 40 i = some v) (hd : decode cc pc = .ok (.iaload, 1)) (n : Nat) (hn : pc + 1 = n) (kk : Wj p l e R s m args below meth c Q nL g sz (put x k 2 S) mm n lv (.int v :: st)) : Wj p l e R s m args below meth c Q nL g sz (put x k 2 S) mm pc lv (.int i :: .ref (ad g (k + 1)) :: st) :=
  j_iald C (k + 1) (ent_sta (g := g) (x := x) (mm := mm) hk).1 (by rw [(ent_sta hk).2, put_in (by decide)]) (rd_ok hv).1 (rd_ok hv).2 hd n hn kk
theorem j0_ast {k : Nat} (hk : isSt k = true) {S2 : St} (C : Cx p m c cc nL s args own g sz) {i v : Int32} (hv : wr S 1 40 i v = some S2) (hd : decode cc pc = .ok (.iastore, 1)) (n : Nat) (hn : pc + 1 = n) (kk : Wj p l e R s m args below meth c Q nL g sz (put x k 2 S2) mm n lv st) : Wj p l e R s m args below meth c Q nL g sz (put x k 2 S) mm pc lv (.int v :: .int i :: .ref (ad g (k + 1)) :: st) := by
  obtain ⟨h1, h2⟩ := wr_ok hv
  subst h2
  exact j_iast C (k + 1) (ent_sta (g := g) (x := x) (mm := mm) hk).1 (by rw [(ent_sta hk).2, put_in (by decide)]) h1 (by rw [← ups_put (by decide), (ent_sta hk).2, ups_same, put_in (by decide)]) (fun q hq => ent_x (by rw [← ups_put (by decide), ups_other _ _ _ hq])) hd n hn kk
theorem j3h_ald {k : Nat} (hk : isSt k = true) (C : Cx p m c cc nL s args own g sz) {i v : Int32} (hv : rd x (k + 1) 40 i = some v) (hd : decode cc pc = .ok (.iaload, 1)) (n : Nat) (hn : pc + 1 = n) (kk : Wj p l e R s m args below meth c Q nL g sz x mm n lv (.int v :: st)) : Wj p l e R s m args below meth c Q nL g sz x mm pc lv (.int i :: .ref (ad g (k + 1)) :: st) :=
  j_iald C (k + 1) (ent_sta (g := g) (x := x) (mm := mm) hk).1 (ent_sta hk).2 (rd_ok hv).1 (rd_ok hv).2 hd n hn kk
theorem j3h_ast {k : Nat} (hk : isSt k = true) {S2 : St} (C : Cx p m c cc nL s args own g sz) {i v : Int32} (hv : wr x (k + 1) 40 i v = some S2) (hd : decode cc pc = .ok (.iastore, 1)) (n : Nat) (hn : pc + 1 = n) (kk : Wj p l e R s m args below meth c Q nL g sz S2 mm n lv st) : Wj p l e R s m args below meth c Q nL g sz x mm pc lv (.int v :: .int i :: .ref (ad g (k + 1)) :: st) := by
  obtain ⟨h1, h2⟩ := wr_ok hv
  subst h2
  exact j_iast C (k + 1) (ent_sta (g := g) (x := x) (mm := mm) hk).1 (ent_sta hk).2 h1 (by rw [(ent_sta hk).2, ups_same]) (fun q hq => ent_x (ups_other _ _ _ hq)) hd n hn kk
theorem j3f_ald (C : Cx p m c cc nL s args own g sz) {i v : Int32} (hv : rd x 26 7 i = some v) (hd : decode cc pc = .ok (.iaload, 1)) (n : Nat) (hn : pc + 1 = n) (kk : Wj p l e R s m args below meth c Q nL g sz x mm n lv (.int v :: st)) : Wj p l e R s m args below meth c Q nL g sz x mm pc lv (.int i :: .ref (ad g (26)) :: st) :=
  j_iald C (26) (by decide) (rfl : ent g x mm 26 = .inl (g.2.1 0, 7, .inl (x 26))) (rd_ok hv).1 (rd_ok hv).2 hd n hn kk
theorem j3f_ast {S2 : St} (C : Cx p m c cc nL s args own g sz) {i v : Int32} (hv : wr x 26 7 i v = some S2) (hd : decode cc pc = .ok (.iastore, 1)) (n : Nat) (hn : pc + 1 = n) (kk : Wj p l e R s m args below meth c Q nL g sz S2 mm n lv st) : Wj p l e R s m args below meth c Q nL g sz x mm pc lv (.int v :: .int i :: .ref (ad g (26)) :: st) := by
  obtain ⟨h1, h2⟩ := wr_ok hv
  subst h2
  exact j_iast C (26) (by decide) (rfl : ent g x mm 26 = .inl (g.2.1 0, 7, .inl (x 26))) h1 (by show Sum.inl (g.2.1 0, 7, Sum.inl (ups x 26 i.toNatClampNeg v 26)) = _; rw [ups_same]; rfl) (fun q hq => ent_x (ups_other _ _ _ hq)) hd n hn kk
theorem j4_ald (j : Nat) (hj : isMA j = true) (C : Cx p m c cc nL s args own g sz) {i v : Int32} (hv : rd mm j (alM j) i = some v) (hd : decode cc pc = .ok (.iaload, 1)) (n : Nat) (hn : pc + 1 = n) (kk : Wj p l e R s m args below meth c Q nL g sz x mm n lv (.int v :: st)) : Wj p l e R s m args below meth c Q nL g sz x mm pc lv (.int i :: .ref (ad g (56 + j)) :: st) :=
  j_iald C (56 + j) (ent_ma (g := g) (x := x) (mm := mm) hj).1 (ent_ma hj).2 (rd_ok hv).1 (rd_ok hv).2 hd n hn kk
theorem j4_ast (j : Nat) (hj : isMA j = true) {S2 : St} (C : Cx p m c cc nL s args own g sz) {i v : Int32} (hv : wr mm j (alM j) i v = some S2) (hd : decode cc pc = .ok (.iastore, 1)) (n : Nat) (hn : pc + 1 = n) (kk : Wj p l e R s m args below meth c Q nL g sz x S2 n lv st) : Wj p l e R s m args below meth c Q nL g sz x mm pc lv (.int v :: .int i :: .ref (ad g (56 + j)) :: st) := by
  obtain ⟨h1, h2⟩ := wr_ok hv
  subst h2
  exact j_iast C (56 + j) (ent_ma (g := g) (x := x) (mm := mm) hj).1 (ent_ma hj).2 h1 (by rw [(ent_ma hj).2, ups_same]) (ent_mo (fun q hq => ups_other _ _ _ hq)) hd n hn kk
theorem j3_levels (C : Cx p m c cc nL s args own g sz) {i : Int32} {k : Nat} (hv : rdn 4 lvl i = some k) (hd : decode cc pc = .ok (.aaload, 1)) (n : Nat) (hn : pc + 1 = n) (kk : Wj p l e R s m args below meth c Q nL g sz x mm n lv (.ref (ad g k) :: st)) : Wj p l e R s m args below meth c Q nL g sz x mm pc lv (.int i :: .ref (ad g 22) :: st) :=
  j_aald C 22 (by decide) 1 (rfl : ent g x mm 22 = .inl (g.2.1 1, 4, .inr (.inr (.inr (.inr (fun i => some (ad g (lvl i)))))))) rfl (rdn_ok hv).1 (by rw [← (rdn_ok hv).2]) hd n hn kk
theorem j3_sheets (C : Cx p m c cc nL s args own g sz) {i : Int32} {k : Nat} (hv : rdn 4 sht i = some k) (hd : decode cc pc = .ok (.aaload, 1)) (n : Nat) (hn : pc + 1 = n) (kk : Wj p l e R s m args below meth c Q nL g sz x mm n lv (.ref (ad g k) :: st)) : Wj p l e R s m args below meth c Q nL g sz x mm pc lv (.int i :: .ref (ad g 25) :: st) :=
  j_aald C 25 (by decide) 2 (rfl : ent g x mm 25 = .inl (g.2.1 2, 4, .inr (.inr (.inr (.inr (fun i => some (ad g (sht i)))))))) rfl (rdn_ok hv).1 (by rw [← (rdn_ok hv).2]) hd n hn kk
def isSA (q : Nat) : Bool := q == 6 || q == 7
def stb (q i : Nat) : Nat := if q = 6 then i else 7 + i
theorem ent_sa {q : Nat} (h : isSA q = true) : 56 + q < 70 ∧ ent g x mm (56 + q) = .inl (g.2.1 3, alM q, .inr (.inr (.inr (.inr (fun i => some (adK g (stb q i))))))) := by
  rcases (show q = 6 ∨ q = 7 by simpa [isSA] using h) with rfl | rfl <;> exact ⟨by decide, rfl⟩
theorem j4_words (C : Cx p m c cc nL s args own g sz) (q : Nat) (hq : isSA q = true) {i : Int32} {w : Nat} (hv : rdn (alM q) (stb q) i = some w) (hd : decode cc pc = .ok (.aaload, 1)) (n : Nat) (hn : pc + 1 = n) (kk : Wj p l e R s m args below meth c Q nL g sz x mm n lv (.ref (adK g w) :: st)) : Wj p l e R s m args below meth c Q nL g sz x mm pc lv (.int i :: .ref (ad g (56 + q)) :: st) :=
  j_aald C (56 + q) (ent_sa (g := g) (x := x) (mm := mm) hq).1 3 (ent_sa hq).2 rfl (rdn_ok hv).1 (by rw [← (rdn_ok hv).2]) hd n hn kk
theorem j4_wlen (C : Cx p m c cc nL s args own g sz) (q : Nat) (hq : isSA q = true) (hd : decode cc pc = .ok (.arraylength, 1)) (n : Nat) (hn : pc + 1 = n) (kk : Wj p l e R s m args below meth c Q nL g sz x mm n lv (.int (nI (alM q)) :: st)) : Wj p l e R s m args below meth c Q nL g sz x mm pc lv (.ref (ad g (56 + q)) :: st) :=
  j_alen C (56 + q) (ent_sa (g := g) (x := x) (mm := mm) hq).1 3 (ent_sa hq).2 rfl rfl hd n hn kk
theorem rcv_sh {k : Nat} (hk : isSh k = true) : RecvJ g x mm (ad g k) RX1 := ⟨k, 1, _, TX1, 10, rfl, isSh_lt hk, ent_sh hk, rfl⟩
theorem rcv_st {k : Nat} (hk : isSt k = true) : RecvJ g x mm (ad g k) RX0 := ⟨k, 0, _, TX0, 3, rfl, isSt_lt hk, ent_st hk, rfl⟩
theorem rcv_tp : RecvJ g x mm (ad g 23) RX2 := ⟨23, 2, _, TX2, 6, rfl, by decide, rfl, rfl⟩
theorem rcv_pl : RecvJ g x mm (ad g 0) RX3 := ⟨0, 3, _, TX3, 8, rfl, by decide, rfl, rfl⟩
theorem rcv_mo : RecvJ g x mm (ad g 56) RX4 := ⟨56, 4, _, TX4, 27, rfl, by decide, rfl, rfl⟩
end LR
