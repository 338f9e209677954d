/-! THE J LAYER: one world for both sides (70 objects at addresses ad 0 .. ad 69), its mutable ints as two functions x, mm (object, slot -> int). -/
abbrev St : Type := Nat → Nat → Int32
abbrev GG : Type := va_G × (Nat → ClassId) × (Nat → Nat) × (Nat → Nat) × (Nat → Nat) × (Nat → Nat)
abbrev ad (g : GG) (k : Nat) : Nat := g.2.2.1 k
abbrev adS (g : GG) (k : Nat) : Nat := g.2.2.2.1 k
abbrev adK (g : GG) (k : Nat) : Nat := g.2.2.2.2.1 k
abbrev adV (g : GG) (k : Nat) : Nat := g.2.2.2.2.2 k
def ups (x : St) (k j : Nat) (v : Int32) : St := fun a b => if a = k then (if b = j then v else x a b) else x a b
def setr (x : St) (k : Nat) (f : Nat → Int32) : St := fun a => if a = k then f else x a
def blk (x : St) (k : Nat) : St := fun j => x (k + j)
def put (x : St) (k n : Nat) (S : St) : St := fun a => if k ≤ a then (if a < k + n then S (a - k) else x a) else x a
def rd (x : St) (k n : Nat) (i : Int32) : Option Int32 := if i < 0 ∨ n ≤ i.toNatClampNeg then none else some (x k i.toNatClampNeg)
def wr (x : St) (k n : Nat) (i v : Int32) : Option St := if i < 0 ∨ n ≤ i.toNatClampNeg then none else some (ups x k i.toNatClampNeg v)
def rdc (n : Nat) (f : Nat → Int32) (i : Int32) : Option Int32 := if i < 0 ∨ n ≤ i.toNatClampNeg then none else some (f i.toNatClampNeg)
def rdn (n : Nat) (f : Nat → Nat) (i : Int32) : Option Nat := if i < 0 ∨ n ≤ i.toNatClampNeg then none else some (f i.toNatClampNeg)
def dvn (a b : Int32) : Option Int32 := if b = 0 then none else some (a / b)
def rmn (a b : Int32) : Option Int32 := if b = 0 then none else some (a - a / b * b)
def bl (v : Int32) : Option Int32 := if v = 0 ∨ v = 1 then some v else none
theorem bnd {α β : Type} {o : Option α} {f : α → Option β} {r : β} (h : o.bind f = some r) : ∃ v, o = some v ∧ f v = some r := by
  cases o with
  | none => cases h
  | some v => exact ⟨v, rfl, h⟩
theorem rd_ok {x : St} {k n : Nat} {i v : Int32} (h : rd x k n i = some v) : vp_in i n ∧ x k i.toNatClampNeg = v := by
  unfold rd at h
  split at h
  · cases h
  · rename_i q
    exact ⟨q, Option.some.inj h⟩
theorem wr_ok {x y : St} {k n : Nat} {i v : Int32} (h : wr x k n i v = some y) : vp_in i n ∧ ups x k i.toNatClampNeg v = y := by
  unfold wr at h
  split at h
  · cases h
  · rename_i q
    exact ⟨q, Option.some.inj h⟩
theorem rdc_ok {n : Nat} {f : Nat → Int32} {i v : Int32} (h : rdc n f i = some v) : vp_in i n ∧ f i.toNatClampNeg = v := by
  unfold rdc at h
  split at h
  · cases h
  · rename_i q
    exact ⟨q, Option.some.inj h⟩
theorem rdn_ok {n : Nat} {f : Nat → Nat} {i : Int32} {v : Nat} (h : rdn n f i = some v) : vp_in i n ∧ f i.toNatClampNeg = v := by
  unfold rdn at h
  split at h
  · cases h
  · rename_i q
    exact ⟨q, Option.some.inj h⟩
theorem dvn_ok {a b v : Int32} (h : dvn a b = some v) : ¬ b = 0 ∧ a / b = v := by
  unfold dvn at h
  split at h
  · cases h
  · rename_i q
    exact ⟨q, Option.some.inj h⟩
theorem rmn_ok {a b v : Int32} (h : rmn a b = some v) : ¬ b = 0 ∧ a - a / b * b = v := by
  unfold rmn at h
  split at h
  · cases h
  · rename_i q
    exact ⟨q, Option.some.inj h⟩
theorem bl_ok {v w : Int32} (h : bl v = some w) : v = w ∧ (v = 0 ∨ v = 1) := by
  unfold bl at h
  split at h
  · rename_i q
    rcases q with rfl | rfl
    · exact ⟨Option.some.inj h, Or.inl rfl⟩
    · exact ⟨Option.some.inj h, Or.inr rfl⟩
  · cases h
theorem put_blk (x : St) (k n : Nat) : put x k n (blk x k) = x := by
  funext a
  unfold put blk
  split
  · split
    · rename_i h _
      rw [Nat.add_sub_cancel' h]
    · rfl
  · rfl
theorem put_in {x S : St} {k n j : Nat} (h : j < n) : put x k n S (k + j) = S j := by
  unfold put
  rw [if_pos (Nat.le_add_right k j), if_pos (Nat.add_lt_add_left h k), Nat.add_sub_cancel_left]
theorem put_0 {x S : St} {k n : Nat} (h : 0 < n) : put x k n S k = S 0 := put_in (j := 0) h
theorem put_put (x S S' : St) (k n : Nat) : put (put x k n S) k n S' = put x k n S' := by
  funext a
  unfold put
  split
  · split
    · rfl
    · rfl
  · rfl
theorem ups_put {x S : St} {k n j i : Nat} {v : Int32} (h : j < n) : ups (put x k n S) (k + j) i v = put x k n (ups S j i v) := by
  funext a b
  unfold ups put
  by_cases h1 : k ≤ a
  · by_cases h2 : a < k + n
    · simp only [h1, h2, if_true]
      by_cases h3 : a = k + j
      · have h4 : a - k = j := by omega
        simp only [h3, h4, if_true, Nat.add_sub_cancel_left]
      · have h4 : ¬ a - k = j := by omega
        simp only [h3, h4, if_false]
    · have h3 : ¬ a = k + j := by omega
      simp only [h1, h2, h3, if_true, if_false]
  · have h3 : ¬ a = k + j := by omega
    simp only [h1, h3, if_false]
theorem setr_put {x S : St} {k n j : Nat} {f : Nat → Int32} (h : j < n) : setr (put x k n S) (k + j) f = put x k n (setr S j f) := by
  funext a
  unfold setr put
  by_cases h1 : k ≤ a
  · by_cases h2 : a < k + n
    · simp only [h1, h2, if_true]
      by_cases h3 : a = k + j
      · have h4 : a - k = j := by omega
        simp only [h3, h4, if_true, Nat.add_sub_cancel_left]
      · have h4 : ¬ a - k = j := by omega
        simp only [h3, h4, if_false]
    · have h3 : ¬ a = k + j := by omega
      simp only [h1, h2, h3, if_true, if_false]
  · have h3 : ¬ a = k + j := by omega
    simp only [h1, h3, if_false]
/-! the layout -/
def isSh (k : Nat) : Bool := k == 1 || (k == 8 || (k == 15 || (k == 27 || (k == 34 || k == 41))))
def isSt (k : Nat) : Bool := k == 48 || (k == 50 || (k == 52 || k == 54))
def shl (j : Nat) : Nat := [0, 24, 24, 42, 168, 3, 10].getD j 0
def lvl (i : Nat) : Nat := [1, 27, 34, 41].getD i 0
def sht (i : Nat) : Nat := [48, 50, 52, 54].getD i 0
def alX (k : Nat) : Nat := if isSh (k - 1) then 24 else if isSh (k - 2) then 24 else if isSh (k - 3) then 42 else if isSh (k - 4) then 168 else if isSh (k - 5) then 3 else if isSh (k - 6) then 10 else if k = 24 then 120 else if k = 26 then 7 else 40
def alM (j : Nat) : Nat := [0, 275, 275, 275, 8, 120, 7, 3, 240, 42, 4, 4, 160, 40].getD j 0
def fsS (g : GG) (k : Nat) (F : Nat → Int32) : List Value := [.ref (ad g (k + 1)), .ref (ad g (k + 2)), .ref (ad g (k + 3)), .ref (ad g (k + 4)), .ref (ad g (k + 5)), .ref (ad g (k + 6)), .int (F 6), .int (F 7), .int (F 8), .int (F 9)]
def fsT (g : GG) (k : Nat) (F : Nat → Int32) : List Value := [.ref (ad g (k + 1)), .int (F 1), .int (F 2), .int (F 3), .int (F 4), .int (F 5)]
def fsH (g : GG) (k : Nat) (F : Nat → Int32) : List Value := [.ref (ad g (k + 1)), .int (F 1), .int (F 2)]
def fsP (g : GG) (F : Nat → Int32) : List Value := [.ref (ad g 1), .ref (ad g 8), .int (F 2), .ref (ad g 15), .ref (ad g 22), .ref (ad g 23), .ref (ad g 25), .ref (ad g 26)]
def fsM (g : GG) (F : Nat → Int32) : List Value := [.ref (ad g 57), .ref (ad g 58), .ref (ad g 59), .int (F 3), .ref (ad g 60), .int (F 5), .int (F 6), .int (F 7), .int (F 8), .int (F 9), .ref (ad g 61), .int (F 11), .int (F 12), .int (F 13), .int (F 14), .int (F 15), .int (F 16), .ref (ad g 62), .ref (ad g 63), .ref (ad g 64), .int (F 20), .int (F 21), .ref (ad g 65), .ref (ad g 66), .ref (ad g 67), .ref (ad g 68), .ref (ad g 69)]
def entX (g : GG) (k : Nat) (F : Nat → Int32) : va_E := if isSh k then .inr (1, fsS g k F) else if isSt k then .inr (0, fsH g k F) else if k = 0 then .inr (3, fsP g F) else if k = 23 then .inr (2, fsT g k F) else if k = 22 then .inl (g.2.1 1, 4, .inr (.inr (.inr (.inr (fun i => some (ad g (lvl i))))))) else if k = 25 then .inl (g.2.1 2, 4, .inr (.inr (.inr (.inr (fun i => some (ad g (sht i))))))) else .inl (g.2.1 0, alX k, .inl F)
def entM (g : GG) (j : Nat) (F : Nat → Int32) : va_E := if j = 0 then .inr (4, fsM g F) else if j = 6 then .inl (g.2.1 3, 7, .inr (.inr (.inr (.inr (fun i => some (adK g i)))))) else if j = 7 then .inl (g.2.1 3, 3, .inr (.inr (.inr (.inr (fun i => some (adK g (7 + i))))))) else .inl (g.2.1 0, alM j, .inl F)
def ent (g : GG) (x mm : St) (k : Nat) : va_E := if k < 56 then entX g k (x k) else entM g (k - 56) (mm (k - 56))
def wl (g : GG) (f : Nat → va_E) : va_W := (List.range 70).map (fun k => (ad g k, f k))
theorem wl_get {g : GG} {f : Nat → va_E} {k : Nat} (h : k < 70) : (wl g f)[k]? = some (ad g k, f k) := by
  unfold wl
  rw [List.getElem?_map, List.getElem?_range h]
  rfl
theorem wl_set {g : GG} {f f' : Nat → va_E} {k : Nat} {e : va_E} (he : f' k = e) (ho : ∀ q, q ≠ k → f' q = f q) : (wl g f).set k (ad g k, e) = wl g f' := by
  apply List.ext_getElem?
  intro i
  rw [List.getElem?_set]
  unfold wl
  by_cases h : k = i
  · subst h
    simp only [if_true, List.length_map, List.length_range, List.getElem?_map]
    by_cases h2 : k < 70
    · rw [if_pos h2, List.getElem?_range h2]
      simp [he]
    · rw [if_neg h2, List.getElem?_eq_none (by simpa using h2)]
      rfl
  · rw [if_neg h, List.getElem?_map, List.getElem?_map]
    by_cases h2 : i < 70
    · rw [List.getElem?_range h2]
      simp [ho i (fun e => h e.symm)]
    · rw [List.getElem?_eq_none (by simpa using h2)]
      rfl
def tysJ (g : GG) : List (ClassId × FieldType) := [(g.2.1 0, .int), (g.2.1 1, .object "PennyLedge$Shelf"), (g.2.1 2, .object "PennyLedge$Sheet"), (g.2.1 3, .object "java/lang/String")]
def Ag (sz : Nat) : Nat → Prop := fun q => sz ≤ q
def stN (i : Nat) : String := ["OVER", "WORTH", "WEIGHS", "SLIDES", "LEAST_SETTING", "MOST_SETTING", "WAYS"].getD i ""
def stL (i : Nat) : Nat := [7, 7, 7, 7, 3, 3, 4].getD i 0
def stC (i : Nat) : Nat → Int32 := fun j => ([[-1, 0, 0, 1, 2, 0, 5], [1, 2, 50, 5, 25, 0, 0], [1, 2, 5, 3, 5, 1, 3], [1, 1, 0, 1, 1, 1, 0], [0, 1, 0], [60, 6, 3], [1, 7, 49, 343]].getD i []).getD j 0
def skL : List Nat := [4, 3, 5, 5, 4, 5, 4, 5, 6, 5, 2]
def skB : List (List Int32) := [[99, 111, 105, 110], [98, 105, 103], [119, 97, 116, 99, 104], [99, 114, 111, 119, 110], [98, 101, 110, 116], [116, 111, 107, 101, 110], [108, 101, 97, 100], [102, 111, 114, 99, 101], [115, 116, 114, 111, 107, 101], [115, 105, 100, 101, 115], [97, 116]]
def skT (i : Nat) : String := ["coin", "big", "watch", "crown", "bent", "token", "lead", "force", "stroke", "sides", "at"].getD i ""
def skX (i : Nat) : Nat := [333, 335, 337, 339, 341, 343, 344, 346, 348, 350, 328].getD i 0
def skM (i : Nat) : Nat := [27, 29, 31, 33, 35, 37, 39, 45, 47, 49, 329].getD i 0
/-- what stands fast: classes, static arrays, strings, addresses -/
def Bs (g : GG) (sz : Nat) (U : State) (H : Heap) : Prop :=
  (va_K g.1 vwCl (tysJ g) U ∧ (∀ i j, i < 70 → j < 70 → ad g i = ad g j → i = j) ∧ ∀ i, i < 70 → sz ≤ ad g i) ∧
  (∀ i, i < 7 → va_Z "PennyLedge" (stN i) "[I" (.ref (adS g i)) (Ag sz) U H ∧ va_T .int (adS g i) (stL i) (fun j => .int (stC i j)) (Ag sz) U H) ∧
  vk_S 11 skL skB (adK g) (adV g) (Ag sz) U H ∧ (∀ i, i < 11 → vk_R "PennyLedge" (skX i) (skT i) (adK g i) U ∧ vk_R "PennyLedgeModel" (skM i) (skT i) (adK g i) U) ∧
  (va_Nw (.fieldLinkNest RX1 60 "PennyLedge" "WORTH" "[I" "PennyLedge") U ∧ va_Nw (.fieldLinkNest RX1 77 "PennyLedge" "WEIGHS" "[I" "PennyLedge") U ∧ va_Nw (.fieldLinkNest RX1 86 "PennyLedge" "SLIDES" "[I" "PennyLedge") U) ∧
  (va_Z "java/lang/String" "COMPACT_STRINGS" "Z" (.int 1) (Ag sz) U H ∧ ∃ v : Value, (v = .null ∨ ∃ t, v = .ref t) ∧ va_Z "jdk/internal/util/Preconditions" "SIOOBE_FORMATTER" "Ljava/util/function/BiFunction;" v (Ag sz) U H)
def Wd (g : GG) (x mm : St) (H : Heap) : Prop := va_P g.1 vwCl (wl g (ent g x mm)) H
theorem Bs.D {g : GG} {sz : Nat} {U : State} {H : Heap} (h : Bs g sz U H) (f : Nat → va_E) : va_D (Ag sz) (wl g f) := by
  have key : ∀ (k : Nat) (q : Nat × va_E), (wl g f)[k]? = some q → k < 70 ∧ q.1 = ad g k := by
    intro k q hq
    by_cases h2 : k < 70
    · rw [wl_get h2] at hq
      cases hq
      exact ⟨h2, rfl⟩
    · unfold wl at hq
      rw [List.getElem?_map, List.getElem?_eq_none (by simpa using h2)] at hq
      cases hq
  refine ⟨fun i j p q hp hq hpq => ?_, fun k q hq => ?_⟩
  · obtain ⟨h1, e1⟩ := key i p hp
    obtain ⟨h2, e2⟩ := key j q hq
    exact h.1.2.1 i j h1 h2 (by rw [← e1, ← e2]; exact hpq)
  · obtain ⟨h1, e1⟩ := key k q hq
    show sz ≤ q.1
    rw [e1]
    exact h.1.2.2 k h1
theorem Bs.blind {g : GG} {sz : Nat} {U : State} {fr : JFrame} {mk : MethodId} {a : Array Value} (h : Bs g sz U U.heap) : Bs g sz (U.calling fr mk a) (U.calling fr mk a).heap := by
  obtain ⟨⟨h1, h2, h3⟩, h4, h5, h6, ⟨n1, n2, n3⟩, z1, v, hv, z2⟩ := h
  have hv2 : U.vm.Alike (U.calling fr mk a).vm := Vm.Alike.refl U.vm
  exact ⟨⟨va_K.moved hv2 h1, h2, h3⟩, fun i hi => ⟨va_Z.moved hv2 (h4 i hi).1, va_T.moved hv2 (h4 i hi).2⟩, vk_S.moved hv2 h5, fun i hi => ⟨vk_R.same rfl (h6 i hi).1, vk_R.same rfl (h6 i hi).2⟩, ⟨n1.same rfl rfl, n2.same rfl rfl, n3.same rfl rfl⟩, va_Z.moved hv2 z1, v, hv, va_Z.moved hv2 z2⟩
theorem Bs.go {g : GG} {sz : Nat} {s U : State} {H : Heap} {locs : List Loc} (h : Bs g sz s s.heap) (hS : va_S (Ag sz) s.heap H locs) (hW : s.WarmedH U.vm) : Bs g sz U H := by
  obtain ⟨⟨h1, h2, h3⟩, h4, h5, h6, ⟨n1, n2, n3⟩, z1, v, hv, z2⟩ := h
  have hv2 : s.vm.Alike U.vm := hW.alike
  exact ⟨⟨va_K.moved hv2 h1, h2, h3⟩, fun i hi => ⟨va_Z.moved hv2 ((h4 i hi).1.kept hS.2.1), va_T.moved hv2 ((h4 i hi).2.kept hS.2.1)⟩, vk_S.moved hv2 (h5.kept hS.2.1), fun i hi => ⟨vk_R.warm hW (h6 i hi).1, vk_R.warm hW (h6 i hi).2⟩, ⟨n1.warmF hW, n2.warmF hW, n3.warmF hW⟩, va_Z.moved hv2 (z1.kept hS.2.1), v, hv, va_Z.moved hv2 (z2.kept hS.2.1)⟩
/-! contracts -/
def PcJ (g : GG) (sz : Nat) (x mm : St) (av : List Value) : Array Value → State → Prop := va_Pc av (fun U => Bs g sz U U.heap ∧ Wd g x mm U.heap)
abbrev QvJ (g : GG) (sz : Nat) (x mm : St) : Array Value → State → Outcome → State → Prop := va_Qv (fun _ : Unit => True) (fun _ t => Wd g x mm t.heap) (Ag sz)
abbrev QiJ (g : GG) (sz : Nat) (r : Int32) (x mm : St) : Array Value → State → Outcome → State → Prop := va_Qi (fun (v : Int32) (_ : Unit) => v = r) (fun _ t => Wd g x mm t.heap) (Ag sz)
abbrev QlJ (g : GG) (sz : Nat) (r : Int64) (x mm : St) : Array Value → State → Outcome → State → Prop := va_Ql (fun (v : Int64) (_ : Unit) => v = r) (fun _ t => Wd g x mm t.heap) (Ag sz)
abbrev QrJ (g : GG) (sz : Nat) (r : Nat) (x mm : St) : Array Value → State → Outcome → State → Prop := va_Qr (fun _ : Unit => True) (fun _ a t => a = r ∧ Wd g x mm t.heap) (Ag sz)
def rmJ (f l : Nat) : Room := { frames := f, cells := 0, slots := 0, locals := l }
theorem PcJ.blind (g : GG) (sz : Nat) (x mm : St) (av : List Value) : FrameBlind (PcJ g sz x mm av) := fun _ _ _ _ q => ⟨q.1, q.2.1.blind, q.2.2⟩
theorem goodAll : ∀ w ∈ ALLW, goodWord w = true := fun w h => List.all_eq_true.mp (by decide +kernel : ALLW.all goodWord = true) w h
theorem gAll {c c' : Cond} (h : c' ∈ ALLW) : GoodIn (c :: ALLW) (c' :: ALLW) := fun w hw => by
  rcases List.mem_cons.mp hw with rfl | hw
  · exact ⟨List.mem_cons_of_mem _ h, good_of_word (goodAll _ h)⟩
  · exact ⟨List.mem_cons_of_mem _ hw, good_of_word (goodAll _ hw)⟩
theorem gLaw {c' : Cond} (h : c' ∈ ALLW) : GoodIn ALLW (c' :: ALLW) := fun w hw => by
  rcases List.mem_cons.mp hw with rfl | hw
  · exact ⟨h, good_of_word (goodAll _ h)⟩
  · exact ⟨hw, good_of_word (goodAll _ hw)⟩
