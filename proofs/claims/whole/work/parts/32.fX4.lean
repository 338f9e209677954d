def X4_finding (a1 : Int32) (S : St) : Option (Int32 × St) := (rd S 4 8 (((-1000001) - a1) + 1)).bind fun v1 => (wr S 4 8 (((-1000001) - a1) + 1) (v1 + 1)).bind fun S2 => (rd S2 4 8 0).bind fun v3 => (wr S2 4 8 0 (v3 + 1)).bind fun S4 => some (a1, S4)
def X4_within (a0 : Int32) (a1 : Int32) (a2 : Int32) : Int32 := if a0 < a1 then (0) else (if a2 < a0 then (0) else (1))
theorem b01_X4_within (a0 : Int32) (a1 : Int32) (a2 : Int32) : X4_within a0 a1 a2 = 0 ∨ X4_within a0 a1 a2 = 1 := by
  unfold X4_within
  repeat (first | exact Or.inl rfl | exact Or.inr rfl | split)
def X4_become (a1 : Int32) (a2 : Int32) (S : St) : Option (Int32 × St) := (rd S 1 275 a1).bind fun v1 => (wr S 1 275 a1 a2).bind fun S2 => some (v1, S2)
def X4_copyRow_L2 (r0 : Nat) (r1 : Nat) : Nat → Int32 → St → Option St
  | 0, _, _ => none
  | n + 1, b2, S => if 275 ≤ b2 then (some S) else ((rd S r0 (alM r0) b2).bind fun v2 => (wr S r1 (alM r1) b2 v2).bind fun S3 => X4_copyRow_L2 r0 r1 n (b2 + 1) S3)
def X4_copyRow (r0 : Nat) (r1 : Nat) (S : St) : Option St := X4_copyRow_L2 r0 r1 FU 0 S
def X4_putBack (a1 : Int32) (S : St) : Option (Int32 × St) := (X4_copyRow 3 1 S).bind fun S1 => some (a1, S1)
def X4_isCoin (a1 : Int32) (S : St) : Option Int32 := (rd S 1 275 4).bind fun v1 => some (X4_within a1 0 (v1 - 1))
def X4_isKind (a0 : Int32) : Int32 := (X4_within a0 0 6)
theorem b01_X4_isKind (a0 : Int32) : X4_isKind a0 = 0 ∨ X4_isKind a0 = 1 := by
  unfold X4_isKind
  repeat (first | exact Or.inl rfl | exact Or.inr rfl | exact b01_X4_within .. | split)
def X4_isColumn (a0 : Int32) : Int32 := (X4_within a0 0 6)
theorem b01_X4_isColumn (a0 : Int32) : X4_isColumn a0 = 0 ∨ X4_isColumn a0 = 1 := by
  unfold X4_isColumn
  repeat (first | exact Or.inl rfl | exact Or.inr rfl | exact b01_X4_within .. | split)
def X4_isCell (a0 : Int32) (a1 : Int32) : Int32 := if (X4_isColumn a0) = 0 then (0) else (if (X4_within a1 0 5) = 0 then (0) else (1))
theorem b01_X4_isCell (a0 : Int32) (a1 : Int32) : X4_isCell a0 a1 = 0 ∨ X4_isCell a0 a1 = 1 := by
  unfold X4_isCell
  repeat (first | exact Or.inl rfl | exact Or.inr rfl | exact b01_X4_isColumn .. | exact b01_X4_within .. | split)
def X4_cellOf (a0 : Int32) (a1 : Int32) : Int32 := ((6 * a0) + a1)
def X4_highOf (a1 : Int32) (S : St) : Option Int32 := (rd S 1 275 (65 + a1)).bind fun v1 => some v1
def X4_coinAt (a1 : Int32) (a2 : Int32) (S : St) : Option Int32 := (rd S 1 275 ((107 + (4 * a1)) + a2)).bind fun v1 => some v1
def X4_topOf (a1 : Int32) (S : St) : Option Int32 := (X4_highOf a1 S).bind fun r1 => (X4_coinAt a1 (r1 - 1) S).bind fun r2 => some r2
def X4_isOnShelf (a1 : Int32) (S : St) : Option Int32 := (rd S 1 275 (41 + a1)).bind fun v1 => if 100 ≤ v1 then (some 0) else (some 1)
def X4_comesOn (a1 : Int32) (a2 : Int32) (S : St) : Option St := (X4_highOf a2 S).bind fun r1 => (wr S 1 275 ((107 + (4 * a2)) + r1) a1).bind fun S2 => (rd S2 1 275 (65 + a2)).bind fun v3 => (wr S2 1 275 (65 + a2) (v3 + 1)).bind fun S4 => (wr S4 1 275 (41 + a1) ((10 * (a2 / 6)) + (irm a2 6))).bind fun S5 => some S5
def X4_taken (a1 : Int32) (S : St) : Option (Int32 × St) := (X4_topOf a1 S).bind fun r1 => (rd S 1 275 (65 + a1)).bind fun v2 => (wr S 1 275 (65 + a1) (v2 - 1)).bind fun S3 => some (r1, S3)
def X4_struck (a1 : Int32) (S : St) : Option (Int32 × St) := (rd S 1 275 4).bind fun v1 => (wr S 1 275 (17 + v1) a1).bind fun S2 => (wr S2 1 275 (41 + v1) 100).bind fun S3 => (rd S3 1 275 4).bind fun v4 => (wr S3 1 275 4 (v4 + 1)).bind fun S5 => some (v1, S5)
def X4_coin (a1 : Int32) (S : St) : Option (Int32 × St) := if (X4_isKind a1) = 0 then ((X4_finding (-1000001) S).bind fun (r11, S12) => some (r11, S12)) else ((rd S 1 275 4).bind fun v2 => if v2 = 24 then ((X4_finding (-1000002) S).bind fun (r8, S9) => some (r8, S9)) else ((X4_struck a1 S).bind fun (r5, S6) => some (r5, S6)))
def X4_above (a0 : Int32) : Int32 := if a0 = 0 then ((-1)) else (if a0 = 3 then (1) else (if a0 = 4 then (2) else (if a0 = 6 then (5) else (0))))
def X4_isUnder_L2 : Nat → Int32 → Int32 → Option Int32
  | 0, _, _ => none
  | n + 1, b1, b2 => if b2 < 0 then (if b2 < 0 then (some 0) else (some 1)) else (if b2 = b1 then (if b2 < 0 then (some 0) else (some 1)) else (X4_isUnder_L2 n b1 (X4_above b2)))
def X4_isUnder (a0 : Int32) (a1 : Int32) : Option Int32 := X4_isUnder_L2 FU a1 a0
def X4_kindOf (a1 : Int32) (S : St) : Option Int32 := (rd S 1 275 (17 + a1)).bind fun v1 => some v1
def X4_worth (a1 : Int32) (S : St) : Option Int32 := (X4_kindOf a1 S).bind fun r1 => if r1 = 0 then (some 1) else (if r1 = 1 then (some 2) else (if r1 = 2 then (some 50) else (if r1 = 3 then (some 5) else (if r1 = 4 then (some 25) else (some 0)))))
def X4_weighs (a1 : Int32) (S : St) : Option Int32 := (X4_kindOf a1 S).bind fun r1 => (X4_isUnder r1 2).bind fun r2 => if r2 = 0 then (if r1 = 1 then (some (1 + 1)) else (if r1 = 3 then (some (1 + 2)) else (if r1 = 6 then (some (1 + 2)) else (some (1 + 0))))) else (some (1 + 4))
def X4_slides (a1 : Int32) (S : St) : Option Int32 := (X4_kindOf a1 S).bind fun r1 => if r1 = 2 then (some 0) else ((X4_kindOf a1 S).bind fun r3 => if r3 = 6 then (some 0) else (some 1))
def X4_of_L83 : Nat → Int32 → Int32 → Int32 → Int32 → St → Option (Int32 × St)
  | 0, _, _, _, _, _ => none
  | n + 1, b1, b3, b4, b5, S => if 100 ≤ b3 then (some (b4, S)) else ((X4_highOf (X4_cellOf (b3 / 10) (irm b3 10)) S).bind fun r13 => if r13 ≤ b5 then (some (b4, S)) else ((X4_coinAt (X4_cellOf (b3 / 10) (irm b3 10)) b5 S).bind fun r15 => if r15 = b1 then (X4_of_L83 n b1 b3 b5 (b5 + 1) S) else (X4_of_L83 n b1 b3 b4 (b5 + 1) S)))
def X4_of (a1 : Int32) (a2 : Int32) (S : St) : Option (Int32 × St) := (X4_isCoin a1 S).bind fun r1 => if r1 = 0 then ((X4_finding (-1000001) S).bind fun (r4, S5) => some (r4, S5)) else (if (X4_within a2 0 5) = 0 then ((X4_finding (-1000001) S).bind fun (r24, S25) => some (r24, S25)) else ((rd S 1 275 (41 + a1)).bind fun v7 => if a2 = 0 then ((X4_kindOf a1 S).bind fun r9 => some (r9, S)) else (if a2 = 1 then (some (v7, S)) else (if a2 = 2 then (X4_of_L83 FU a1 v7 0 0 S) else (if a2 = 3 then ((X4_worth a1 S).bind fun r18 => some (r18, S)) else (if a2 = 4 then ((X4_weighs a1 S).bind fun r20 => some (r20, S)) else ((X4_slides a1 S).bind fun r21 => if r21 = 0 then (some (0, S)) else (some (1, S)))))))))
def X4_change (a1 : Int32) (a2 : Int32) (S : St) : Option (Int32 × St) := (X4_isCoin a1 S).bind fun r1 => if r1 = 0 then ((X4_finding (-1000001) S).bind fun (r4, S5) => some (r4, S5)) else (if (X4_isKind a2) = 0 then ((X4_finding (-1000001) S).bind fun (r8, S9) => some (r8, S9)) else ((X4_become (17 + a1) a2 S).bind fun (r11, S12) => some (r11, S12)))
def X4_lay (a1 : Int32) (a2 : Int32) (a3 : Int32) (S : St) : Option (Int32 × St) := (X4_isCoin a1 S).bind fun r1 => if r1 = 0 then ((X4_finding (-1000001) S).bind fun (r4, S5) => some (r4, S5)) else (if (X4_isCell a2 a3) = 0 then ((X4_finding (-1000001) S).bind fun (r20, S21) => some (r20, S21)) else ((rd S 1 275 (41 + a1)).bind fun v7 => if v7 = 100 then ((X4_highOf (X4_cellOf a2 a3) S).bind fun r9 => if r9 = 4 then ((X4_finding (-1000002) S).bind fun (r14, S15) => some (r14, S15)) else ((X4_comesOn a1 (X4_cellOf a2 a3) S).bind fun S11 => (X4_highOf (X4_cellOf a2 a3) S11).bind fun r12 => some (r12, S11))) else ((X4_finding (-1000005) S).bind fun (r17, S18) => some (r17, S18))))
def X4_lift (a1 : Int32) (a2 : Int32) (S : St) : Option (Int32 × St) := if (X4_isCell a1 a2) = 0 then ((X4_finding (-1000001) S).bind fun (r12, S13) => some (r12, S13)) else ((X4_highOf (X4_cellOf a1 a2) S).bind fun r2 => if r2 = 0 then ((X4_finding (-1000004) S).bind fun (r9, S10) => some (r9, S10)) else ((X4_taken (X4_cellOf a1 a2) S).bind fun (r5, S6) => (wr S6 1 275 (41 + r5) 100).bind fun S7 => some (r5, S7)))
def X4_height (a1 : Int32) (a2 : Int32) (S : St) : Option (Int32 × St) := if (X4_isCell a1 a2) = 0 then ((X4_finding (-1000001) S).bind fun (r3, S4) => some (r3, S4)) else ((X4_highOf (X4_cellOf a1 a2) S).bind fun r5 => some (r5, S))
def X4_seen (a1 : Int32) (a2 : Int32) (a3 : Int32) (S : St) : Option (Int32 × St) := if (X4_isCell a1 a2) = 0 then ((X4_finding (-1000001) S).bind fun (r3, S4) => some (r3, S4)) else (if (X4_within a3 0 3) = 0 then ((X4_finding (-1000001) S).bind fun (r13, S14) => some (r13, S14)) else ((X4_highOf (X4_cellOf a1 a2) S).bind fun r6 => if r6 ≤ a3 then ((X4_finding (-1000004) S).bind fun (r9, S10) => some (r9, S10)) else ((X4_coinAt (X4_cellOf a1 a2) a3 S).bind fun r11 => some (r11, S))))
def X4_set_L48 (b1 : Int32) (b2 : Int32) (t0 : Int32) (S : St) : Option (Int32 × St) := if t0 = 0 then ((X4_finding (-1000001) S).bind fun (r6, S7) => some (r6, S7)) else ((X4_become (1 + b1) b2 S).bind fun (r9, S10) => some (r9, S10))
def X4_set_L47 (b1 : Int32) (b2 : Int32) (S : St) : Option (Int32 × St) := X4_set_L48 b1 b2 0 S
def X4_set_L43 (b1 : Int32) (b2 : Int32) (S : St) : Option (Int32 × St) := X4_set_L48 b1 b2 1 S
def X4_set_L29 (b1 : Int32) (b2 : Int32) (S : St) : Option (Int32 × St) := if b1 = 2 then (if (X4_within b2 0 3) = 0 then (X4_set_L47 b1 b2 S) else (X4_set_L43 b1 b2 S)) else (X4_set_L47 b1 b2 S)
def X4_set_L14 (b1 : Int32) (b2 : Int32) (S : St) : Option (Int32 × St) := if b1 = 1 then (if (X4_within b2 1 6) = 0 then (X4_set_L29 b1 b2 S) else (X4_set_L43 b1 b2 S)) else (X4_set_L29 b1 b2 S)
def X4_set (a1 : Int32) (a2 : Int32) (S : St) : Option (Int32 × St) := if a1 = 0 then (if (X4_within a2 0 60) = 0 then (X4_set_L14 a1 a2 S) else (X4_set_L43 a1 a2 S)) else (X4_set_L14 a1 a2 S)
def X4_goesOver_L31 (t0 : Int32) (S : St) : Option St := (wr S 1 275 t0 102).bind fun S3 => (some (ups S3 0 5 ((S3 0 5) + 1))).bind fun S4 => some S4
def X4_goesOver (a1 : Int32) (a2 : Int32) (S : St) : Option St := (rd S 1 275 3).bind fun v1 => if a2 < v1 then (X4_goesOver_L31 (41 + a1) S) else ((rd S 1 275 3).bind fun v5 => if a2 < (7 - v5) then ((wr S 1 275 (41 + a1) 101).bind fun S7 => (some (ups S7 0 5 ((S7 0 5) + 1))).bind fun S8 => some S8) else (X4_goesOver_L31 (41 + a1) S))
def X4_runOf_L2 : Nat → Int32 → Int32 → St → Option Int32
  | 0, _, _, _ => none
  | n + 1, b1, b2, S => if 6 ≤ b2 then (some b2) else ((X4_highOf (X4_cellOf b1 b2) S).bind fun r2 => if r2 ≤ 0 then (some b2) else (X4_runOf_L2 n b1 (b2 + 1) S))
def X4_runOf (a1 : Int32) (S : St) : Option Int32 := X4_runOf_L2 FU a1 0 S
def X4_weightOf_L23 (k4 : Int32 → Int32 → Int32 → St → Option Int32) : Nat → Int32 → Int32 → Int32 → Int32 → Int32 → St → Option Int32
  | 0, _, _, _, _, _, _ => none
  | n + 1, b1, b2, b3, b4, b5, S => (X4_highOf b4 S).bind fun r3 => if r3 ≤ b5 then (k4 b1 b2 (b3 + 1) S) else ((X4_coinAt b4 b5 S).bind fun r5 => (X4_weighs r5 S).bind fun r6 => X4_weightOf_L23 k4 n b1 (b2 + r6) b3 b4 (b5 + 1) S)
def X4_weightOf_L4 : Nat → Int32 → Int32 → Int32 → St → Option Int32
  | 0, _, _, _, _ => none
  | n + 1, b1, b2, b3, S => (X4_runOf b1 S).bind fun r1 => if r1 ≤ b3 then (some b2) else (X4_weightOf_L23 (X4_weightOf_L4 n) FU b1 b2 b3 (X4_cellOf b1 b3) 0 S)
def X4_weightOf (a1 : Int32) (S : St) : Option Int32 := X4_weightOf_L4 FU a1 0 0 S
def X4_isMoved (a1 : Int32) (S : St) : Option Int32 := (X4_runOf a1 S).bind fun r1 => if r1 ≤ 0 then (some 0) else ((X4_weightOf a1 S).bind fun r3 => (rd S 1 275 1).bind fun v4 => if v4 < r3 then (some 0) else (some 1))
def X4_goesOn_L26 : Nat → Int32 → Int32 → Int32 → Int32 → Int32 → St → Option St
  | 0, _, _, _, _, _, _ => none
  | n + 1, b1, b2, b3, b4, b5, S => if b4 ≤ b5 then ((some (ups S 0 6 ((S 0 6) + b4))).bind fun S4 => some S4) else ((X4_coinAt b3 b5 S).bind fun r5 => if b2 = 5 then ((X4_goesOver r5 b1 S).bind fun S8 => X4_goesOn_L26 n b1 b2 b3 b4 (b5 + 1) S8) else ((X4_comesOn r5 (b3 + 1) S).bind fun S7 => X4_goesOn_L26 n b1 b2 b3 b4 (b5 + 1) S7))
def X4_goesOn (a1 : Int32) (a2 : Int32) (S : St) : Option St := (X4_highOf (X4_cellOf a1 a2) S).bind fun r1 => (wr S 1 275 (65 + (X4_cellOf a1 a2)) 0).bind fun S2 => X4_goesOn_L26 FU a1 a2 (X4_cellOf a1 a2) r1 0 S2
def X4_slidesOff (a1 : Int32) (a2 : Int32) (S : St) : Option St := (X4_taken (X4_cellOf a1 a2) S).bind fun (r2, S3) => if a2 = 5 then ((X4_goesOver r2 a1 S3).bind fun S7 => (some (ups S7 0 6 ((S7 0 6) + 1))).bind fun S8 => some S8) else ((X4_comesOn r2 (X4_cellOf a1 (a2 + 1)) S3).bind fun S5 => (some (ups S5 0 6 ((S5 0 6) + 1))).bind fun S6 => some S6)
def X4_isLeaning_L22 (b3 : Int32) (t0 : Int32) (S : St) : Option Int32 := (X4_highOf b3 S).bind fun r3 => if r3 < (t0 + 3) then (some 0) else ((X4_topOf b3 S).bind fun r5 => (X4_slides r5 S).bind fun r6 => if r6 = 0 then (some 0) else (some 1))
def X4_isLeaning (a1 : Int32) (a2 : Int32) (S : St) : Option Int32 := if a2 = 5 then (X4_isLeaning_L22 (X4_cellOf a1 a2) 0 S) else ((X4_highOf ((X4_cellOf a1 a2) + 1) S).bind fun r2 => X4_isLeaning_L22 (X4_cellOf a1 a2) r2 S)
def X4_beat_L70 (k64 : Int32 → St → Option St) : Nat → Int32 → Int32 → St → Option St
  | 0, _, _, _ => none
  | n + 1, b1, b2, S => if 7 ≤ b2 then (k64 (b1 + (-1)) S) else ((X4_isLeaning b2 b1 S).bind fun r6 => if r6 = 0 then (X4_beat_L70 k64 n b1 (b2 + 1) S) else ((X4_slidesOff b2 b1 S).bind fun S8 => X4_beat_L70 k64 n b1 (b2 + 1) S8))
def X4_beat_L64 : Nat → Int32 → St → Option St
  | 0, _, _ => none
  | n + 1, b1, S => if b1 < 0 then ((rd S 1 275 0).bind fun v3 => (wr S 1 275 0 (v3 + 1)).bind fun S4 => some S4) else (X4_beat_L70 (X4_beat_L64 n) FU b1 0 S)
def X4_beat_L40 (k2 : Int32 → St → Option St) : Nat → Int32 → Int32 → St → Option St
  | 0, _, _, _ => none
  | n + 1, b1, b2, S => if b2 < 0 then (k2 (b1 + 1) S) else ((X4_goesOn b1 b2 S).bind fun S17 => X4_beat_L40 k2 n b1 (b2 + (-1)) S17)
def X4_beat_L2 : Nat → Int32 → St → Option St
  | 0, _, _ => none
  | n + 1, b1, S => if 7 ≤ b1 then (X4_beat_L64 FU 5 S) else ((rd S 1 275 0).bind fun v9 => (rd S 1 275 2).bind fun v10 => (rmn v9 v10).bind fun v11 => if v11 = 0 then ((X4_isMoved b1 S).bind fun r13 => if r13 = 0 then (X4_beat_L2 n (b1 + 1) S) else ((X4_runOf b1 S).bind fun r15 => X4_beat_L40 (X4_beat_L2 n) FU b1 (r15 - 1) S)) else (X4_beat_L64 FU 5 S))
def X4_beat (S : St) : Option St := X4_beat_L2 FU 0 S
def X4_beatsGo_L7 : Nat → Int32 → Int32 → Int32 → St → Option (Int32 × St)
  | 0, _, _, _, _ => none
  | n + 1, b1, b2, b3, S => if b1 ≤ b3 then (some (((S 0 5) - b2), S)) else ((X4_beat S).bind fun S2 => X4_beatsGo_L7 n b1 b2 (b3 + 1) S2)
def X4_beatsGo (a1 : Int32) (S : St) : Option (Int32 × St) := X4_beatsGo_L7 FU a1 (S 0 5) 0 S
def X4_dropped_L39 (b1 : Int32) (b3 : Int32) (b4 : Int32) (S : St) : Option St := (rd S 1 275 5).bind fun v3 => (wr S 1 275 5 (v3 + 1)).bind fun S4 => if b4 = 7 then ((wr S4 1 275 (41 + b1) 102).bind fun S8 => (X4_beat S8).bind fun S9 => some S9) else ((X4_comesOn b1 (X4_cellOf b4 b3) S4).bind fun S6 => (X4_beat S6).bind fun S7 => some S7)
def X4_dropped_L12 : Nat → Int32 → Int32 → Int32 → St → Option St
  | 0, _, _, _, _ => none
  | n + 1, b1, b3, b4, S => if 7 ≤ b4 then (X4_dropped_L39 b1 b3 b4 S) else ((X4_highOf (X4_cellOf b4 b3) S).bind fun r10 => if r10 = 4 then (X4_dropped_L12 n b1 b3 (b4 + 1) S) else (X4_dropped_L39 b1 b3 b4 S))
def X4_dropped (a1 : Int32) (a2 : Int32) (S : St) : Option St := (rd S 1 275 0).bind fun v1 => X4_dropped_L12 FU a1 (irm v1 2) a2 S
def X4_setOf_L4 : Nat → Int32 → Int32 → Int32 → St → Option Int32
  | 0, _, _, _, _ => none
  | n + 1, b1, b2, b3, S => (rd S 1 275 4).bind fun v1 => if v1 ≤ b3 then (some b2) else ((rd S 1 275 (41 + b3)).bind fun v3 => if v3 = b1 then (X4_setOf_L4 n b1 (b2 ||| (shl32 1 b3)) (b3 + 1) S) else (X4_setOf_L4 n b1 (b2 ||| 0) (b3 + 1) S))
def X4_setOf (a1 : Int32) (S : St) : Option Int32 := X4_setOf_L4 FU a1 0 0 S
def X4_shelf (S : St) : Option Int32 := (rd S 1 275 4).bind fun v1 => (X4_setOf 100 S).bind fun r2 => (X4_setOf 101 S).bind fun r3 => (X4_setOf 102 S).bind fun r4 => some (((((shl32 1 v1) - 1) &&& (r2 ^^^ (-1))) &&& (r3 ^^^ (-1))) &&& (r4 ^^^ (-1)))
def X4_worthOf_L4 : Nat → Int32 → Int32 → Int32 → St → Option Int32
  | 0, _, _, _, _ => none
  | n + 1, b1, b2, b3, S => (rd S 1 275 4).bind fun v1 => if v1 ≤ b3 then (some b2) else (if ((shr32 b1 b3) &&& 1) = 1 then ((X4_worth b3 S).bind fun r4 => X4_worthOf_L4 n b1 (b2 + r4) (b3 + 1) S) else (X4_worthOf_L4 n b1 (b2 + 0) (b3 + 1) S))
def X4_worthOf (a1 : Int32) (S : St) : Option Int32 := X4_worthOf_L4 FU a1 0 0 S
def X4_gain (S : St) : Option Int32 := (X4_setOf 101 S).bind fun r1 => (X4_worthOf r1 S).bind fun r2 => (rd S 1 275 5).bind fun v3 => some (r2 - v3)
def X4_isInHand (a1 : Int32) (S : St) : Option Int32 := (rd S 1 275 (41 + a1)).bind fun v1 => if v1 = 100 then (some 1) else (some 0)
def X4_drop (a1 : Int32) (a2 : Int32) (S : St) : Option (Int32 × St) := (X4_isCoin a1 S).bind fun r1 => if r1 = 0 then ((X4_finding (-1000001) S).bind fun (r4, S5) => some (r4, S5)) else (if (X4_isColumn a2) = 0 then ((X4_finding (-1000001) S).bind fun (r21, S22) => some (r21, S22)) else ((X4_isInHand a1 S).bind fun r7 => if r7 = 0 then ((X4_finding (-1000005) S).bind fun (r10, S11) => some (r10, S11)) else ((rd S 1 275 0).bind fun v12 => if v12 = 9999 then ((X4_finding (-1000005) S).bind fun (r18, S19) => some (r18, S19)) else ((X4_gain S).bind fun r14 => (X4_dropped a1 a2 S).bind fun S15 => (X4_gain S15).bind fun r16 => some ((r16 - r14), S15)))))
def X4_isTooLate (a1 : Int32) (S : St) : Option Int32 := (rd S 1 275 0).bind fun v1 => if (v1 + a1) ≤ 9999 then (some 0) else (some 1)
def X4_beats (a1 : Int32) (S : St) : Option (Int32 × St) := if (X4_within a1 1 60) = 0 then ((X4_finding (-1000001) S).bind fun (r11, S12) => some (r11, S12)) else ((X4_isTooLate a1 S).bind fun r2 => if r2 = 0 then ((X4_beatsGo a1 S).bind fun (r5, S6) => some (r5, S6)) else ((X4_finding (-1000005) S).bind fun (r8, S9) => some (r8, S9)))
def X4_now (a1 : Int32) (S : St) : Option (Int32 × St) := if a1 = 0 then ((rd S 1 275 0).bind fun v2 => some (v2, S)) else (if a1 = 1 then ((X4_gain S).bind fun r4 => some (r4, S)) else (if a1 = 2 then ((X4_setOf 101 S).bind fun r6 => some (r6, S)) else (if a1 = 3 then ((X4_setOf 102 S).bind fun r8 => some (r8, S)) else (if a1 = 4 then ((X4_setOf 100 S).bind fun r10 => some (r10, S)) else (if a1 = 5 then ((rd S 1 275 5).bind fun v12 => some (v12, S)) else (if a1 = 6 then ((X4_setOf 102 S).bind fun r14 => (X4_worthOf r14 S).bind fun r15 => some (r15, S)) else ((X4_finding (-1000001) S).bind fun (r17, S18) => some (r17, S18))))))))
def X4_run (a1 : Int32) (S : St) : Option (Int32 × St) := if (X4_isColumn a1) = 0 then ((X4_finding (-1000001) S).bind fun (r3, S4) => some (r3, S4)) else ((X4_runOf a1 S).bind fun r5 => some (r5, S))
def X4_weight (a1 : Int32) (S : St) : Option (Int32 × St) := if (X4_isColumn a1) = 0 then ((X4_finding (-1000001) S).bind fun (r3, S4) => some (r3, S4)) else ((X4_weightOf a1 S).bind fun r5 => some (r5, S))
def X4_moved_L4 : Nat → Int32 → Int32 → St → Option Int32
  | 0, _, _, _ => none
  | n + 1, b1, b2, S => if 7 ≤ b2 then (some b1) else ((X4_isMoved b2 S).bind fun r2 => if r2 = 0 then (X4_moved_L4 n (b1 ||| 0) (b2 + 1) S) else (X4_moved_L4 n (b1 ||| (shl32 1 b2)) (b2 + 1) S))
def X4_moved (S : St) : Option Int32 := X4_moved_L4 FU 0 0 S
def X4_leaning_L12 (k4 : Int32 → Int32 → St → Option Int32) : Nat → Int32 → Int32 → Int32 → St → Option Int32
  | 0, _, _, _, _ => none
  | n + 1, b1, b2, b3, S => if 6 ≤ b3 then (k4 b1 (b2 + 1) S) else ((X4_isLeaning b2 b3 S).bind fun r3 => if r3 = 0 then (X4_leaning_L12 k4 n (b1 + 0) b2 (b3 + 1) S) else (X4_leaning_L12 k4 n (b1 + 1) b2 (b3 + 1) S))
def X4_leaning_L4 : Nat → Int32 → Int32 → St → Option Int32
  | 0, _, _, _ => none
  | n + 1, b1, b2, S => if 7 ≤ b2 then (some b1) else (X4_leaning_L12 (X4_leaning_L4 n) FU b1 b2 0 S)
def X4_leaning (S : St) : Option Int32 := X4_leaning_L4 FU 0 0 S
def X4_bits_L4 : Nat → Int32 → Int32 → Option Int32
  | 0, _, _ => none
  | n + 1, b1, b2 => if b2 = 0 then (some b1) else (X4_bits_L4 n (b1 + 1) (b2 &&& (b2 - 1)))
def X4_bits (a0 : Int32) : Option Int32 := X4_bits_L4 FU 0 a0
def X4_highest_L4 : Nat → Int32 → Int32 → St → Option Int32
  | 0, _, _, _ => none
  | n + 1, b1, b2, S => if 42 ≤ b2 then (some b1) else ((X4_highOf b2 S).bind fun r2 => X4_highest_L4 n (mxI b1 r2) (b2 + 1) S)
def X4_highest (S : St) : Option Int32 := X4_highest_L4 FU 0 0 S
def X4_ahead (a1 : Int32) (a2 : Int32) (S : St) : Option (Int32 × St) := if (X4_within a1 0 60) = 0 then ((X4_finding (-1000001) S).bind fun (r3, S4) => some (r3, S4)) else (if (X4_within a2 0 3) = 0 then ((X4_finding (-1000001) S).bind fun (r36, S37) => some (r36, S37)) else ((X4_isTooLate a1 S).bind fun r6 => if r6 = 0 then ((X4_copyRow 1 3 S).bind fun S8 => (X4_setOf 101 S8).bind fun r9 => (X4_beatsGo a1 S8).bind fun (r11, S12) => if a2 = 0 then ((X4_setOf 101 S12).bind fun r27 => (X4_worthOf (r27 &&& (r9 ^^^ (-1))) S12).bind fun r28 => (X4_putBack r28 S12).bind fun (r30, S31) => some (r30, S31)) else (if a2 = 1 then ((X4_putBack r11 S12).bind fun (r25, S26) => some (r25, S26)) else (if a2 = 2 then ((X4_shelf S12).bind fun r20 => (X4_putBack r20 S12).bind fun (r22, S23) => some (r22, S23)) else ((X4_highest S12).bind fun r16 => (X4_putBack r16 S12).bind fun (r18, S19) => some (r18, S19))))) else ((X4_finding (-1000005) S).bind fun (r33, S34) => some (r33, S34))))
def X4_falls_L76 (b2 : Int32) (S : St) : Option (Int32 × St) := (X4_putBack b2 S).bind fun (r13, S14) => if r13 ≤ 60 then (some (b2, S14)) else ((X4_finding (-1000004) S14).bind fun (r17, S18) => some (r17, S18))
def X4_falls_L52 : Nat → Int32 → Int32 → St → Option (Int32 × St)
  | 0, _, _, _ => none
  | n + 1, b1, b2, S => if 60 < b2 then (X4_falls_L76 b2 S) else ((X4_isOnShelf b1 S).bind fun r19 => if r19 = 0 then (X4_falls_L76 b2 S) else ((X4_beat S).bind fun S21 => X4_falls_L52 n b1 (b2 + 1) S21))
def X4_falls (a1 : Int32) (S : St) : Option (Int32 × St) := (X4_isCoin a1 S).bind fun r1 => if r1 = 0 then ((X4_finding (-1000001) S).bind fun (r26, S27) => some (r26, S27)) else ((X4_isOnShelf a1 S).bind fun r3 => if r3 = 0 then ((X4_finding (-1000005) S).bind fun (r6, S7) => some (r6, S7)) else ((X4_isTooLate 60 S).bind fun r8 => if r8 = 0 then ((X4_copyRow 1 3 S).bind fun S10 => X4_falls_L52 FU a1 0 S10) else ((X4_finding (-1000005) S).bind fun (r23, S24) => some (r23, S24))))
def X4_rest_L105 (t0 : Int32) (S : St) : Option (Int32 × St) := (X4_putBack t0 S).bind fun (r9, S10) => if 0 ≤ r9 then (some (t0, S10)) else ((X4_finding (-1000004) S10).bind fun (r13, S14) => some (r13, S14))
def X4_rest_L88 (b1 : Int32) (b2 : Int32) (S : St) : Option (Int32 × St) := (rd S 1 275 2).bind fun v6 => if v6 ≤ b1 then (X4_rest_L105 (b2 - b1) S) else (X4_rest_L105 (-1) S)
def X4_rest_L34 : Nat → Int32 → Int32 → St → Option (Int32 × St)
  | 0, _, _, _ => none
  | n + 1, b1, b2, S => (rd S 1 275 2).bind fun v4 => if (60 + v4) ≤ b2 then (X4_rest_L88 b1 b2 S) else ((rd S 1 275 2).bind fun v15 => if v15 ≤ b1 then (X4_rest_L88 b1 b2 S) else ((X4_beat S).bind fun S17 => if (S17 0 6) = (S 0 6) then (X4_rest_L34 n (b1 + 1) (b2 + 1) S17) else (X4_rest_L34 n 0 (b2 + 1) S17)))
def X4_rest (S : St) : Option (Int32 × St) := (rd S 1 275 0).bind fun v1 => if v1 ≤ 9930 then ((X4_copyRow 1 3 S).bind fun S3 => X4_rest_L34 FU 0 0 S3) else ((X4_finding (-1000005) S).bind fun (r20, S21) => some (r20, S21))
def X4_refuses (a1 : Int32) (a2 : Int32) (S : St) : Option Int32 := (X4_isCoin a1 S).bind fun r1 => if r1 = 0 then (some (-1000001)) else (if (X4_within a2 0 20) = 0 then (some (-1000001)) else ((X4_isInHand a1 S).bind fun r4 => if r4 = 0 then (some (-1000005)) else ((rd S 1 275 0).bind fun v6 => if v6 ≤ 9900 then (some 0) else (some (-1000005)))))
def X4_gainBy (a1 : Int32) (a2 : Int32) (a3 : Int32) (a4 : Int32) (S : St) : Option (Int32 × St) := (X4_beatsGo a1 S).bind fun (r2, S3) => (X4_dropped a2 a3 S3).bind fun S4 => (X4_beatsGo a4 S4).bind fun (r6, S7) => if 0 ≤ (r2 + r6) then ((X4_gain S7).bind fun r9 => (X4_putBack r9 S7).bind fun (r11, S12) => some (r11, S12)) else ((X4_putBack (r2 + r6) S7).bind fun (r14, S15) => some (r14, S15))
def X4_brings (a1 : Int32) (a2 : Int32) (a3 : Int32) (S : St) : Option (Int32 × St) := (X4_refuses a1 a3 S).bind fun r1 => if r1 = (-1000001) then ((X4_finding (-1000001) S).bind fun (r4, S5) => some (r4, S5)) else (if (X4_isColumn a2) = 0 then ((X4_finding (-1000001) S).bind fun (r17, S18) => some (r17, S18)) else (if r1 = 0 then ((X4_copyRow 1 3 S).bind fun S8 => (X4_gainBy 0 a1 a2 a3 S8).bind fun (r10, S11) => (X4_gain S11).bind fun r12 => some ((r10 - r12), S11)) else ((X4_finding r1 S).bind fun (r14, S15) => some (r14, S15))))
def X4_bestWay_L60 (k20 : Int32 → Int32 → Int32 → Int32 → Int32 → Int32 → St → Option (Int32 × St)) (k29 : Int32 → Int32 → Int32 → Int32 → Int32 → Int32 → Int32 → St → Option (Int32 × St)) (b1 : Int32) (b2 : Int32) (b3 : Int32) (b6 : Int32) (b7 : Int32) (b8 : Int32) (S : St) : Option (Int32 × St) := k29 b1 b2 b3 ((10 * b6) + b7) b8 b6 (b7 + 1) S
def X4_bestWay_L29 (k20 : Int32 → Int32 → Int32 → Int32 → Int32 → Int32 → St → Option (Int32 × St)) : Nat → Int32 → Int32 → Int32 → Int32 → Int32 → Int32 → Int32 → St → Option (Int32 × St)
  | 0, _, _, _, _, _, _, _, _ => none
  | n + 1, b1, b2, b3, b4, b5, b6, b7, S => if 7 ≤ b7 then (k20 b1 b2 b3 b4 b5 (b6 + 1) S) else ((X4_gainBy b6 b1 b7 b2 S).bind fun (r5, S6) => if b4 < 0 then (X4_bestWay_L60 k20 (X4_bestWay_L29 k20 n) b1 b2 b3 b6 b7 r5 S6) else (if r5 ≤ b5 then (X4_bestWay_L29 k20 n b1 b2 b3 b4 b5 b6 (b7 + 1) S6) else (X4_bestWay_L60 k20 (X4_bestWay_L29 k20 n) b1 b2 b3 b6 b7 r5 S6)))
def X4_bestWay_L20 : Nat → Int32 → Int32 → Int32 → Int32 → Int32 → Int32 → St → Option (Int32 × St)
  | 0, _, _, _, _, _, _, _ => none
  | n + 1, b1, b2, b3, b4, b5, b6, S => if b3 ≤ b6 then (some (b4, S)) else (X4_bestWay_L29 (X4_bestWay_L20 n) FU b1 b2 b3 b4 b5 b6 0 S)
def X4_bestWay (a1 : Int32) (a2 : Int32) (a3 : Int32) (S : St) : Option (Int32 × St) := (X4_copyRow 1 3 S).bind fun S1 => X4_bestWay_L20 FU a1 a2 a3 (-1) 0 0 S1
def X4_best (a1 : Int32) (a2 : Int32) (S : St) : Option (Int32 × St) := (X4_refuses a1 a2 S).bind fun r1 => if r1 = 0 then ((X4_bestWay a1 a2 1 S).bind fun (r4, S5) => some (r4, S5)) else ((X4_finding r1 S).bind fun (r7, S8) => some (r7, S8))
def X4_wait (a1 : Int32) (a2 : Int32) (S : St) : Option (Int32 × St) := (X4_refuses a1 a2 S).bind fun r1 => if r1 = 0 then ((X4_bestWay a1 a2 12 S).bind fun (r4, S5) => some (r4, S5)) else ((X4_finding r1 S).bind fun (r7, S8) => some (r7, S8))
def X4_leastInHand_L2 : Nat → Int32 → St → Option Int32
  | 0, _, _ => none
  | n + 1, b1, S => (rd S 1 275 4).bind fun v1 => if v1 ≤ b1 then (some b1) else ((X4_isInHand b1 S).bind fun r3 => if r3 = 0 then (X4_leastInHand_L2 n (b1 + 1) S) else (some b1))
def X4_leastInHand (S : St) : Option Int32 := X4_leastInHand_L2 FU 0 S
def X4_ways (a0 : Int32) : Int32 := if a0 = 0 then (1) else (if a0 = 1 then (7) else (if a0 = 2 then (49) else (343)))
def X4_columnOf (a0 : Int32) (a1 : Int32) (a2 : Int32) : Option Int32 := (dvn a0 (X4_ways ((a1 - 1) - a2))).bind fun v1 => some (irm v1 7)
def X4_dropsBy_L2 : Nat → Int32 → Int32 → Int32 → St → Option St
  | 0, _, _, _, _ => none
  | n + 1, b1, b2, b3, S => if b2 ≤ b3 then (some S) else ((X4_leastInHand S).bind fun r2 => (X4_columnOf b1 b2 b3).bind fun r3 => (X4_dropped r2 r3 S).bind fun S4 => X4_dropsBy_L2 n b1 b2 (b3 + 1) S4)
def X4_dropsBy (a1 : Int32) (a2 : Int32) (S : St) : Option St := X4_dropsBy_L2 FU a1 a2 0 S
def X4_refusesThree_L113 (k59 : Int32 → Int32 → St → Option (Int32 × St)) (b1 : Int32) (b2 : Int32) (b4 : Int32) (S : St) : Option (Int32 × St) := (some (ups S 0 7 b2)).bind fun S20 => (some (ups S20 0 8 b4)).bind fun S21 => k59 b1 (b2 + 1) S21
def X4_refusesThree_L92 (k59 : Int32 → Int32 → St → Option (Int32 × St)) (b1 : Int32) (b2 : Int32) (t0 : Int32) (S : St) : Option (Int32 × St) := (X4_putBack t0 S).bind fun (r17, S18) => if (S18 0 7) < 0 then (X4_refusesThree_L113 k59 b1 b2 r17 S18) else (if r17 ≤ (S18 0 8) then (k59 b1 (b2 + 1) S18) else (X4_refusesThree_L113 k59 b1 b2 r17 S18))
def X4_refusesThree_L59 : Nat → Int32 → Int32 → St → Option (Int32 × St)
  | 0, _, _, _ => none
  | n + 1, b1, b2, S => if (X4_ways 3) ≤ b2 then (some (0, S)) else ((X4_dropsBy b2 3 S).bind fun S10 => (X4_beatsGo b1 S10).bind fun (r12, S13) => if 0 ≤ r12 then ((X4_gain S13).bind fun r15 => X4_refusesThree_L92 (X4_refusesThree_L59 n) b1 b2 r15 S13) else (X4_refusesThree_L92 (X4_refusesThree_L59 n) b1 b2 r12 S13))
def X4_refusesThree (a1 : Int32) (S : St) : Option (Int32 × St) := if (X4_within a1 0 20) = 0 then (some ((-1000001), S)) else ((X4_setOf 100 S).bind fun r2 => (X4_bits r2).bind fun r3 => if r3 < 3 then (some ((-1000005), S)) else ((rd S 1 275 0).bind fun v5 => if v5 ≤ 9900 then ((X4_copyRow 1 3 S).bind fun S7 => (some (ups S7 0 7 (-1))).bind fun S8 => X4_refusesThree_L59 FU a1 0 S8) else (some ((-1000005), S))))
def X4_three (a1 : Int32) (S : St) : Option (Int32 × St) := (X4_refusesThree a1 S).bind fun (r2, S3) => if r2 = 0 then ((X4_columnOf (S3 0 7) 3 0).bind fun r5 => (X4_columnOf (S3 0 7) 3 1).bind fun r6 => (X4_columnOf (S3 0 7) 3 2).bind fun r7 => some ((((100 * r5) + (10 * r6)) + r7), S3)) else ((X4_finding r2 S3).bind fun (r9, S10) => some (r9, S10))
def X4_threeBring (a1 : Int32) (S : St) : Option (Int32 × St) := (X4_refusesThree a1 S).bind fun (r2, S3) => if r2 = 0 then ((X4_gain S3).bind fun r5 => some (((S3 0 8) - r5), S3)) else ((X4_finding r2 S3).bind fun (r7, S8) => some (r7, S8))
def X4_findSoonest_L35 (k27 : Int32 → Int32 → Int32 → St → Option (Int32 × St)) : Nat → Int32 → Int32 → Int32 → Int32 → St → Option (Int32 × St)
  | 0, _, _, _, _, _ => none
  | n + 1, b1, b2, b3, b4, S => if (X4_ways b3) ≤ b4 then (k27 b1 b2 (b3 + 1) S) else ((X4_dropsBy b4 b3 S).bind fun S6 => (rd S6 1 275 (41 + b1)).bind fun v7 => (X4_putBack v7 S6).bind fun (r9, S10) => if r9 = 101 then ((some (ups S10 0 9 b4)).bind fun S12 => some (b3, S12)) else (X4_findSoonest_L35 k27 n b1 b2 b3 (b4 + 1) S10))
def X4_findSoonest_L27 : Nat → Int32 → Int32 → Int32 → St → Option (Int32 × St)
  | 0, _, _, _, _ => none
  | n + 1, b1, b2, b3, S => if b2 < b3 then (some ((-1), S)) else (X4_findSoonest_L35 (X4_findSoonest_L27 n) FU b1 b2 b3 0 S)
def X4_findSoonest (a1 : Int32) (S : St) : Option (Int32 × St) := (X4_copyRow 1 3 S).bind fun S1 => (X4_setOf 100 S1).bind fun r2 => (X4_bits r2).bind fun r3 => X4_findSoonest_L27 FU a1 (mnI 3 r3) 0 S1
def X4_refusesSoon (a1 : Int32) (S : St) : Option Int32 := (X4_isCoin a1 S).bind fun r1 => if r1 = 0 then (some (-1000001)) else ((rd S 1 275 0).bind fun v3 => if v3 ≤ 9900 then (some 0) else (some (-1000005)))
def X4_soonest (a1 : Int32) (S : St) : Option (Int32 × St) := (X4_refusesSoon a1 S).bind fun r1 => if r1 = 0 then ((X4_findSoonest a1 S).bind fun (r4, S5) => if 0 ≤ r4 then (some (r4, S5)) else ((X4_finding (-1000004) S5).bind fun (r8, S9) => some (r8, S9))) else ((X4_finding r1 S).bind fun (r11, S12) => some (r11, S12))
def X4_firstFor (a1 : Int32) (S : St) : Option (Int32 × St) := (X4_refusesSoon a1 S).bind fun r1 => if r1 = 0 then ((X4_findSoonest a1 S).bind fun (r4, S5) => if 1 ≤ r4 then ((X4_columnOf (S5 0 9) r4 0).bind fun r7 => some (r7, S5)) else ((X4_finding (-1000004) S5).bind fun (r9, S10) => some (r9, S10))) else ((X4_finding r1 S).bind fun (r12, S13) => some (r12, S13))
def X4_refusesWays (a1 : Int32) (S : St) : Option Int32 := if (X4_within a1 0 3) = 0 then (some (-1000001)) else ((X4_setOf 100 S).bind fun r2 => (X4_bits r2).bind fun r3 => if r3 < a1 then (some (-1000005)) else ((rd S 1 275 0).bind fun v5 => if v5 ≤ 9900 then (some 0) else (some (-1000005))))
def X4_ways__L60 : Nat → Int32 → Int32 → Int64 → Int32 → St → Option (Int64 × St)
  | 0, _, _, _, _, _ => none
  | n + 1, b1, b2, b4, b6, S => if (X4_ways b1) ≤ b6 then (some (b4, S)) else ((X4_dropsBy b6 b1 S).bind fun S10 => (X4_gain S10).bind fun r11 => (X4_putBack r11 S10).bind fun (r13, S14) => if r13 < b2 then (X4_ways__L60 n b1 b2 (b4 + 0) (b6 + 1) S14) else (X4_ways__L60 n b1 b2 (b4 + 1) (b6 + 1) S14))
def X4_ways_ (a1 : Int32) (a2 : Int32) (S : St) : Option (Int64 × St) := (X4_refusesWays a1 S).bind fun r1 => if r1 = (-1000001) then ((X4_finding (-1000001) S).bind fun (r4, S5) => some (r4.toInt64, S5)) else (if (X4_within a2 (-99) 999) = 0 then ((X4_finding (-1000001) S).bind fun (r20, S21) => some (r20.toInt64, S21)) else (if r1 = 0 then ((X4_copyRow 1 3 S).bind fun S8 => X4_ways__L60 FU a1 a2 0 0 S8) else ((X4_finding r1 S).bind fun (r17, S18) => some (r17.toInt64, S18))))
def X4_total_L39 : Nat → Int32 → Int32 → Int64 → Int32 → St → Option (Int64 × St)
  | 0, _, _, _, _, _ => none
  | n + 1, b1, b3, b4, b6, S => if (X4_ways b1) ≤ b6 then (some (b4, S)) else ((X4_dropsBy b6 b1 S).bind fun S6 => (X4_gain S6).bind fun r7 => (X4_putBack r7 S6).bind fun (r9, S10) => X4_total_L39 n b1 b3 (b4 + (r9 - b3).toInt64) (b6 + 1) S10)
def X4_total (a1 : Int32) (S : St) : Option (Int64 × St) := (X4_refusesWays a1 S).bind fun r1 => if r1 = 0 then ((X4_copyRow 1 3 S).bind fun S3 => (X4_gain S3).bind fun r4 => X4_total_L39 FU a1 r4 0 0 S3) else ((X4_finding r1 S).bind fun (r12, S13) => some (r12.toInt64, S13))
def X4_luck_L56 : Nat → Int32 → Int32 → Int64 → Int32 → St → Option (Int64 × St)
  | 0, _, _, _, _, _ => none
  | n + 1, b1, b2, b4, b6, S => if (X4_ways b2) ≤ b6 then (some (b4, S)) else ((X4_dropsBy b6 b2 S).bind fun S11 => (rd S11 1 275 (41 + b1)).bind fun v12 => (X4_putBack v12 S11).bind fun (r14, S15) => if r14 = 101 then (X4_luck_L56 n b1 b2 (b4 + 1) (b6 + 1) S15) else (X4_luck_L56 n b1 b2 (b4 + 0) (b6 + 1) S15))
def X4_luck (a1 : Int32) (a2 : Int32) (S : St) : Option (Int64 × St) := (X4_refusesWays a2 S).bind fun r1 => if r1 = (-1000001) then ((X4_finding (-1000001) S).bind fun (r4, S5) => some (r4.toInt64, S5)) else ((X4_isCoin a1 S).bind fun r6 => if r6 = 0 then ((X4_finding (-1000001) S).bind fun (r21, S22) => some (r21.toInt64, S22)) else (if r1 = 0 then ((X4_copyRow 1 3 S).bind fun S9 => X4_luck_L56 FU a1 a2 0 0 S9) else ((X4_finding r1 S).bind fun (r18, S19) => some (r18.toInt64, S19))))
def X4_drawn (a1 : Int32) (S : St) : Option (Int32 × St) := (rd S 1 275 6).bind fun v1 => (wr S 1 275 6 ((v1 * 1103515245) + 12345)).bind fun S2 => (rd S2 1 275 6).bind fun v3 => (rmn (ush32 v3 8) a1).bind fun v4 => some (v4, S2)
def X4_play_L56 : Nat → Int32 → Int32 → Int32 → St → Option (Int32 × St)
  | 0, _, _, _, _ => none
  | n + 1, b1, b2, b3, S => if b1 ≤ b3 then ((X4_gain S).bind fun r12 => some ((r12 - b2), S)) else ((X4_leastInHand S).bind fun r13 => (X4_drawn 7 S).bind fun (r15, S16) => (X4_dropped r13 r15 S16).bind fun S17 => X4_play_L56 n b1 b2 (b3 + 1) S17)
def X4_play (a1 : Int32) (S : St) : Option (Int32 × St) := if (X4_within a1 1 12) = 0 then ((X4_finding (-1000001) S).bind fun (r22, S23) => some (r22, S23)) else ((X4_setOf 100 S).bind fun r2 => (X4_bits r2).bind fun r3 => if r3 < a1 then ((X4_finding (-1000005) S).bind fun (r6, S7) => some (r6, S7)) else ((rd S 1 275 0).bind fun v8 => if v8 ≤ 9900 then ((X4_gain S).bind fun r10 => X4_play_L56 FU a1 r10 0 S) else ((X4_finding (-1000005) S).bind fun (r19, S20) => some (r19, S20))))
def X4_jolt_L45 (k4 : Int32 → Int32 → St → Option (Int32 × St)) (k10 : Int32 → Int32 → Int32 → St → Option (Int32 × St)) (b1 : Int32) (b2 : Int32) (b3 : Int32) (b4 : Int32) (t0 : Int32) (S : St) : Option (Int32 × St) := (X4_highOf b4 S).bind fun r4 => if r4 ≤ 1 then (k10 b1 b2 (b3 + 1) S) else (if t0 = 0 then (k10 b1 b2 (b3 + 1) S) else ((X4_topOf b4 S).bind fun r7 => (X4_slides r7 S).bind fun r8 => if r8 = 0 then (k10 b1 b2 (b3 + 1) S) else ((X4_slidesOff b3 b2 S).bind fun S10 => k10 (b1 + 1) b2 (b3 + 1) S10)))
def X4_jolt_L40 (k4 : Int32 → Int32 → St → Option (Int32 × St)) (k10 : Int32 → Int32 → Int32 → St → Option (Int32 × St)) (b1 : Int32) (b2 : Int32) (b3 : Int32) (b4 : Int32) (S : St) : Option (Int32 × St) := X4_jolt_L45 k4 k10 b1 b2 b3 b4 1 S
def X4_jolt_L10 (k4 : Int32 → Int32 → St → Option (Int32 × St)) : Nat → Int32 → Int32 → Int32 → St → Option (Int32 × St)
  | 0, _, _, _, _ => none
  | n + 1, b1, b2, b3, S => if 7 ≤ b3 then (k4 b1 (b2 + (-1)) S) else (if b2 = 5 then (X4_jolt_L40 k4 (X4_jolt_L10 k4 n) b1 b2 b3 (X4_cellOf b3 b2) S) else ((X4_highOf ((X4_cellOf b3 b2) + 1) S).bind fun r11 => if 4 ≤ r11 then (X4_jolt_L45 k4 (X4_jolt_L10 k4 n) b1 b2 b3 (X4_cellOf b3 b2) 0 S) else (X4_jolt_L40 k4 (X4_jolt_L10 k4 n) b1 b2 b3 (X4_cellOf b3 b2) S)))
def X4_jolt_L4 : Nat → Int32 → Int32 → St → Option (Int32 × St)
  | 0, _, _, _ => none
  | n + 1, b1, b2, S => if b2 < 0 then (some (b1, S)) else (X4_jolt_L10 (X4_jolt_L4 n) FU b1 b2 0 S)
def X4_jolt (S : St) : Option (Int32 × St) := X4_jolt_L4 FU 0 5 S
def X4_jolted (S : St) : Option (Int32 × St) := (X4_copyRow 1 3 S).bind fun S1 => (X4_setOf 101 S1).bind fun r2 => (X4_jolt S1).bind fun (r4, S5) => if 0 ≤ r4 then ((X4_setOf 101 S5).bind fun r7 => (X4_worthOf (r7 &&& (r2 ^^^ (-1))) S5).bind fun r8 => (X4_putBack r8 S5).bind fun (r10, S11) => some (r10, S11)) else ((X4_putBack r4 S5).bind fun (r13, S14) => some (r13, S14))
def X4_wonIn (a1 : Int32) (a2 : Int32) (S : St) : Option (Int32 × St) := (X4_beatsGo a1 S).bind fun (r2, S3) => if 0 ≤ r2 then ((X4_setOf 101 S3).bind fun r5 => (X4_worthOf (r5 &&& a2) S3).bind fun r6 => (X4_putBack r6 S3).bind fun (r8, S9) => some (r8, S9)) else ((X4_putBack r2 S3).bind fun (r11, S12) => some (r11, S12))
def X4_stroke_L60 : Nat → Int32 → Int32 → Int32 → Int32 → Int32 → St → Option (Int32 × St)
  | 0, _, _, _, _, _, _ => none
  | n + 1, b1, b2, b3, b4, b5, S => if 6 < b5 then (some (b3, S)) else ((wr S 1 275 2 b5).bind fun S7 => (X4_wonIn b1 b2 S7).bind fun (r9, S10) => if b3 = 0 then (X4_stroke_L60 n b1 b2 b5 r9 (b5 + 1) S10) else (if b4 ≤ r9 then (X4_stroke_L60 n b1 b2 b3 b4 (b5 + 1) S10) else (X4_stroke_L60 n b1 b2 b5 r9 (b5 + 1) S10)))
def X4_stroke (a1 : Int32) (S : St) : Option (Int32 × St) := if (X4_within a1 1 60) = 0 then ((X4_finding (-1000001) S).bind fun (r17, S18) => some (r17, S18)) else ((X4_isTooLate a1 S).bind fun r2 => if r2 = 0 then ((X4_copyRow 1 3 S).bind fun S4 => (X4_setOf 101 S4).bind fun r5 => X4_stroke_L60 FU a1 (r5 ^^^ (-1)) 0 0 1 S4) else ((X4_finding (-1000005) S).bind fun (r14, S15) => some (r14, S15)))
def X4_refusesShelf (a1 : Int32) (a2 : Int32) (S : St) : Option Int32 := (X4_isCoin a1 S).bind fun r1 => if r1 = 0 then (some (-1000001)) else (if (X4_within a2 1 60) = 0 then (some (-1000001)) else ((X4_isOnShelf a1 S).bind fun r4 => if r4 = 0 then (some (-1000005)) else ((X4_isTooLate a2 S).bind fun r6 => if r6 = 0 then (some 0) else (some (-1000005)))))
def X4_force_L73 (k31 : Int32 → Int32 → Int32 → St → Option (Int32 × St)) (b1 : Int32) (b2 : Int32) (b4 : Int32) (t0 : Int32) (S : St) : Option (Int32 × St) := (X4_putBack t0 S).bind fun (r15, S16) => if r15 ≤ 100 then (k31 b1 b2 (b4 + 1) S16) else (some (b4, S16))
def X4_force_L31 : Nat → Int32 → Int32 → Int32 → St → Option (Int32 × St)
  | 0, _, _, _, _ => none
  | n + 1, b1, b2, b4, S => if 60 < b4 then ((X4_finding (-1000004) S).bind fun (r6, S7) => some (r6, S7)) else ((wr S 1 275 1 b4).bind fun S8 => (X4_beatsGo b2 S8).bind fun (r10, S11) => if 0 ≤ r10 then ((rd S11 1 275 (41 + b1)).bind fun v13 => X4_force_L73 (X4_force_L31 n) b1 b2 b4 v13 S11) else (X4_force_L73 (X4_force_L31 n) b1 b2 b4 r10 S11))
def X4_force (a1 : Int32) (a2 : Int32) (S : St) : Option (Int32 × St) := (X4_refusesShelf a1 a2 S).bind fun r1 => if r1 = 0 then ((X4_copyRow 1 3 S).bind fun S3 => X4_force_L31 FU a1 a2 0 S3) else ((X4_finding r1 S).bind fun (r19, S20) => some (r19, S20))
def X4_kindFor_L94 (k53 : Int32 → Int32 → Int32 → Int32 → Int32 → Int32 → St → Option (Int32 × St)) (b1 : Int32) (b2 : Int32) (b4 : Int32) (b6 : Int32) (b7 : Int32) (b8 : Int32) (t0 : Int32) (S : St) : Option (Int32 × St) := k53 b1 b2 b4 t0 (mxI b6 b8) (b7 + 1) S
def X4_kindFor_L53 : Nat → Int32 → Int32 → Int32 → Int32 → Int32 → Int32 → St → Option (Int32 × St)
  | 0, _, _, _, _, _, _, _ => none
  | n + 1, b1, b2, b4, b5, b6, b7, S => if 6 < b7 then (some (b5, S)) else ((wr S 1 275 (17 + b1) b7).bind fun S6 => (X4_wonIn b2 b4 S6).bind fun (r8, S9) => if r8 ≤ b6 then (X4_kindFor_L94 (X4_kindFor_L53 n) b1 b2 b4 b6 b7 r8 b5 S9) else (X4_kindFor_L94 (X4_kindFor_L53 n) b1 b2 b4 b6 b7 r8 b7 S9))
def X4_kindFor (a1 : Int32) (a2 : Int32) (S : St) : Option (Int32 × St) := (X4_refusesShelf a1 a2 S).bind fun r1 => if r1 = 0 then ((X4_copyRow 1 3 S).bind fun S3 => (X4_setOf 101 S3).bind fun r4 => X4_kindFor_L53 FU a1 a2 ((r4 ^^^ (-1)) &&& ((shl32 1 a1) ^^^ (-1))) (-1) (-1) 0 S3) else ((X4_finding r1 S).bind fun (r12, S13) => some (r12, S13))
def X4_seed (a1 : Int32) (S : St) : Option (Int32 × St) := (X4_become 6 a1 S).bind fun (r2, S3) => some (r2, S3)
def X4_feed_L38 : Nat → Int32 → Int32 → St → Option (Int32 × St)
  | 0, _, _, _ => none
  | n + 1, b1, b3, S => if b3 < 0 then (some ((S 0 11), S)) else ((wr S 5 120 (S 0 11) ((shr32 b1 (8 * b3)) &&& 255)).bind fun S4 => (some (ups S4 0 11 ((S4 0 11) + 1))).bind fun S5 => X4_feed_L38 n b1 (b3 + (-1)) S5)
def X4_feed (a1 : Int32) (a2 : Int32) (S : St) : Option (Int32 × St) := if (X4_within a2 1 4) = 0 then ((X4_finding (-1000001) S).bind fun (r10, S11) => some (r10, S11)) else (if ((S 0 11) + a2) ≤ 120 then (X4_feed_L38 FU a1 (a2 - 1) S) else ((X4_finding (-1000002) S).bind fun (r7, S8) => some (r7, S8)))
def X4_wipe (S : St) : Option (Int32 × St) := (some (ups S 0 11 0)).bind fun S1 => some ((S 0 11), S1)
def X4_byteAt (a1 : Int32) (S : St) : Option Int32 := if (S 0 11) ≤ a1 then (some (-1)) else ((rd S 5 120 a1).bind fun v2 => some v2)
def X4_next_L131 : Nat → St → Option St
  | 0, _ => none
  | n + 1, S => (X4_byteAt (S 0 13) S).bind fun r13 => if (X4_within r13 48 57) = 0 then (some S) else ((X4_byteAt (S 0 13) S).bind fun r15 => (some (ups S 0 15 (mnI 10000 (((10 * (S 0 15)) + r15) - 48)))).bind fun S16 => (some (ups S16 0 13 ((S16 0 13) + 1))).bind fun S17 => X4_next_L131 n S17)
def X4_next_L84 : Nat → St → Option St
  | 0, _ => none
  | n + 1, S => (X4_byteAt (S 0 13) S).bind fun r19 => if (X4_within r19 97 122) = 0 then (some S) else ((some (ups S 0 13 ((S 0 13) + 1))).bind fun S21 => X4_next_L84 n S21)
def X4_next_L8 : Nat → St → Option St
  | 0, _ => none
  | n + 1, S => (X4_byteAt (S 0 12) S).bind fun r2 => if r2 = 32 then ((some (ups S 0 12 ((S 0 12) + 1))).bind fun S23 => X4_next_L8 n S23) else ((X4_byteAt (S 0 12) S).bind fun r4 => (some (ups S 0 13 (S 0 12))).bind fun S5 => (some (ups S5 0 15 0)).bind fun S6 => if 0 ≤ r4 then (if (X4_within r4 97 122) = 0 then (if (X4_within r4 48 57) = 0 then ((some (ups S6 0 14 3)).bind fun S10 => (some (ups S10 0 13 ((S10 0 13) + 1))).bind fun S11 => some S11) else ((some (ups S6 0 14 2)).bind fun S12 => X4_next_L131 FU S12)) else ((some (ups S6 0 14 1)).bind fun S18 => X4_next_L84 FU S18)) else ((some (ups S6 0 14 0)).bind fun S22 => some S22))
def X4_next (S : St) : Option St := (some (ups S 0 12 (S 0 13))).bind fun S1 => X4_next_L8 FU S1
def X4_isWord_L32 (w1 : Nat) : Nat → Int32 → Int32 → St → Option Int32
  | 0, _, _, _ => none
  | n + 1, b2, b3, S => if (J0_length w1) ≤ b3 then ((bl b2).bind fun v3 => some b2) else (if b2 = 0 then ((bl b2).bind fun v5 => some b2) else ((rd S 5 120 ((S 0 12) + b3)).bind fun v6 => (J0_charAt w1 b3).bind fun r7 => if v6 = r7 then (X4_isWord_L32 w1 n 1 (b3 + 1) S) else (X4_isWord_L32 w1 n 0 (b3 + 1) S)))
def X4_isWord (w1 : Nat) (S : St) : Option Int32 := if (S 0 14) = 1 then (if ((S 0 13) - (S 0 12)) = (J0_length w1) then (X4_isWord_L32 w1 FU 1 0 S) else (X4_isWord_L32 w1 FU 0 0 S)) else (X4_isWord_L32 w1 FU 0 0 S)
def X4_must_L17 (t0 : Int32) (S : St) : Option St := (bl t0).bind fun v2 => (some (ups S 0 16 t0)).bind fun S3 => if (S3 0 16) = 0 then ((X4_next S3).bind fun S5 => some S5) else (some S3)
def X4_must_L12 (S : St) : Option St := X4_must_L17 1 S
def X4_must (a1 : Int32) (S : St) : Option St := if (S 0 16) = 0 then (if a1 = 0 then (X4_must_L12 S) else (X4_must_L17 0 S)) else (X4_must_L12 S)
def X4_number (a1 : Int32) (a2 : Int32) (S : St) : Option (Int32 × St) := if (S 0 14) = 2 then (if (X4_within (S 0 15) a1 a2) = 0 then ((X4_must 0 S).bind fun S4 => some ((S 0 15), S4)) else ((X4_must 1 S).bind fun S5 => some ((S 0 15), S5))) else ((X4_must 0 S).bind fun S2 => some ((S 0 15), S2))
def X4_item (a1 : Int32) (a2 : Int32) (S : St) : Option St := (wr S 8 240 (2 * (S 0 20)) a1).bind fun S1 => (wr S1 8 240 ((2 * (S1 0 20)) + 1) a2).bind fun S2 => (some (ups S2 0 20 ((S2 0 20) + 1))).bind fun S3 => some S3
def X4_which_L4 (q1 : Nat) : Nat → Int32 → Int32 → St → Option Int32
  | 0, _, _, _ => none
  | n + 1, b2, b3, S => if (nI (alM q1)) ≤ b3 then (some b2) else ((rdn (alM q1) (stb q1) b3).bind fun w2 => (X4_isWord w2 S).bind fun r3 => if r3 = 0 then (X4_which_L4 q1 n b2 (b3 + 1) S) else (X4_which_L4 q1 n b3 (b3 + 1) S))
def X4_which (q1 : Nat) (S : St) : Option Int32 := X4_which_L4 q1 FU (-1) 0 S
def X4_readCell_L55 (b1 : Int32) (b2 : Int32) (t0 : Int32) (S : St) : Option (Int32 × St) := (X4_must t0 S).bind fun S5 => if t0 = 0 then (some (((10 * b1) + b2), S5)) else ((rd S5 9 42 (X4_cellOf b1 b2)).bind fun v7 => (wr S5 9 42 (X4_cellOf b1 b2) (v7 + 1)).bind fun S8 => some (((10 * b1) + b2), S8))
def X4_readCell_L54 (b1 : Int32) (b2 : Int32) (S : St) : Option (Int32 × St) := X4_readCell_L55 b1 b2 0 S
def X4_readCell (S : St) : Option (Int32 × St) := (X4_number 0 6 S).bind fun (r2, S3) => if (S3 0 16) = 0 then (if (S3 0 14) = 2 then (if (X4_isCell r2 (S3 0 15)) = 0 then (X4_readCell_L54 r2 (S3 0 15) S3) else ((rd S3 9 42 (X4_cellOf r2 (S3 0 15))).bind fun v11 => if 4 ≤ v11 then (X4_readCell_L54 r2 (S3 0 15) S3) else (X4_readCell_L55 r2 (S3 0 15) 1 S3))) else (X4_readCell_L54 r2 (S3 0 15) S3)) else (X4_readCell_L54 r2 (S3 0 15) S3)
def X4_readItem_L133 (b2 : Int32) (t0 : Int32) (t1 : Int32) (S : St) : Option St := (X4_number t1 t0 S).bind fun (r10, S11) => (X4_item (10 + b2) r10 S11).bind fun S12 => some S12
def X4_readItem_L113 (b2 : Int32) (t0 : Int32) (S : St) : Option St := if b2 = 0 then (X4_readItem_L133 b2 60 t0 S) else (if b2 = 1 then (X4_readItem_L133 b2 6 t0 S) else (X4_readItem_L133 b2 3 t0 S))
def X4_readItem_L99 (b2 : Int32) (t0 : Int32) (S : St) : Option St := (X4_must t0 S).bind fun S5 => if b2 = 1 then (X4_readItem_L113 b2 1 S5) else (X4_readItem_L113 b2 0 S5)
def X4_readItem_L37 (b1 : Int32) (t0 : Int32) (S : St) : Option St := (X4_must t0 S).bind fun S14 => (some (ups S14 0 21 ((S14 0 21) + 1))).bind fun S15 => if (S15 0 16) = 0 then ((X4_isWord 10 S15).bind fun r18 => if r18 = 0 then ((X4_item b1 100 S15).bind fun S20 => some S20) else ((X4_must 1 S15).bind fun S21 => (X4_readCell S21).bind fun (r23, S24) => (X4_item b1 r23 S24).bind fun S25 => some S25)) else ((X4_item b1 100 S15).bind fun S17 => some S17)
def X4_readItem (S : St) : Option St := (X4_which 6 S).bind fun r1 => (X4_which 7 S).bind fun r2 => if r1 < 0 then (if r2 < 0 then (X4_readItem_L99 r2 0 S) else (X4_readItem_L99 r2 1 S)) else (if 24 ≤ (S 0 21) then (X4_readItem_L37 r1 0 S) else (X4_readItem_L37 r1 1 S))
def X4_isSo (a1 : Int32) (a2 : Int32) (S : St) : Option St := if a1 < 10 then ((X4_struck a1 S).bind fun (r3, S4) => if 100 ≤ a2 then (some S4) else ((X4_comesOn r3 (X4_cellOf (a2 / 10) (irm a2 10)) S4).bind fun S6 => some S6)) else ((wr S 1 275 ((1 + a1) - 10) a2).bind fun S7 => some S7)
def X4_text_L136 : Nat → Int32 → St → Option (Int32 × St)
  | 0, _, _ => none
  | n + 1, b1, S => if (S 0 20) ≤ b1 then (some ((S 0 20), S)) else ((rd S 8 240 (2 * b1)).bind fun v15 => (rd S 8 240 ((2 * b1) + 1)).bind fun v16 => (X4_isSo v15 v16 S).bind fun S17 => X4_text_L136 n (b1 + 1) S17)
def X4_text_L112 (t0 : Int32) (S : St) : Option (Int32 × St) := (X4_must t0 S).bind fun S11 => (some (ups S11 0 11 0)).bind fun S12 => if (S12 0 16) = 0 then (X4_text_L136 FU 0 S12) else (some (((-1) - (S12 0 12)), S12))
def X4_text_L99 (S : St) : Option (Int32 × St) := if (S 0 14) = 0 then (X4_text_L112 1 S) else (X4_text_L112 0 S)
def X4_text_L58 : Nat → St → Option (Int32 × St)
  | 0, _ => none
  | n + 1, S => if (S 0 16) = 0 then (if (S 0 14) = 3 then ((rd S 5 120 (S 0 12)).bind fun v19 => if v19 = 59 then ((X4_must 1 S).bind fun S21 => (X4_readItem S21).bind fun S22 => X4_text_L58 n S22) else (X4_text_L99 S)) else (X4_text_L99 S)) else (X4_text_L99 S)
def X4_text_L27 : Nat → Int32 → St → Option (Int32 × St)
  | 0, _, _ => none
  | n + 1, b1, S => if 42 ≤ b1 then ((X4_next S).bind fun S7 => (X4_readItem S7).bind fun S8 => X4_text_L58 FU S8) else ((X4_highOf b1 S).bind fun r23 => (wr S 9 42 b1 r23).bind fun S24 => X4_text_L27 n (b1 + 1) S24)
def X4_text (S : St) : Option (Int32 × St) := (some (ups S 0 13 0)).bind fun S1 => (some (ups S1 0 16 0)).bind fun S2 => (some (ups S2 0 20 0)).bind fun S3 => (rd S3 1 275 4).bind fun v4 => (some (ups S3 0 21 v4)).bind fun S5 => X4_text_L27 FU 0 S5
def X4_isSpot (a0 : Int32) : Int32 := (X4_within a0 0 9)
theorem b01_X4_isSpot (a0 : Int32) : X4_isSpot a0 = 0 ∨ X4_isSpot a0 = 1 := by
  unfold X4_isSpot
  repeat (first | exact Or.inl rfl | exact Or.inr rfl | exact b01_X4_within .. | split)
def X4_hold (a1 : Int32) (a2 : Int32) (S : St) : Option (Int32 × St) := if (X4_isSpot a1) = 0 then ((X4_finding (-1000001) S).bind fun (r3, S4) => some (r3, S4)) else (if a2 = (-1) then ((wr S 1 275 (7 + a1) a2).bind fun S6 => some (1, S6)) else ((X4_isCoin a2 S).bind fun r7 => if r7 = 0 then ((X4_finding (-1000001) S).bind fun (r11, S12) => some (r11, S12)) else ((wr S 1 275 (7 + a1) a2).bind fun S9 => some (1, S9))))
def X4_as (a1 : Int32) (a2 : Int32) (S : St) : Option (Int32 × St) := if (X4_isSpot a1) = 0 then ((X4_finding (-1000001) S).bind fun (r3, S4) => some (r3, S4)) else (if (X4_isKind a2) = 0 then ((X4_finding (-1000001) S).bind fun (r18, S19) => some (r18, S19)) else ((rd S 1 275 (7 + a1)).bind fun v6 => if 0 ≤ v6 then ((X4_kindOf v6 S).bind fun r8 => (X4_isUnder r8 a2).bind fun r9 => if r9 = 0 then ((X4_finding (-1000003) S).bind fun (r12, S13) => some (r12, S13)) else (some (v6, S))) else ((X4_finding (-1000006) S).bind fun (r15, S16) => some (r15, S16))))
def X4_isSheet (a0 : Int32) : Int32 := (X4_within a0 0 3)
theorem b01_X4_isSheet (a0 : Int32) : X4_isSheet a0 = 0 ∨ X4_isSheet a0 = 1 := by
  unfold X4_isSheet
  repeat (first | exact Or.inl rfl | exact Or.inr rfl | exact b01_X4_within .. | split)
def X4_cutTo (a0 : Int32) (a1 : Int32) : Int32 := if a1 = 8 then (a0.toInt8.toInt32) else (if a1 = 16 then (a0.toInt16.toInt32) else (a0))
def X4_sheet_L86 : Nat → Int32 → Int32 → St → Option (Int32 × St)
  | 0, _, _, _ => none
  | n + 1, b1, b4, S => if 40 ≤ b4 then ((rd S 11 4 b1).bind fun v12 => some (v12, S)) else ((wr S 12 160 ((40 * b1) + b4) 0).bind fun S13 => X4_sheet_L86 n b1 (b4 + 1) S13)
def X4_sheet_L36 (b1 : Int32) (b2 : Int32) (b3 : Int32) (S : St) : Option (Int32 × St) := if 0 ≤ b3 then (if b3 ≤ 40 then ((wr S 10 4 b1 b2).bind fun S8 => if b2 = 0 then ((wr S8 11 4 b1 0).bind fun S14 => X4_sheet_L86 FU b1 0 S14) else ((wr S8 11 4 b1 b3).bind fun S10 => X4_sheet_L86 FU b1 0 S10)) else ((X4_finding (-1000001) S).bind fun (r16, S17) => some (r16, S17))) else ((X4_finding (-1000007) S).bind fun (r19, S20) => some (r19, S20))
def X4_sheet (a1 : Int32) (a2 : Int32) (a3 : Int32) (S : St) : Option (Int32 × St) := if (X4_isSheet a1) = 0 then ((X4_finding (-1000001) S).bind fun (r3, S4) => some (r3, S4)) else (if a2 = 0 then (X4_sheet_L36 a1 a2 a3 S) else (if a2 = 8 then (X4_sheet_L36 a1 a2 a3 S) else (if a2 = 16 then (X4_sheet_L36 a1 a2 a3 S) else (if a2 = 32 then (X4_sheet_L36 a1 a2 a3 S) else ((X4_finding (-1000001) S).bind fun (r25, S26) => some (r25, S26))))))
def X4_write (a1 : Int32) (a2 : Int32) (a3 : Int32) (S : St) : Option (Int32 × St) := if (X4_isSheet a1) = 0 then ((X4_finding (-1000001) S).bind fun (r15, S16) => some (r15, S16)) else ((rd S 10 4 a1).bind fun v2 => if v2 = 0 then ((X4_finding (-1000006) S).bind fun (r12, S13) => some (r12, S13)) else ((rd S 11 4 a1).bind fun v4 => if (X4_within a2 0 (v4 - 1)) = 0 then ((X4_finding (-1000001) S).bind fun (r9, S10) => some (r9, S10)) else ((rd S 10 4 a1).bind fun v6 => (wr S 12 160 ((40 * a1) + a2) (X4_cutTo a3 v6)).bind fun S7 => some (1, S7))))
def X4_copy_L166 : Nat → Int32 → Int32 → Int32 → Int32 → St → Option (Int32 × St)
  | 0, _, _, _, _, _ => none
  | n + 1, b3, b4, b5, b6, S => if b5 ≤ b6 then (some (b5, S)) else ((rd S 13 40 b6).bind fun v37 => (wr S 12 160 (((40 * b3) + b4) + b6) v37).bind fun S38 => X4_copy_L166 n b3 b4 b5 (b6 + 1) S38)
def X4_copy_L129 : Nat → Int32 → Int32 → Int32 → Int32 → Int32 → Int32 → St → Option (Int32 × St)
  | 0, _, _, _, _, _, _, _ => none
  | n + 1, b1, b2, b3, b4, b5, b6, S => if b5 ≤ b6 then (X4_copy_L166 FU b3 b4 b5 0 S) else ((rd S 12 160 (((40 * b1) + b2) + b6)).bind fun v39 => (wr S 13 40 b6 v39).bind fun S40 => X4_copy_L129 n b1 b2 b3 b4 b5 (b6 + 1) S40)
def X4_copy (a1 : Int32) (a2 : Int32) (a3 : Int32) (a4 : Int32) (a5 : Int32) (S : St) : Option (Int32 × St) := if (X4_isSheet a1) = 0 then ((X4_finding (-1000001) S).bind fun (r3, S4) => some (r3, S4)) else (if (X4_isSheet a3) = 0 then ((X4_finding (-1000001) S).bind fun (r51, S52) => some (r51, S52)) else ((rd S 10 4 a1).bind fun v6 => if v6 = 0 then ((X4_finding (-1000006) S).bind fun (r9, S10) => some (r9, S10)) else ((rd S 10 4 a3).bind fun v11 => if v11 = 0 then ((X4_finding (-1000006) S).bind fun (r48, S49) => some (r48, S49)) else ((rd S 10 4 a1).bind fun v13 => (rd S 10 4 a3).bind fun v14 => if v13 = v14 then (if a2 < 0 then ((X4_finding (-1000001) S).bind fun (r18, S19) => some (r18, S19)) else (if a4 < 0 then ((X4_finding (-1000001) S).bind fun (r22, S23) => some (r22, S23)) else (if a5 < 0 then ((X4_finding (-1000001) S).bind fun (r26, S27) => some (r26, S27)) else ((rd S 11 4 a1).bind fun v28 => if 0 < (lg_cmp (a2.toInt64 + a5.toInt64) v28.toInt64) then ((X4_finding (-1000001) S).bind fun (r31, S32) => some (r31, S32)) else ((rd S 11 4 a3).bind fun v33 => if (lg_cmp (a4.toInt64 + a5.toInt64) v33.toInt64) ≤ 0 then (X4_copy_L129 FU a1 a2 a3 a4 a5 0 S) else ((X4_finding (-1000001) S).bind fun (r42, S43) => some (r42, S43))))))) else ((X4_finding (-1000003) S).bind fun (r45, S46) => some (r45, S46))))))
def X4_load_L33 : Nat → Int32 → Int32 → St → Option (Int32 × St)
  | 0, _, _, _ => none
  | n + 1, b1, b2, S => (rd S 11 4 b1).bind fun v4 => if v4 ≤ b2 then (some (b2, S)) else ((rd S 12 160 ((40 * b1) + b2)).bind fun v6 => if (X4_isColumn v6) = 0 then (some (b2, S)) else ((X4_leastInHand S).bind fun r8 => (rd S 1 275 4).bind fun v9 => if v9 ≤ r8 then (some (b2, S)) else ((rd S 1 275 0).bind fun v11 => if 9999 ≤ v11 then (some (b2, S)) else ((X4_leastInHand S).bind fun r13 => (rd S 12 160 ((40 * b1) + b2)).bind fun v14 => (X4_dropped r13 v14 S).bind fun S15 => X4_load_L33 n b1 (b2 + 1) S15))))
def X4_load (a1 : Int32) (S : St) : Option (Int32 × St) := if (X4_isSheet a1) = 0 then ((X4_finding (-1000001) S).bind fun (r20, S21) => some (r20, S21)) else ((rd S 10 4 a1).bind fun v2 => if v2 = 0 then ((X4_finding (-1000006) S).bind fun (r17, S18) => some (r17, S18)) else (X4_load_L33 FU a1 0 S))
def X4_judge_L99 (b1 : Int32) (b2 : Int32) (S : St) : Option (Int32 × St) := (rd S 11 4 b1).bind fun v10 => if b2 = v10 then ((X4_putBack 0 S).bind fun (r16, S17) => some (r16, S17)) else ((X4_putBack (1 + b2) S).bind fun (r13, S14) => some (r13, S14))
def X4_judge_L64 : Nat → Int32 → Int32 → St → Option (Int32 × St)
  | 0, _, _, _ => none
  | n + 1, b1, b2, S => (rd S 11 4 b1).bind fun v8 => if v8 ≤ b2 then (X4_judge_L99 b1 b2 S) else ((X4_beatsGo 1 S).bind fun (r19, S20) => (rd S20 12 160 ((40 * b1) + b2)).bind fun v21 => if r19 = v21 then (X4_judge_L64 n b1 (b2 + 1) S20) else (X4_judge_L99 b1 b2 S20))
def X4_judge (a1 : Int32) (S : St) : Option (Int32 × St) := if (X4_isSheet a1) = 0 then ((X4_finding (-1000001) S).bind fun (r30, S31) => some (r30, S31)) else ((rd S 10 4 a1).bind fun v2 => if v2 = 0 then ((X4_finding (-1000006) S).bind fun (r27, S28) => some (r27, S28)) else ((rd S 11 4 a1).bind fun v4 => (X4_isTooLate v4 S).bind fun r5 => if r5 = 0 then ((X4_copyRow 1 3 S).bind fun S7 => X4_judge_L64 FU a1 0 S7) else ((X4_finding (-1000005) S).bind fun (r24, S25) => some (r24, S25))))
def X4_image (S : St) : Option (Int32 × St) := (X4_copyRow 1 2 S).bind fun S1 => (some (ups S1 0 3 1)).bind fun S2 => some (1, S2)
def X4_undo (S : St) : Option (Int32 × St) := if (S 0 3) = 0 then ((X4_finding (-1000004) S).bind fun (r5, S6) => some (r5, S6)) else ((X4_copyRow 2 1 S).bind fun S2 => (rd S2 1 275 0).bind fun v3 => some (v3, S2))
def X4_tear (S : St) : Option (Int32 × St) := if (S 0 3) = 0 then ((some (ups S 0 3 0)).bind fun S2 => some (0, S2)) else ((some (ups S 0 3 0)).bind fun S3 => some (1, S3))
def X4_count_L81 : Nat → Int32 → Int32 → St → Option (Int32 × St)
  | 0, _, _, _ => none
  | n + 1, b2, b3, S => if 42 ≤ b3 then (some (b2, S)) else ((X4_highOf b3 S).bind fun r13 => if r13 ≤ 0 then (X4_count_L81 n (b2 + 0) (b3 + 1) S) else (X4_count_L81 n (b2 + 1) (b3 + 1) S))
def X4_count_L126 : Nat → Int32 → Int32 → St → Option (Int32 × St)
  | 0, _, _, _ => none
  | n + 1, b2, b3, S => if 10 ≤ b3 then (some (b2, S)) else ((rd S 1 275 (7 + b3)).bind fun v20 => if 0 ≤ v20 then (X4_count_L126 n (b2 + 1) (b3 + 1) S) else (X4_count_L126 n (b2 + 0) (b3 + 1) S))
def X4_count (a1 : Int32) (S : St) : Option (Int32 × St) := if a1 = 0 then ((rd S 1 275 0).bind fun v2 => some (v2, S)) else (if a1 = 1 then ((rd S 1 275 4).bind fun v4 => some (v4, S)) else (if a1 = 2 then ((X4_shelf S).bind fun r6 => (X4_bits r6).bind fun r7 => some (r7, S)) else (if a1 = 3 then ((X4_shelf S).bind fun r9 => (X4_worthOf r9 S).bind fun r10 => some (r10, S)) else (if a1 = 4 then (X4_count_L81 FU 0 0 S) else (if a1 = 5 then (some ((S 0 11), S)) else (if a1 = 6 then ((rd S 1 275 6).bind fun v17 => some (v17, S)) else (if a1 = 7 then (X4_count_L126 FU 0 0 S) else ((X4_finding (-1000001) S).bind fun (r23, S24) => some (r23, S24)))))))))
def X4_status (a1 : Int32) (S : St) : Option (Int32 × St) := if (X4_within a1 (-1) 6) = 0 then ((X4_finding (-1000001) S).bind fun (r3, S4) => some (r3, S4)) else ((rd S 4 8 (a1 + 1)).bind fun v5 => some (v5, S))
