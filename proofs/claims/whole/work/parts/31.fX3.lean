def X0_renew_L12 : Nat → Int32 → St → Option St
  | 0, _, _ => none
  | n + 1, b3, S => if 40 ≤ b3 then (some S) else ((wr S 1 40 b3 0).bind fun S4 => X0_renew_L12 n (b3 + 1) S4)
def X0_renew (a1 : Int32) (a2 : Int32) (S : St) : Option St := (some (ups S 0 1 a1)).bind fun S1 => (some (ups S1 0 2 a2)).bind fun S2 => X0_renew_L12 FU 0 S2
def X0_put (a1 : Int32) (a2 : Int32) (S : St) : Option St := if (S 0 1) = 8 then ((wr S 1 40 a1 a2.toInt8.toInt32).bind fun S5 => some S5) else (if (S 0 1) = 16 then ((wr S 1 40 a1 a2.toInt16.toInt32).bind fun S4 => some S4) else ((wr S 1 40 a1 a2).bind fun S3 => some S3))
def X0_hasFrom (a1 : Int32) (a2 : Int32) (S : St) : Int32 := if a1 < 0 then (0) else (if ((S 0 2) - a2) < a1 then (0) else (1))
theorem b01_X0_hasFrom (a1 : Int32) (a2 : Int32) (S : St) : X0_hasFrom a1 a2 S = 0 ∨ X0_hasFrom a1 a2 S = 1 := by
  unfold X0_hasFrom
  repeat (first | exact Or.inl rfl | exact Or.inr rfl | split)
def X2_append (a1 : Int32) (S : St) : Option St := if 120 ≤ (S 0 1) then (some S) else ((wr S 1 120 (S 0 1) a1).bind fun S2 => (some (ups S2 0 1 ((S2 0 1) + 1))).bind fun S3 => some S3)
def X2_rewind (S : St) : Option St := (some (ups S 0 4 0)).bind fun S1 => some S1
def X2_isLetter (a0 : Int32) : Int32 := if a0 < 97 then (0) else (if 122 < a0 then (0) else (1))
theorem b01_X2_isLetter (a0 : Int32) : X2_isLetter a0 = 0 ∨ X2_isLetter a0 = 1 := by
  unfold X2_isLetter
  repeat (first | exact Or.inl rfl | exact Or.inr rfl | split)
def X2_isDigit (a0 : Int32) : Int32 := if a0 < 48 then (0) else (if 57 < a0 then (0) else (1))
theorem b01_X2_isDigit (a0 : Int32) : X2_isDigit a0 = 0 ∨ X2_isDigit a0 = 1 := by
  unfold X2_isDigit
  repeat (first | exact Or.inl rfl | exact Or.inr rfl | split)
def X2_readWord_L5 : Nat → St → Option St
  | 0, _ => none
  | n + 1, S => if (S 0 1) ≤ (S 0 4) then (some S) else ((rd S 1 120 (S 0 4)).bind fun v3 => if (X2_isLetter v3) = 0 then (some S) else ((some (ups S 0 4 ((S 0 4) + 1))).bind fun S5 => X2_readWord_L5 n S5))
def X2_readWord (S : St) : Option St := (some (ups S 0 2 1)).bind fun S1 => X2_readWord_L5 FU S1
def X2_readNumber_L10 : Nat → St → Option St
  | 0, _ => none
  | n + 1, S => if (S 0 1) ≤ (S 0 4) then (some S) else ((rd S 1 120 (S 0 4)).bind fun v4 => if (X2_isDigit v4) = 0 then (some S) else ((rd S 1 120 (S 0 4)).bind fun v6 => (some (ups S 0 5 (mnI ((((S 0 5) * 10) + v6) - 48) 10000))).bind fun S7 => (some (ups S7 0 4 ((S7 0 4) + 1))).bind fun S8 => X2_readNumber_L10 n S8))
def X2_readNumber (S : St) : Option St := (some (ups S 0 2 2)).bind fun S1 => (some (ups S1 0 5 0)).bind fun S2 => X2_readNumber_L10 FU S2
def X2_next_L38 (S : St) : Option St := (some (ups S 0 3 (S 0 4))).bind fun S2 => if (S2 0 3) < (S2 0 1) then ((rd S2 1 120 (S2 0 3)).bind fun v4 => if (X2_isLetter v4) = 0 then ((rd S2 1 120 (S2 0 3)).bind fun v6 => if (X2_isDigit v6) = 0 then ((rd S2 1 120 (S2 0 3)).bind fun v8 => if v8 = 59 then ((some (ups S2 0 2 3)).bind fun S12 => (some (ups S12 0 4 ((S12 0 4) + 1))).bind fun S13 => some S13) else ((some (ups S2 0 2 4)).bind fun S10 => (some (ups S10 0 4 ((S10 0 4) + 1))).bind fun S11 => some S11)) else ((X2_readNumber S2).bind fun S14 => some S14)) else ((X2_readWord S2).bind fun S15 => some S15)) else ((some (ups S2 0 2 0)).bind fun S16 => some S16)
def X2_next_L0 : Nat → St → Option St
  | 0, _ => none
  | n + 1, S => if (S 0 1) ≤ (S 0 4) then (X2_next_L38 S) else ((rd S 1 120 (S 0 4)).bind fun v17 => if v17 = 32 then ((some (ups S 0 4 ((S 0 4) + 1))).bind fun S19 => X2_next_L0 n S19) else (X2_next_L38 S))
def X2_next (S : St) : Option St := X2_next_L0 FU S
def X2_isWord_L28 (w1 : Nat) : Nat → Int32 → St → Option Int32
  | 0, _, _ => none
  | n + 1, b2, S => if (J0_length w1) ≤ b2 then (some 1) else ((rd S 1 120 ((S 0 3) + b2)).bind fun v4 => (J0_charAt w1 b2).bind fun r5 => if v4 = r5 then (X2_isWord_L28 w1 n (b2 + 1) S) else (some 0))
def X2_isWord (w1 : Nat) (S : St) : Option Int32 := if (S 0 2) = 1 then (if ((S 0 4) - (S 0 3)) = (J0_length w1) then (X2_isWord_L28 w1 FU 0 S) else (some 0)) else (some 0)
def X3_within (a0 : Int32) (a1 : Int32) (a2 : Int32) : Int32 := if a0 < a1 then (0) else (if a2 < a0 then (0) else (1))
theorem b01_X3_within (a0 : Int32) (a1 : Int32) (a2 : Int32) : X3_within a0 a1 a2 = 0 ∨ X3_within a0 a1 a2 = 1 := by
  unfold X3_within
  repeat (first | exact Or.inl rfl | exact Or.inr rfl | split)
def X3_isKind (a0 : Int32) : Int32 := (X3_within a0 0 6)
theorem b01_X3_isKind (a0 : Int32) : X3_isKind a0 = 0 ∨ X3_isKind a0 = 1 := by
  unfold X3_isKind
  repeat (first | exact Or.inl rfl | exact Or.inr rfl | exact b01_X3_within .. | split)
def X3_found (a1 : Int32) (S : St) : Option (Int32 × St) := (rd S 26 7 a1).bind fun v1 => (wr S 26 7 a1 (v1 + 1)).bind fun S2 => some (((-1000001) - a1), S2)
def X3_coin (a1 : Int32) (S : St) : Option (Int32 × St) := if (X3_isKind a1) = 0 then ((X3_found 0 S).bind fun (r11, S12) => some (r11, S12)) else (if (S 1 6) < 24 then ((X1_mint a1 (blk S 1)).bind fun (r4, T5) => (some (put S 1 7 T5)).bind fun S6 => some (r4, S6)) else ((X3_found 1 S).bind fun (r8, S9) => some (r8, S9)))
def X3_isCoin (a1 : Int32) (S : St) : Int32 := (X3_within a1 0 ((S 1 6) - 1))
theorem b01_X3_isCoin (a1 : Int32) (S : St) : X3_isCoin a1 S = 0 ∨ X3_isCoin a1 S = 1 := by
  unfold X3_isCoin
  repeat (first | exact Or.inl rfl | exact Or.inr rfl | exact b01_X3_within .. | split)
def X3_of (a1 : Int32) (a2 : Int32) (S : St) : Option (Int32 × St) := if (X3_isCoin a1 S) = 0 then ((X3_found 0 S).bind fun (r3, S4) => some (r3, S4)) else (if (X3_within a2 0 5) = 0 then ((X3_found 0 S).bind fun (r18, S19) => some (r18, S19)) else ((rd S 2 24 a1).bind fun v6 => if a2 = 0 then (some (v6, S)) else (if a2 = 1 then ((X1_toldPlace a1 (blk S 1)).bind fun r9 => some (r9, S)) else (if a2 = 2 then ((X1_depthOf a1 (blk S 1)).bind fun r11 => some (r11, S)) else (if a2 = 3 then ((rdc 7 (stC 1) v6).bind fun v13 => some (v13, S)) else (if a2 = 4 then ((rdc 7 (stC 2) v6).bind fun v15 => some (v15, S)) else ((rdc 7 (stC 3) v6).bind fun v16 => some (v16, S))))))))
def X3_change (a1 : Int32) (a2 : Int32) (S : St) : Option (Int32 × St) := if (X3_isCoin a1 S) = 0 then ((X3_found 0 S).bind fun (r3, S4) => some (r3, S4)) else (if (X3_isKind a2) = 0 then ((X3_found 0 S).bind fun (r9, S10) => some (r9, S10)) else ((rd S 2 24 a1).bind fun v6 => (wr S 2 24 a1 a2).bind fun S7 => some (v6, S7)))
def X3_isColumn (a0 : Int32) : Int32 := (X3_within a0 0 6)
theorem b01_X3_isColumn (a0 : Int32) : X3_isColumn a0 = 0 ∨ X3_isColumn a0 = 1 := by
  unfold X3_isColumn
  repeat (first | exact Or.inl rfl | exact Or.inr rfl | exact b01_X3_within .. | split)
def X3_isCell (a0 : Int32) (a1 : Int32) : Int32 := if (X3_isColumn a0) = 0 then (0) else (if (X3_within a1 0 5) = 0 then (0) else (1))
theorem b01_X3_isCell (a0 : Int32) (a1 : Int32) : X3_isCell a0 a1 = 0 ∨ X3_isCell a0 a1 = 1 := by
  unfold X3_isCell
  repeat (first | exact Or.inl rfl | exact Or.inr rfl | exact b01_X3_isColumn .. | exact b01_X3_within .. | split)
def X3_cellOf (a0 : Int32) (a1 : Int32) : Int32 := ((a0 * 6) + a1)
def X3_lay (a1 : Int32) (a2 : Int32) (a3 : Int32) (S : St) : Option (Int32 × St) := if (X3_isCoin a1 S) = 0 then ((X3_found 0 S).bind fun (r3, S4) => some (r3, S4)) else (if (X3_isCell a2 a3) = 0 then ((X3_found 0 S).bind fun (r20, S21) => some (r20, S21)) else ((rd S 3 24 a1).bind fun v6 => if v6 = 100 then ((X1_hasRoom (X3_cellOf a2 a3) (blk S 1)).bind fun r8 => if r8 = 0 then ((X3_found 1 S).bind fun (r14, S15) => some (r14, S15)) else ((X1_put a1 (X3_cellOf a2 a3) (blk S 1)).bind fun T10 => (some (put S 1 7 T10)).bind fun S11 => (rd S11 4 42 (X3_cellOf a2 a3)).bind fun v12 => some (v12, S11))) else ((X3_found 4 S).bind fun (r17, S18) => some (r17, S18))))
def X3_lift (a1 : Int32) (a2 : Int32) (S : St) : Option (Int32 × St) := if (X3_isCell a1 a2) = 0 then ((X3_found 0 S).bind fun (r12, S13) => some (r12, S13)) else ((rd S 4 42 (X3_cellOf a1 a2)).bind fun v2 => if v2 ≤ 0 then ((X3_found 3 S).bind fun (r5, S6) => some (r5, S6)) else ((X1_pull (X3_cellOf a1 a2) (blk S 1)).bind fun (r8, T9) => (some (put S 1 7 T9)).bind fun S10 => some (r8, S10)))
def X3_height (a1 : Int32) (a2 : Int32) (S : St) : Option (Int32 × St) := if (X3_isCell a1 a2) = 0 then ((X3_found 0 S).bind fun (r3, S4) => some (r3, S4)) else ((rd S 4 42 (X3_cellOf a1 a2)).bind fun v5 => some (v5, S))
def X3_seen (a1 : Int32) (a2 : Int32) (a3 : Int32) (S : St) : Option (Int32 × St) := if (X3_isCell a1 a2) = 0 then ((X3_found 0 S).bind fun (r3, S4) => some (r3, S4)) else (if (X3_within a3 0 3) = 0 then ((X3_found 0 S).bind fun (r13, S14) => some (r13, S14)) else ((rd S 4 42 (X3_cellOf a1 a2)).bind fun v6 => if v6 ≤ a3 then ((X3_found 3 S).bind fun (r9, S10) => some (r9, S10)) else ((rd S 5 168 (((X3_cellOf a1 a2) * 4) + a3)).bind fun v11 => some (v11, S))))
def X3_isSetting (a0 : Int32) (a1 : Int32) : Option Int32 := (rdc 3 (stC 4) a0).bind fun v1 => (rdc 3 (stC 5) a0).bind fun v2 => some (X3_within a1 v1 v2)
def X3_set (a1 : Int32) (a2 : Int32) (S : St) : Option (Int32 × St) := if (X3_within a1 0 2) = 0 then ((X3_found 0 S).bind fun (r3, S4) => some (r3, S4)) else ((X3_isSetting a1 a2).bind fun r5 => if r5 = 0 then ((X3_found 0 S).bind fun (r10, S11) => some (r10, S11)) else ((rd S 6 3 a1).bind fun v7 => (wr S 6 3 a1 a2).bind fun S8 => some (v7, S8)))
def X3_passesEnd (a1 : Int32) (S : St) : Int32 := if ((S 1 7) + a1) ≤ 9999 then (0) else (1)
theorem b01_X3_passesEnd (a1 : Int32) (S : St) : X3_passesEnd a1 S = 0 ∨ X3_passesEnd a1 S = 1 := by
  unfold X3_passesEnd
  repeat (first | exact Or.inl rfl | exact Or.inr rfl | split)
def X3_drop (a1 : Int32) (a2 : Int32) (S : St) : Option (Int32 × St) := if (X3_isCoin a1 S) = 0 then ((X3_found 0 S).bind fun (r3, S4) => some (r3, S4)) else (if (X3_isColumn a2) = 0 then ((X3_found 0 S).bind fun (r20, S21) => some (r20, S21)) else ((rd S 3 24 a1).bind fun v6 => if v6 = 100 then (if (X3_passesEnd 1 S) = 0 then ((X1_gain (blk S 1)).bind fun r12 => (X1_release a1 a2 (blk S 1)).bind fun T13 => (some (put S 1 7 T13)).bind fun S14 => (X1_gain (blk S14 1)).bind fun r15 => some ((r15 - r12), S14)) else ((X3_found 4 S).bind fun (r17, S18) => some (r17, S18))) else ((X3_found 4 S).bind fun (r9, S10) => some (r9, S10))))
def X3_beats (a1 : Int32) (S : St) : Option (Int32 × St) := if (X3_within a1 1 60) = 0 then ((X3_found 0 S).bind fun (r11, S12) => some (r11, S12)) else (if (X3_passesEnd a1 S) = 0 then ((X1_goneOver (blk S 1)).bind fun r3 => (X1_advance a1 (blk S 1)).bind fun T4 => (some (put S 1 7 T4)).bind fun S5 => (X1_goneOver (blk S5 1)).bind fun r6 => some ((r6 - r3), S5)) else ((X3_found 4 S).bind fun (r8, S9) => some (r8, S9)))
def X3_now (a1 : Int32) (S : St) : Option (Int32 × St) := if a1 = 0 then (some ((S 1 7), S)) else (if a1 = 1 then ((X1_gain (blk S 1)).bind fun r3 => some (r3, S)) else (if a1 = 2 then ((X1_bitsAt 101 (blk S 1)).bind fun r5 => some (r5, S)) else (if a1 = 3 then ((X1_bitsAt 102 (blk S 1)).bind fun r7 => some (r7, S)) else (if a1 = 4 then ((X1_bitsAt 100 (blk S 1)).bind fun r9 => some (r9, S)) else (if a1 = 5 then (some ((S 1 8), S)) else (if a1 = 6 then ((X1_worthAt 102 (blk S 1)).bind fun r12 => some (r12, S)) else ((X3_found 0 S).bind fun (r14, S15) => some (r14, S15))))))))
def X3_run (a1 : Int32) (S : St) : Option (Int32 × St) := if (X3_isColumn a1) = 0 then ((X3_found 0 S).bind fun (r3, S4) => some (r3, S4)) else ((X1_runRows a1 (blk S 1)).bind fun r5 => some (r5, S))
def X3_weight (a1 : Int32) (S : St) : Option (Int32 × St) := if (X3_isColumn a1) = 0 then ((X3_found 0 S).bind fun (r3, S4) => some (r3, S4)) else ((X1_runWeight a1 (blk S 1)).bind fun r5 => some (r5, S))
def X3_moved_L4 : Nat → Int32 → Int32 → St → Option Int32
  | 0, _, _, _ => none
  | n + 1, b1, b2, S => if 7 ≤ b2 then (some b1) else ((X1_pushMoves b2 (blk S 1)).bind fun r2 => if r2 = 0 then (X3_moved_L4 n b1 (b2 + 1) S) else (X3_moved_L4 n (b1 ||| (shl32 1 b2)) (b2 + 1) S))
def X3_moved (S : St) : Option Int32 := X3_moved_L4 FU 0 0 S
def X3_leaning_L4 : Nat → Int32 → Int32 → St → Option Int32
  | 0, _, _, _ => none
  | n + 1, b1, b2, S => if 42 ≤ b2 then (some b1) else ((X1_leans b2 (blk S 1)).bind fun r2 => if r2 = 0 then (X3_leaning_L4 n b1 (b2 + 1) S) else (X3_leaning_L4 n (b1 + 1) (b2 + 1) S))
def X3_leaning (S : St) : Option Int32 := X3_leaning_L4 FU 0 0 S
def X3_ahead (a1 : Int32) (a2 : Int32) (S : St) : Option (Int32 × St) := if (X3_within a1 0 60) = 0 then ((X3_found 0 S).bind fun (r3, S4) => some (r3, S4)) else (if (X3_within a2 0 3) = 0 then ((X3_found 0 S).bind fun (r23, S24) => some (r23, S24)) else (if (X3_passesEnd a1 S) = 0 then ((some (put S 15 7 (blk S 1))).bind fun S7 => (X1_advance a1 (blk S7 15)).bind fun T8 => (some (put S7 15 7 T8)).bind fun S9 => if a2 = 0 then ((X1_worthAt 101 (blk S9 15)).bind fun r11 => (X1_worthAt 101 (blk S9 1)).bind fun r12 => some ((r11 - r12), S9)) else (if a2 = 1 then ((X1_goneOver (blk S9 15)).bind fun r14 => (X1_goneOver (blk S9 1)).bind fun r15 => some ((r14 - r15), S9)) else (if a2 = 2 then ((X1_bitsOnShelf (blk S9 15)).bind fun r17 => some (r17, S9)) else ((X1_highest (blk S9 15)).bind fun r18 => some (r18, S9))))) else ((X3_found 4 S).bind fun (r20, S21) => some (r20, S21))))
def X3_falls_L57 : Nat → Int32 → Int32 → St → Option (Int32 × St)
  | 0, _, _, _ => none
  | n + 1, b1, b2, S => if 60 < b2 then ((X3_found 3 S).bind fun (r11, S12) => some (r11, S12)) else ((X1_advance 1 (blk S 15)).bind fun T13 => (some (put S 15 7 T13)).bind fun S14 => (X1_isOnShelf b1 (blk S14 15)).bind fun r15 => if r15 = 0 then (some (b2, S14)) else (X3_falls_L57 n b1 (b2 + 1) S14))
def X3_falls (a1 : Int32) (S : St) : Option (Int32 × St) := if (X3_isCoin a1 S) = 0 then ((X3_found 0 S).bind fun (r21, S22) => some (r21, S22)) else ((X1_isOnShelf a1 (blk S 1)).bind fun r2 => if r2 = 0 then ((X3_found 4 S).bind fun (r5, S6) => some (r5, S6)) else (if (S 1 7) ≤ 9939 then ((some (put S 15 7 (blk S 1))).bind fun S8 => X3_falls_L57 FU a1 1 S8) else ((X3_found 4 S).bind fun (r18, S19) => some (r18, S19))))
def X3_rest_L69 (k44 : Int32 → Int32 → Int32 → St → Option (Int32 × St)) (b1 : Int32) (b3 : Int32) (t0 : Int32) (S : St) : Option (Int32 × St) := if t0 < b1 then (k44 b1 t0 (b3 + 1) S) else (some ((b3 - b1), S))
def X3_rest_L44 : Nat → Int32 → Int32 → Int32 → St → Option (Int32 × St)
  | 0, _, _, _, _ => none
  | n + 1, b1, b2, b3, S => if (60 + b1) < b3 then ((X3_found 3 S).bind fun (r6, S7) => some (r6, S7)) else ((X1_passBeat (blk S 15)).bind fun (r9, T10) => (some (put S 15 7 T10)).bind fun S11 => if r9 = 0 then (X3_rest_L69 (X3_rest_L44 n) b1 b3 (b2 + 1) S11) else (X3_rest_L69 (X3_rest_L44 n) b1 b3 0 S11))
def X3_rest (S : St) : Option (Int32 × St) := if (S 1 7) ≤ 9930 then ((rd S 6 3 1).bind fun v2 => (some (put S 15 7 (blk S 1))).bind fun S3 => X3_rest_L44 FU v2 0 1 S3) else ((X3_found 4 S).bind fun (r15, S16) => some (r15, S16))
def X3_isSearched (a1 : Int32) (S : St) : Option Int32 := (rd S 3 24 a1).bind fun v1 => if v1 = 100 then (if 9900 < (S 1 7) then (some 0) else (some 1)) else (some 0)
def X3_gainBy (k1 : Nat) (a2 : Int32) (a3 : Int32) (a4 : Int32) (S : St) : Option (Int32 × St) := (gne 15 k1).bind fun kv1 => (some (put S 15 7 (blk S k1))).bind fun S2 => (X1_release a2 a3 (blk S2 15)).bind fun T3 => (some (put S2 15 7 T3)).bind fun S4 => (X1_advance a4 (blk S4 15)).bind fun T5 => (some (put S4 15 7 T5)).bind fun S6 => (X1_gain (blk S6 15)).bind fun r7 => some (r7, S6)
def X3_brings (a1 : Int32) (a2 : Int32) (a3 : Int32) (S : St) : Option (Int32 × St) := if (X3_isCoin a1 S) = 0 then ((X3_found 0 S).bind fun (r3, S4) => some (r3, S4)) else (if (X3_isColumn a2) = 0 then ((X3_found 0 S).bind fun (r7, S8) => some (r7, S8)) else (if (X3_within a3 0 20) = 0 then ((X3_found 0 S).bind fun (r20, S21) => some (r20, S21)) else ((X3_isSearched a1 S).bind fun r10 => if r10 = 0 then ((X3_found 4 S).bind fun (r17, S18) => some (r17, S18)) else ((X3_gainBy 1 a1 a2 a3 S).bind fun (r13, S14) => (X1_gain (blk S14 1)).bind fun r15 => some ((r13 - r15), S14)))))
def X3_best_L56 : Nat → Int32 → Int32 → Int32 → Int32 → Int32 → St → Option (Int32 × St)
  | 0, _, _, _, _, _, _ => none
  | n + 1, b1, b2, b3, b4, b5, S => if 7 ≤ b5 then (some (b3, S)) else ((X3_gainBy 1 b1 b5 b2 S).bind fun (r13, S14) => if r13 ≤ b4 then (X3_best_L56 n b1 b2 b3 b4 (b5 + 1) S14) else (X3_best_L56 n b1 b2 b5 r13 (b5 + 1) S14))
def X3_best (a1 : Int32) (a2 : Int32) (S : St) : Option (Int32 × St) := if (X3_isCoin a1 S) = 0 then ((X3_found 0 S).bind fun (r3, S4) => some (r3, S4)) else (if (X3_within a2 0 20) = 0 then ((X3_found 0 S).bind fun (r20, S21) => some (r20, S21)) else ((X3_isSearched a1 S).bind fun r6 => if r6 = 0 then ((X3_found 4 S).bind fun (r17, S18) => some (r17, S18)) else ((X3_gainBy 1 a1 0 a2 S).bind fun (r9, S10) => X3_best_L56 FU a1 a2 0 r9 1 S10)))
def X3_wait_L82 (k72 : Int32 → Int32 → Nat → Int32 → Int32 → Int32 → St → Option (Int32 × St)) : Nat → Int32 → Int32 → Nat → Int32 → Int32 → Int32 → Int32 → St → Option (Int32 × St)
  | 0, _, _, _, _, _, _, _, _ => none
  | n + 1, b1, b2, kb3, b4, b5, b6, b7, S => if 7 ≤ b7 then ((X1_advance 1 (blk S kb3)).bind fun T16 => (some (put S kb3 7 T16)).bind fun S17 => k72 b1 b2 kb3 b4 b5 (b6 + 1) S17) else ((X3_gainBy kb3 b1 b7 b2 S).bind fun (r19, S20) => if r19 ≤ b5 then (X3_wait_L82 k72 n b1 b2 kb3 b4 b5 b6 (b7 + 1) S20) else (X3_wait_L82 k72 n b1 b2 kb3 ((10 * b6) + b7) r19 b6 (b7 + 1) S20))
def X3_wait_L72 : Nat → Int32 → Int32 → Nat → Int32 → Int32 → Int32 → St → Option (Int32 × St)
  | 0, _, _, _, _, _, _, _ => none
  | n + 1, b1, b2, kb3, b4, b5, b6, S => if 11 < b6 then (some (b4, S)) else (X3_wait_L82 (X3_wait_L72 n) FU b1 b2 kb3 b4 b5 b6 0 S)
def X3_wait (a1 : Int32) (a2 : Int32) (S : St) : Option (Int32 × St) := if (X3_isCoin a1 S) = 0 then ((X3_found 0 S).bind fun (r3, S4) => some (r3, S4)) else (if (X3_within a2 0 20) = 0 then ((X3_found 0 S).bind fun (r26, S27) => some (r26, S27)) else ((X3_isSearched a1 S).bind fun r6 => if r6 = 0 then ((X3_found 4 S).bind fun (r23, S24) => some (r23, S24)) else ((rdn 4 lvl 1).bind fun kv8 => (gne kv8 1).bind fun kv9 => (some (put S kv8 7 (blk S 1))).bind fun S10 => (X3_gainBy 1 a1 0 a2 S10).bind fun (r12, S13) => X3_wait_L72 FU a1 a2 kv8 0 r12 0 S13)))
def X3_canDrop (a1 : Int32) (S : St) : Option Int32 := (X1_bitsAt 100 (blk S 1)).bind fun r1 => if (J6_bitCount_0f7a4 r1) < a1 then (some 0) else (if 9900 < (S 1 7) then (some 0) else (some 1))
def X3_columnOf (a0 : Int32) (a1 : Int32) (a2 : Int32) : Option Int32 := (rdc 4 (stC 6) (a1 - a2)).bind fun v1 => (dvn a0 v1).bind fun v2 => some (irm v2 7)
def X3_walk_L2 : Nat → Int32 → Int32 → Int32 → St → Option (Nat × St)
  | 0, _, _, _, _ => none
  | n + 1, b1, b2, b3, S => if b2 < b3 then ((rdn 4 lvl b2).bind fun kv2 => some (kv2, S)) else ((rdc 4 (stC 6) (b2 - b3)).bind fun v3 => (rmn b1 v3).bind fun v4 => if v4 = 0 then ((rdn 4 lvl b3).bind fun kv6 => (rdn 4 lvl (b3 - 1)).bind fun kv7 => (gne kv6 kv7).bind fun kv8 => (some (put S kv6 7 (blk S kv7))).bind fun S9 => (X1_leastInHand (blk S9 kv6)).bind fun r10 => (X3_columnOf b1 b2 b3).bind fun r11 => (X1_release r10 r11 (blk S9 kv6)).bind fun T12 => (some (put S9 kv6 7 T12)).bind fun S13 => X3_walk_L2 n b1 b2 (b3 + 1) S13) else (X3_walk_L2 n b1 b2 (b3 + 1) S))
def X3_walk (a1 : Int32) (a2 : Int32) (S : St) : Option (Nat × St) := X3_walk_L2 FU a1 a2 1 S
def X3_gainOfThree (a1 : Int32) (a2 : Int32) (S : St) : Option (Int32 × St) := (X3_walk a1 3 S).bind fun (r2, S3) => (gsh r2).bind fun kv4 => (gne 15 r2).bind fun kv5 => (some (put S3 15 7 (blk S3 r2))).bind fun S6 => (X1_advance a2 (blk S6 15)).bind fun T7 => (some (put S6 15 7 T7)).bind fun S8 => (X1_gain (blk S8 15)).bind fun r9 => some (r9, S8)
def X3_three_L42 : Nat → Int32 → Int32 → Int32 → Int32 → St → Option (Int32 × St)
  | 0, _, _, _, _, _ => none
  | n + 1, b1, b2, b3, b4, S => (rdc 4 (stC 6) 3).bind fun v7 => if v7 ≤ b4 then ((X3_columnOf b2 3 1).bind fun r9 => (X3_columnOf b2 3 2).bind fun r10 => (X3_columnOf b2 3 3).bind fun r11 => some ((((100 * r9) + (10 * r10)) + r11), S)) else ((X3_gainOfThree b4 b1 S).bind fun (r13, S14) => if r13 ≤ b3 then (X3_three_L42 n b1 b2 b3 (b4 + 1) S14) else (X3_three_L42 n b1 b4 r13 (b4 + 1) S14))
def X3_three (a1 : Int32) (S : St) : Option (Int32 × St) := if (X3_within a1 0 20) = 0 then ((X3_found 0 S).bind fun (r20, S21) => some (r20, S21)) else ((X3_canDrop 3 S).bind fun r2 => if r2 = 0 then ((X3_found 4 S).bind fun (r17, S18) => some (r17, S18)) else ((X3_gainOfThree 0 a1 S).bind fun (r5, S6) => X3_three_L42 FU a1 0 r5 1 S6))
def X3_threeBring_L39 : Nat → Int32 → Int32 → Int32 → St → Option (Int32 × St)
  | 0, _, _, _, _ => none
  | n + 1, b1, b2, b3, S => (rdc 4 (stC 6) 3).bind fun v7 => if v7 ≤ b3 then ((X1_gain (blk S 1)).bind fun r9 => some ((b2 - r9), S)) else ((X3_gainOfThree b3 b1 S).bind fun (r11, S12) => X3_threeBring_L39 n b1 (mxI b2 r11) (b3 + 1) S12)
def X3_threeBring (a1 : Int32) (S : St) : Option (Int32 × St) := if (X3_within a1 0 20) = 0 then ((X3_found 0 S).bind fun (r17, S18) => some (r17, S18)) else ((X3_canDrop 3 S).bind fun r2 => if r2 = 0 then ((X3_found 4 S).bind fun (r14, S15) => some (r14, S15)) else ((X3_gainOfThree 0 a1 S).bind fun (r5, S6) => X3_threeBring_L39 FU a1 r5 1 S6))
def X3_soonestWay_L19 (k2 : Int32 → Int32 → St → Option (Int32 × St)) : Nat → Int32 → Int32 → Int32 → St → Option (Int32 × St)
  | 0, _, _, _, _ => none
  | n + 1, b1, b2, b3, S => (rdc 4 (stC 6) b2).bind fun v4 => if v4 ≤ b3 then (k2 b1 (b2 + 1) S) else ((X3_walk b3 b2 S).bind fun (r7, S8) => (gsh r7).bind fun kv9 => (rd S8 (r7 + 2) 24 b1).bind fun v10 => if v10 = 101 then ((rdc 4 (stC 6) 3).bind fun v12 => some (((b2 * v12) + b3), S8)) else (X3_soonestWay_L19 k2 n b1 b2 (b3 + 1) S8))
def X3_soonestWay_L2 : Nat → Int32 → Int32 → St → Option (Int32 × St)
  | 0, _, _, _ => none
  | n + 1, b1, b2, S => if 3 < b2 then (some ((-1), S)) else ((X3_canDrop b2 S).bind fun r2 => if r2 = 0 then (some ((-1), S)) else (X3_soonestWay_L19 (X3_soonestWay_L2 n) FU b1 b2 0 S))
def X3_soonestWay (a1 : Int32) (S : St) : Option (Int32 × St) := X3_soonestWay_L2 FU a1 0 S
def X3_soonest (a1 : Int32) (S : St) : Option (Int32 × St) := if (X3_isCoin a1 S) = 0 then ((X3_found 0 S).bind fun (r16, S17) => some (r16, S17)) else (if (S 1 7) ≤ 9900 then ((X3_soonestWay a1 S).bind fun (r4, S5) => if 0 ≤ r4 then ((rdc 4 (stC 6) 3).bind fun v7 => (dvn r4 v7).bind fun v8 => some (v8, S5)) else ((X3_found 3 S5).bind fun (r10, S11) => some (r10, S11))) else ((X3_found 4 S).bind fun (r13, S14) => some (r13, S14)))
def X3_firstFor (a1 : Int32) (S : St) : Option (Int32 × St) := if (X3_isCoin a1 S) = 0 then ((X3_found 0 S).bind fun (r20, S21) => some (r20, S21)) else (if (S 1 7) ≤ 9900 then ((X3_soonestWay a1 S).bind fun (r4, S5) => (rdc 4 (stC 6) 3).bind fun v6 => if v6 ≤ r4 then ((rdc 4 (stC 6) 3).bind fun v8 => (dvn r4 v8).bind fun v9 => (rdc 4 (stC 6) 3).bind fun v10 => (rmn r4 v10).bind fun v11 => (X3_columnOf v11 v9 1).bind fun r12 => some (r12, S5)) else ((X3_found 3 S5).bind fun (r14, S15) => some (r14, S15))) else ((X3_found 4 S).bind fun (r17, S18) => some (r17, S18)))
def X3_ways_L48 : Nat → Int32 → Int32 → Int32 → Int32 → St → Option (Int64 × St)
  | 0, _, _, _, _, _ => none
  | n + 1, b1, b2, b3, b4, S => (rdc 4 (stC 6) b1).bind fun v8 => if v8 ≤ b4 then (some (b3.toInt64, S)) else ((X3_walk b4 b1 S).bind fun (r11, S12) => (gsh r11).bind fun kv13 => (X1_gain (blk S12 r11)).bind fun r14 => if r14 < b2 then (X3_ways_L48 n b1 b2 b3 (b4 + 1) S12) else (X3_ways_L48 n b1 b2 (b3 + 1) (b4 + 1) S12))
def X3_ways (a1 : Int32) (a2 : Int32) (S : St) : Option (Int64 × St) := if (X3_within a1 0 3) = 0 then ((X3_found 0 S).bind fun (r3, S4) => some (r3.toInt64, S4)) else (if (X3_within a2 (-99) 999) = 0 then ((X3_found 0 S).bind fun (r20, S21) => some (r20.toInt64, S21)) else ((X3_canDrop a1 S).bind fun r6 => if r6 = 0 then ((X3_found 4 S).bind fun (r17, S18) => some (r17.toInt64, S18)) else (X3_ways_L48 FU a1 a2 0 0 S)))
def X3_total_L44 : Nat → Int32 → Int32 → Int64 → Int32 → St → Option (Int64 × St)
  | 0, _, _, _, _, _ => none
  | n + 1, b1, b2, b3, b5, S => (rdc 4 (stC 6) b1).bind fun v5 => if v5 ≤ b5 then (some (b3, S)) else ((X3_walk b5 b1 S).bind fun (r8, S9) => (gsh r8).bind fun kv10 => (X1_gain (blk S9 r8)).bind fun r11 => X3_total_L44 n b1 b2 (b3 + (r11 - b2).toInt64) (b5 + 1) S9)
def X3_total (a1 : Int32) (S : St) : Option (Int64 × St) := if (X3_within a1 0 3) = 0 then ((X3_found 0 S).bind fun (r16, S17) => some (r16.toInt64, S17)) else ((X3_canDrop a1 S).bind fun r2 => if r2 = 0 then ((X3_found 4 S).bind fun (r13, S14) => some (r13.toInt64, S14)) else ((X1_gain (blk S 1)).bind fun r4 => X3_total_L44 FU a1 r4 0 0 S))
def X3_luck_L44 : Nat → Int32 → Int32 → Int32 → Int32 → St → Option (Int64 × St)
  | 0, _, _, _, _, _ => none
  | n + 1, b1, b2, b3, b4, S => (rdc 4 (stC 6) b2).bind fun v8 => if v8 ≤ b4 then (some (b3.toInt64, S)) else ((X3_walk b4 b2 S).bind fun (r11, S12) => (gsh r11).bind fun kv13 => (rd S12 (r11 + 2) 24 b1).bind fun v14 => if v14 = 101 then (X3_luck_L44 n b1 b2 (b3 + 1) (b4 + 1) S12) else (X3_luck_L44 n b1 b2 b3 (b4 + 1) S12))
def X3_luck (a1 : Int32) (a2 : Int32) (S : St) : Option (Int64 × St) := if (X3_isCoin a1 S) = 0 then ((X3_found 0 S).bind fun (r3, S4) => some (r3.toInt64, S4)) else (if (X3_within a2 0 3) = 0 then ((X3_found 0 S).bind fun (r20, S21) => some (r20.toInt64, S21)) else ((X3_canDrop a2 S).bind fun r6 => if r6 = 0 then ((X3_found 4 S).bind fun (r17, S18) => some (r17.toInt64, S18)) else (X3_luck_L44 FU a1 a2 0 0 S)))
def X3_play_L40 : Nat → Int32 → Int32 → Int32 → St → Option (Int32 × St)
  | 0, _, _, _, _ => none
  | n + 1, b1, b2, b3, S => if b1 ≤ b3 then ((X1_gain (blk S 1)).bind fun r6 => some ((r6 - b2), S)) else ((X1_leastInHand (blk S 1)).bind fun r7 => (X1_draw (blk S 1)).bind fun (r9, T10) => (some (put S 1 7 T10)).bind fun S11 => (X1_release r7 (irm r9 7) (blk S11 1)).bind fun T12 => (some (put S11 1 7 T12)).bind fun S13 => X3_play_L40 n b1 b2 (b3 + 1) S13)
def X3_play (a1 : Int32) (S : St) : Option (Int32 × St) := if (X3_within a1 1 12) = 0 then ((X3_found 0 S).bind fun (r18, S19) => some (r18, S19)) else ((X3_canDrop a1 S).bind fun r2 => if r2 = 0 then ((X3_found 4 S).bind fun (r15, S16) => some (r15, S16)) else ((X1_gain (blk S 1)).bind fun r4 => X3_play_L40 FU a1 r4 0 S))
def X3_jolt (S : St) : Option (Int32 × St) := (X1_shake (blk S 1)).bind fun (r2, T3) => (some (put S 1 7 T3)).bind fun S4 => some (r2, S4)
def X3_jolted (S : St) : Option (Int32 × St) := (some (put S 15 7 (blk S 1))).bind fun S1 => (X1_shake (blk S1 15)).bind fun (r3, T4) => (some (put S1 15 7 T4)).bind fun S5 => (X1_worthAt 101 (blk S5 15)).bind fun r6 => (X1_worthAt 101 (blk S5 1)).bind fun r7 => some ((r6 - r7), S5)
def X3_stroke_L41 : Nat → Int32 → Int32 → Int32 → Int32 → St → Option (Int32 × St)
  | 0, _, _, _, _, _ => none
  | n + 1, b1, b2, b3, b4, S => (rdc 3 (stC 5) 1).bind fun v4 => if v4 < b4 then (some (b2, S)) else ((some (put S 15 7 (blk S 1))).bind fun S6 => (wr S6 20 3 1 b4).bind fun S7 => (X1_advance b1 (blk S7 15)).bind fun T8 => (some (put S7 15 7 T8)).bind fun S9 => (X1_worthAt 101 (blk S9 15)).bind fun r10 => if b2 = 0 then (X3_stroke_L41 n b1 b4 r10 (b4 + 1) S9) else (if b3 ≤ r10 then (X3_stroke_L41 n b1 b2 b3 (b4 + 1) S9) else (X3_stroke_L41 n b1 b4 r10 (b4 + 1) S9)))
def X3_stroke (a1 : Int32) (S : St) : Option (Int32 × St) := if (X3_within a1 1 60) = 0 then ((X3_found 0 S).bind fun (r17, S18) => some (r17, S18)) else (if (X3_passesEnd a1 S) = 0 then ((rdc 3 (stC 4) 1).bind fun v3 => X3_stroke_L41 FU a1 0 0 v3 S) else ((X3_found 4 S).bind fun (r14, S15) => some (r14, S15)))
def X3_force_L55 : Nat → Int32 → Int32 → Int32 → St → Option (Int32 × St)
  | 0, _, _, _, _ => none
  | n + 1, b1, b2, b3, S => (rdc 3 (stC 5) 0).bind fun v13 => if v13 < b3 then ((X3_found 3 S).bind fun (r16, S17) => some (r16, S17)) else ((some (put S 15 7 (blk S 1))).bind fun S18 => (wr S18 20 3 0 b3).bind fun S19 => (X1_advance b2 (blk S19 15)).bind fun T20 => (some (put S19 15 7 T20)).bind fun S21 => (X1_isOnShelf b1 (blk S21 15)).bind fun r22 => if r22 = 0 then (some (b3, S21)) else (X3_force_L55 n b1 b2 (b3 + 1) S21))
def X3_force (a1 : Int32) (a2 : Int32) (S : St) : Option (Int32 × St) := if (X3_isCoin a1 S) = 0 then ((X3_found 0 S).bind fun (r3, S4) => some (r3, S4)) else (if (X3_within a2 1 60) = 0 then ((X3_found 0 S).bind fun (r28, S29) => some (r28, S29)) else ((X1_isOnShelf a1 (blk S 1)).bind fun r6 => if r6 = 0 then ((X3_found 4 S).bind fun (r9, S10) => some (r9, S10)) else (if (X3_passesEnd a2 S) = 0 then ((rdc 3 (stC 4) 0).bind fun v12 => X3_force_L55 FU a1 a2 v12 S) else ((X3_found 4 S).bind fun (r25, S26) => some (r25, S26)))))
def X3_kindFor_L118 (k57 : Int32 → Int32 → Int32 → Int32 → Int32 → St → Option (Int32 × St)) (b1 : Int32) (b2 : Int32) (b3 : Int32) (b4 : Int32) (b5 : Int32) (t0 : Int32) (S : St) : Option (Int32 × St) := (X1_worthAt 101 (blk S 15)).bind fun r19 => if b3 < 0 then (k57 b1 b2 b5 (r19 - t0) (b5 + 1) S) else (if (r19 - t0) ≤ b4 then (k57 b1 b2 b3 b4 (b5 + 1) S) else (k57 b1 b2 b5 (r19 - t0) (b5 + 1) S))
def X3_kindFor_L57 : Nat → Int32 → Int32 → Int32 → Int32 → Int32 → St → Option (Int32 × St)
  | 0, _, _, _, _, _, _ => none
  | n + 1, b1, b2, b3, b4, b5, S => if 7 ≤ b5 then (some (b3, S)) else ((some (put S 15 7 (blk S 1))).bind fun S13 => (wr S13 16 24 b1 b5).bind fun S14 => (X1_advance b2 (blk S14 15)).bind fun T15 => (some (put S14 15 7 T15)).bind fun S16 => (rd S16 17 24 b1).bind fun v17 => if v17 = 101 then ((rdc 7 (stC 1) b5).bind fun v22 => X3_kindFor_L118 (X3_kindFor_L57 n) b1 b2 b3 b4 b5 v22 S16) else (X3_kindFor_L118 (X3_kindFor_L57 n) b1 b2 b3 b4 b5 0 S16))
def X3_kindFor (a1 : Int32) (a2 : Int32) (S : St) : Option (Int32 × St) := if (X3_isCoin a1 S) = 0 then ((X3_found 0 S).bind fun (r3, S4) => some (r3, S4)) else (if (X3_within a2 1 60) = 0 then ((X3_found 0 S).bind fun (r27, S28) => some (r27, S28)) else ((X1_isOnShelf a1 (blk S 1)).bind fun r6 => if r6 = 0 then ((X3_found 4 S).bind fun (r9, S10) => some (r9, S10)) else (if (X3_passesEnd a2 S) = 0 then (X3_kindFor_L57 FU a1 a2 (-1) 0 0 S) else ((X3_found 4 S).bind fun (r24, S25) => some (r24, S25)))))
def X3_seed (a1 : Int32) (S : St) : Option (Int32 × St) := (some (ups S 1 9 a1)).bind fun S1 => some ((S 1 9), S1)
def X3_feed_L39 : Nat → Int32 → Int32 → St → Option (Int32 × St)
  | 0, _, _, _ => none
  | n + 1, b1, b3, S => if b3 < 0 then (some ((S 23 1), S)) else ((X2_append ((ush32 b1 (8 * b3)) &&& 255) (blk S 23)).bind fun T4 => (some (put S 23 2 T4)).bind fun S5 => X3_feed_L39 n b1 (b3 + (-1)) S5)
def X3_feed (a1 : Int32) (a2 : Int32) (S : St) : Option (Int32 × St) := if (X3_within a2 1 4) = 0 then ((X3_found 0 S).bind fun (r10, S11) => some (r10, S11)) else (if ((S 23 1) + a2) ≤ 120 then (X3_feed_L39 FU a1 (a2 - 1) S) else ((X3_found 1 S).bind fun (r7, S8) => some (r7, S8)))
def X3_wipe (S : St) : Option (Int32 × St) := (some (ups S 23 1 0)).bind fun S1 => some ((S 23 1), S1)
def X3_kindWord (a0 : Int32) : Nat := if a0 = 0 then (0) else (if a0 = 1 then (1) else (if a0 = 2 then (2) else (if a0 = 3 then (3) else (if a0 = 4 then (4) else (if a0 = 5 then (5) else (6))))))
def X3_readCoin (k1 : Nat) (a2 : Int32) (S : St) : Option (Int32 × St) := if (S k1 6) < 24 then ((X1_mint a2 (blk S k1)).bind fun (r3, T4) => (some (put S k1 7 T4)).bind fun S5 => (X2_next (blk S5 23)).bind fun T6 => (some (put S5 23 2 T6)).bind fun S7 => (X2_isWord 10 (blk S7 23)).bind fun r8 => if r8 = 0 then (some (1, S7)) else ((X2_next (blk S7 23)).bind fun T10 => (some (put S7 23 2 T10)).bind fun S11 => if (S11 23 2) = 2 then (if (X3_isColumn (S11 23 5)) = 0 then (some (0, S11)) else ((X2_next (blk S11 23)).bind fun T14 => (some (put S11 23 2 T14)).bind fun S15 => if (S15 23 2) = 2 then (if (X3_isCell (S11 23 5) (S15 23 5)) = 0 then (some (0, S15)) else ((X1_hasRoom (X3_cellOf (S11 23 5) (S15 23 5)) (blk S15 k1)).bind fun r18 => if r18 = 0 then (some (0, S15)) else ((X1_put r3 (X3_cellOf (S11 23 5) (S15 23 5)) (blk S15 k1)).bind fun T20 => (some (put S15 k1 7 T20)).bind fun S21 => (X2_next (blk S21 23)).bind fun T22 => (some (put S21 23 2 T22)).bind fun S23 => some (1, S23)))) else (some (0, S15)))) else (some (0, S11)))) else (some (0, S))
def X3_settingWord (a0 : Int32) : Nat := if a0 = 0 then (7) else (if a0 = 1 then (8) else (9))
def X3_readSetting (k1 : Nat) (a2 : Int32) (S : St) : Option (Int32 × St) := (X2_next (blk S 23)).bind fun T1 => (some (put S 23 2 T1)).bind fun S2 => if (S2 23 2) = 2 then ((X3_isSetting a2 (S2 23 5)).bind fun r4 => if r4 = 0 then (some (0, S2)) else ((wr S2 (k1 + 5) 3 a2 (S2 23 5)).bind fun S6 => (X2_next (blk S6 23)).bind fun T7 => (some (put S6 23 2 T7)).bind fun S8 => some (1, S8))) else (some (0, S2))
def X3_readItem_L37 (k1 : Nat) : Nat → Int32 → St → Option (Int32 × St)
  | 0, _, _ => none
  | n + 1, b2, S => if 3 ≤ b2 then (some (0, S)) else ((gst (X3_settingWord b2)).bind fun w3 => (X2_isWord (X3_settingWord b2) (blk S 23)).bind fun r4 => if r4 = 0 then (X3_readItem_L37 k1 n (b2 + 1) S) else ((X3_readSetting k1 b2 S).bind fun (r7, S8) => (bl r7).bind fun v9 => some (r7, S8)))
def X3_readItem_L2 (k1 : Nat) : Nat → Int32 → St → Option (Int32 × St)
  | 0, _, _ => none
  | n + 1, b2, S => if 7 ≤ b2 then (X3_readItem_L37 k1 FU 0 S) else ((gst (X3_kindWord b2)).bind fun w10 => (X2_isWord (X3_kindWord b2) (blk S 23)).bind fun r11 => if r11 = 0 then (X3_readItem_L2 k1 n (b2 + 1) S) else ((X3_readCoin k1 b2 S).bind fun (r14, S15) => (bl r14).bind fun v16 => some (r14, S15)))
def X3_readItem (k1 : Nat) (S : St) : Option (Int32 × St) := X3_readItem_L2 k1 FU 0 S
def X3_readText_L9 (k1 : Nat) : Nat → Int32 → St → Option (Int32 × St)
  | 0, _, _ => none
  | n + 1, b2, S => if 120 < b2 then (some (((-1) - (S 23 3)), S)) else ((X2_next (blk S 23)).bind fun T4 => (some (put S 23 2 T4)).bind fun S5 => (X3_readItem k1 S5).bind fun (r7, S8) => if r7 = 0 then (some (((-1) - (S8 23 3)), S8)) else (if (S8 23 2) = 0 then (some (b2, S8)) else (if (S8 23 2) = 3 then (X3_readText_L9 k1 n (b2 + 1) S8) else (some (((-1) - (S8 23 3)), S8)))))
def X3_readText (k1 : Nat) (S : St) : Option (Int32 × St) := (X2_rewind (blk S 23)).bind fun T1 => (some (put S 23 2 T1)).bind fun S2 => X3_readText_L9 k1 FU 1 S2
def X3_text (S : St) : Option (Int32 × St) := (some (put S 15 7 (blk S 1))).bind fun S1 => (X3_readText 15 S1).bind fun (r3, S4) => if r3 < 0 then ((some (ups S4 23 1 0)).bind fun S6 => some (r3, S6)) else ((some (put S4 1 7 (blk S4 15))).bind fun S7 => (some (ups S7 23 1 0)).bind fun S8 => some (r3, S8))
def X3_hold (a1 : Int32) (a2 : Int32) (S : St) : Option (Int32 × St) := if (X3_within a1 0 9) = 0 then ((X3_found 0 S).bind fun (r3, S4) => some (r3, S4)) else (if a2 = (-1) then ((wr S 7 10 a1 a2).bind fun S6 => some (1, S6)) else (if (X3_isCoin a2 S) = 0 then ((X3_found 0 S).bind fun (r10, S11) => some (r10, S11)) else ((wr S 7 10 a1 a2).bind fun S8 => some (1, S8))))
def X3_isUnder_L4 : Nat → Int32 → Int32 → Int32 → Option Int32
  | 0, _, _, _ => none
  | n + 1, b1, b2, b3 => if 7 ≤ b3 then (some 0) else (if b2 < 0 then (some 0) else (if b2 = b1 then (some 1) else ((rdc 7 (stC 0) b2).bind fun v4 => X3_isUnder_L4 n b1 v4 (b3 + 1))))
def X3_isUnder (a0 : Int32) (a1 : Int32) : Option Int32 := X3_isUnder_L4 FU a1 a0 0
def X3_as (a1 : Int32) (a2 : Int32) (S : St) : Option (Int32 × St) := if (X3_within a1 0 9) = 0 then ((X3_found 0 S).bind fun (r3, S4) => some (r3, S4)) else (if (X3_isKind a2) = 0 then ((X3_found 0 S).bind fun (r18, S19) => some (r18, S19)) else ((rd S 7 10 a1).bind fun v6 => if (X3_isCoin v6 S) = 0 then ((X3_found 5 S).bind fun (r15, S16) => some (r15, S16)) else ((rd S 2 24 v6).bind fun v8 => (X3_isUnder v8 a2).bind fun r9 => if r9 = 0 then ((X3_found 2 S).bind fun (r12, S13) => some (r12, S13)) else (some (v6, S)))))
def X3_isSheet (a0 : Int32) : Int32 := (X3_within a0 0 3)
theorem b01_X3_isSheet (a0 : Int32) : X3_isSheet a0 = 0 ∨ X3_isSheet a0 = 1 := by
  unfold X3_isSheet
  repeat (first | exact Or.inl rfl | exact Or.inr rfl | exact b01_X3_within .. | split)
def X3_isWidth (a0 : Int32) : Int32 := if a0 = 0 then (1) else (if a0 = 8 then (1) else (if a0 = 16 then (1) else (if a0 = 32 then (1) else (0))))
theorem b01_X3_isWidth (a0 : Int32) : X3_isWidth a0 = 0 ∨ X3_isWidth a0 = 1 := by
  unfold X3_isWidth
  repeat (first | exact Or.inl rfl | exact Or.inr rfl | split)
def X3_sheet_L59 (b1 : Int32) (t0 : Int32) (t1 : Int32) (kt2 : Nat) (S : St) : Option (Int32 × St) := (X0_renew t1 t0 (blk S kt2)).bind fun T10 => (some (put S kt2 2 T10)).bind fun S11 => (rdn 4 sht b1).bind fun kv12 => some ((S11 kv12 2), S11)
def X3_sheet (a1 : Int32) (a2 : Int32) (a3 : Int32) (S : St) : Option (Int32 × St) := if (X3_isSheet a1) = 0 then ((X3_found 0 S).bind fun (r3, S4) => some (r3, S4)) else (if (X3_isWidth a2) = 0 then ((X3_found 0 S).bind fun (r20, S21) => some (r20, S21)) else (if 0 ≤ a3 then (if a3 ≤ 40 then ((rdn 4 sht a1).bind fun kv8 => if a2 = 0 then (X3_sheet_L59 a1 0 a2 kv8 S) else (X3_sheet_L59 a1 a3 a2 kv8 S)) else ((X3_found 0 S).bind fun (r14, S15) => some (r14, S15))) else ((X3_found 6 S).bind fun (r17, S18) => some (r17, S18))))
def X3_write (a1 : Int32) (a2 : Int32) (a3 : Int32) (S : St) : Option (Int32 × St) := if (X3_isSheet a1) = 0 then ((X3_found 0 S).bind fun (r16, S17) => some (r16, S17)) else ((rdn 4 sht a1).bind fun kv2 => if (S kv2 1) = 0 then ((X3_found 5 S).bind fun (r13, S14) => some (r13, S14)) else ((rdn 4 sht a1).bind fun kv4 => if (X3_within a2 0 ((S kv4 2) - 1)) = 0 then ((X3_found 0 S).bind fun (r10, S11) => some (r10, S11)) else ((rdn 4 sht a1).bind fun kv6 => (X0_put a2 a3 (blk S kv6)).bind fun T7 => (some (put S kv6 2 T7)).bind fun S8 => some (1, S8))))
def X3_copy (a1 : Int32) (a2 : Int32) (a3 : Int32) (a4 : Int32) (a5 : Int32) (S : St) : Option (Int32 × St) := if (X3_isSheet a1) = 0 then ((X3_found 0 S).bind fun (r3, S4) => some (r3, S4)) else (if (X3_isSheet a3) = 0 then ((X3_found 0 S).bind fun (r34, S35) => some (r34, S35)) else ((rdn 4 sht a1).bind fun kv6 => (rdn 4 sht a3).bind fun kv7 => if (S kv6 1) = 0 then ((X3_found 5 S).bind fun (r10, S11) => some (r10, S11)) else (if (S kv7 1) = 0 then ((X3_found 5 S).bind fun (r31, S32) => some (r31, S32)) else (if (S kv6 1) = (S kv7 1) then (if a5 < 0 then ((X3_found 0 S).bind fun (r16, S17) => some (r16, S17)) else (if (X0_hasFrom a2 a5 (blk S kv6)) = 0 then ((X3_found 0 S).bind fun (r20, S21) => some (r20, S21)) else (if (X0_hasFrom a4 a5 (blk S kv7)) = 0 then ((X3_found 0 S).bind fun (r25, S26) => some (r25, S26)) else ((acp S (kv6 + 1) (kv7 + 1) 40 40 a2 a4 a5).bind fun S23 => some (a5, S23))))) else ((X3_found 2 S).bind fun (r28, S29) => some (r28, S29))))))
def X3_load_L35 : Nat → Nat → Int32 → St → Option (Int32 × St)
  | 0, _, _, _ => none
  | n + 1, kb2, b3, S => if (S kb2 2) ≤ b3 then (some (b3, S)) else ((rd S (kb2 + 1) 40 b3).bind fun v5 => (X1_leastInHand (blk S 1)).bind fun r6 => if (X3_isColumn v5) = 0 then (some (b3, S)) else (if r6 < 0 then (some (b3, S)) else (if (X3_passesEnd 1 S) = 0 then ((X1_release r6 v5 (blk S 1)).bind fun T10 => (some (put S 1 7 T10)).bind fun S11 => X3_load_L35 n kb2 (b3 + 1) S11) else (some (b3, S)))))
def X3_load (a1 : Int32) (S : St) : Option (Int32 × St) := if (X3_isSheet a1) = 0 then ((X3_found 0 S).bind fun (r16, S17) => some (r16, S17)) else ((rdn 4 sht a1).bind fun kv2 => if (S kv2 1) = 0 then ((X3_found 5 S).bind fun (r13, S14) => some (r13, S14)) else (X3_load_L35 FU kv2 0 S))
def X3_judge_L63 : Nat → Nat → Int32 → St → Option (Int32 × St)
  | 0, _, _, _ => none
  | n + 1, kb2, b3, S => if (S kb2 2) ≤ b3 then (some (0, S)) else ((X1_goneOver (blk S 15)).bind fun r7 => (X1_advance 1 (blk S 15)).bind fun T8 => (some (put S 15 7 T8)).bind fun S9 => (X1_goneOver (blk S9 15)).bind fun r10 => (rd S9 (kb2 + 1) 40 b3).bind fun v11 => if (r10 - r7) = v11 then (X3_judge_L63 n kb2 (b3 + 1) S9) else (some ((1 + b3), S9)))
def X3_judge (a1 : Int32) (S : St) : Option (Int32 × St) := if (X3_isSheet a1) = 0 then ((X3_found 0 S).bind fun (r20, S21) => some (r20, S21)) else ((rdn 4 sht a1).bind fun kv2 => if (S kv2 1) = 0 then ((X3_found 5 S).bind fun (r17, S18) => some (r17, S18)) else (if (X3_passesEnd (S kv2 2) S) = 0 then ((some (put S 15 7 (blk S 1))).bind fun S5 => X3_judge_L63 FU kv2 0 S5) else ((X3_found 4 S).bind fun (r14, S15) => some (r14, S15))))
def X3_image (S : St) : Option (Int32 × St) := (some (put S 8 7 (blk S 1))).bind fun S1 => (some (ups S1 0 2 1)).bind fun S2 => some (1, S2)
def X3_undo (S : St) : Option (Int32 × St) := if (S 0 2) = 0 then ((X3_found 3 S).bind fun (r4, S5) => some (r4, S5)) else ((some (put S 1 7 (blk S 8))).bind fun S2 => some ((S2 1 7), S2))
def X3_tear (S : St) : Option (Int32 × St) := if (S 0 2) = 0 then ((some (ups S 0 2 0)).bind fun S2 => some (0, S2)) else ((some (ups S 0 2 0)).bind fun S3 => some (1, S3))
def X3_count (a1 : Int32) (S : St) : Option (Int32 × St) := if a1 = 0 then (some ((S 1 7), S)) else (if a1 = 1 then (some ((S 1 6), S)) else (if a1 = 2 then ((X1_bitsOnShelf (blk S 1)).bind fun r4 => some ((J6_bitCount_0f7a4 r4), S)) else (if a1 = 3 then ((X1_bitsOnShelf (blk S 1)).bind fun r6 => (X1_worthOf r6 (blk S 1)).bind fun r7 => some (r7, S)) else (if a1 = 4 then ((X1_manyStacks (blk S 1)).bind fun r9 => some (r9, S)) else (if a1 = 5 then (some ((S 23 1), S)) else (if a1 = 6 then (some ((S 1 9), S)) else (if a1 = 7 then ((X1_manySpotsHeld (blk S 1)).bind fun r13 => some (r13, S)) else ((X3_found 0 S).bind fun (r15, S16) => some (r15, S16)))))))))
def X3_status_L31 : Nat → Int32 → Int32 → St → Option (Int32 × St)
  | 0, _, _, _ => none
  | n + 1, b2, b3, S => if 7 ≤ b3 then (some (b2, S)) else ((rd S 26 7 b3).bind fun v4 => X3_status_L31 n (b2 + v4) (b3 + 1) S)
def X3_status (a1 : Int32) (S : St) : Option (Int32 × St) := if (X3_within a1 (-1) 6) = 0 then ((X3_found 0 S).bind fun (r7, S8) => some (r7, S8)) else (if a1 < 0 then (X3_status_L31 FU 0 0 S) else ((rd S 26 7 a1).bind fun v5 => some (v5, S)))
