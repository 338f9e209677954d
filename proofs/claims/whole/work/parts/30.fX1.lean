def X1_mint (a1 : Int32) (S : St) : Option (Int32 × St) := (wr S 1 24 (S 0 6) a1).bind fun S1 => (wr S1 2 24 (S 0 6) 100).bind fun S2 => (some (ups S2 0 6 ((S2 0 6) + 1))).bind fun S3 => some ((S 0 6), S3)
def X1_hasRoom (a1 : Int32) (S : St) : Option Int32 := (rd S 3 42 a1).bind fun v1 => if 4 ≤ v1 then (some 0) else (some 1)
def X1_put (a1 : Int32) (a2 : Int32) (S : St) : Option St := (rd S 3 42 a2).bind fun v1 => if 4 ≤ v1 then (some S) else ((rd S 3 42 a2).bind fun v3 => (wr S 4 168 ((a2 * 4) + v3) a1).bind fun S4 => (rd S4 3 42 a2).bind fun v5 => (wr S4 3 42 a2 (v5 + 1)).bind fun S6 => (wr S6 2 24 a1 a2).bind fun S7 => some S7)
def X1_pull (a1 : Int32) (S : St) : Option (Int32 × St) := (rd S 3 42 a1).bind fun v1 => if v1 = 0 then (some ((-1), S)) else ((rd S 3 42 a1).bind fun v3 => (wr S 3 42 a1 (v3 - 1)).bind fun S4 => (rd S4 3 42 a1).bind fun v5 => (rd S4 4 168 ((a1 * 4) + v5)).bind fun v6 => (wr S4 2 24 v6 100).bind fun S7 => some (v6, S7))
def X1_isOnShelf (a1 : Int32) (S : St) : Option Int32 := (rd S 2 24 a1).bind fun v1 => if 42 ≤ v1 then (some 0) else (some 1)
def X1_toldPlace (a1 : Int32) (S : St) : Option Int32 := (rd S 2 24 a1).bind fun v1 => (X1_isOnShelf a1 S).bind fun r2 => if r2 = 0 then (some v1) else (some ((10 * (v1 / 6)) + (irm v1 6)))
def X1_depthOf_L21 : Nat → Int32 → Int32 → Int32 → St → Option Int32
  | 0, _, _, _, _ => none
  | n + 1, b1, b2, b3, S => if 3 ≤ b3 then (some b3) else ((rd S 4 168 (b2 + b3)).bind fun v5 => if v5 = b1 then (some b3) else (X1_depthOf_L21 n b1 b2 (b3 + 1) S))
def X1_depthOf (a1 : Int32) (S : St) : Option Int32 := (X1_isOnShelf a1 S).bind fun r1 => if r1 = 0 then (some 0) else ((rd S 2 24 a1).bind fun v3 => X1_depthOf_L21 FU a1 (v3 * 4) 0 S)
def X1_bitsAt_L4 : Nat → Int32 → Int32 → Int32 → St → Option Int32
  | 0, _, _, _, _ => none
  | n + 1, b1, b2, b3, S => if (S 0 6) ≤ b3 then (some b2) else ((rd S 2 24 b3).bind fun v2 => if v2 = b1 then (X1_bitsAt_L4 n b1 (b2 ||| (shl32 1 b3)) (b3 + 1) S) else (X1_bitsAt_L4 n b1 b2 (b3 + 1) S))
def X1_bitsAt (a1 : Int32) (S : St) : Option Int32 := X1_bitsAt_L4 FU a1 0 0 S
def X1_bitsOnShelf_L4 : Nat → Int32 → Int32 → St → Option Int32
  | 0, _, _, _ => none
  | n + 1, b1, b2, S => if (S 0 6) ≤ b2 then (some b1) else ((X1_isOnShelf b2 S).bind fun r2 => if r2 = 0 then (X1_bitsOnShelf_L4 n b1 (b2 + 1) S) else (X1_bitsOnShelf_L4 n (b1 ||| (shl32 1 b2)) (b2 + 1) S))
def X1_bitsOnShelf (S : St) : Option Int32 := X1_bitsOnShelf_L4 FU 0 0 S
def X1_worthOf_L4 : Nat → Int32 → Int32 → Int32 → St → Option Int32
  | 0, _, _, _, _ => none
  | n + 1, b1, b2, b3, S => if (S 0 6) ≤ b3 then (some b2) else (if ((ush32 b1 b3) &&& 1) = 1 then ((rd S 1 24 b3).bind fun v3 => (rdc 7 (stC 1) v3).bind fun v4 => X1_worthOf_L4 n b1 (b2 + v4) (b3 + 1) S) else (X1_worthOf_L4 n b1 b2 (b3 + 1) S))
def X1_worthOf (a1 : Int32) (S : St) : Option Int32 := X1_worthOf_L4 FU a1 0 0 S
def X1_worthAt (a1 : Int32) (S : St) : Option Int32 := (X1_bitsAt a1 S).bind fun r1 => (X1_worthOf r1 S).bind fun r2 => some r2
def J6_bitCount_0f7a4 (a0 : Int32) : Int32 := ((((((((a0 - ((ush32 a0 1) &&& 1431655765)) &&& 858993459) + ((ush32 (a0 - ((ush32 a0 1) &&& 1431655765)) 2) &&& 858993459)) + (ush32 (((a0 - ((ush32 a0 1) &&& 1431655765)) &&& 858993459) + ((ush32 (a0 - ((ush32 a0 1) &&& 1431655765)) 2) &&& 858993459)) 4)) &&& 252645135) + (ush32 (((((a0 - ((ush32 a0 1) &&& 1431655765)) &&& 858993459) + ((ush32 (a0 - ((ush32 a0 1) &&& 1431655765)) 2) &&& 858993459)) + (ush32 (((a0 - ((ush32 a0 1) &&& 1431655765)) &&& 858993459) + ((ush32 (a0 - ((ush32 a0 1) &&& 1431655765)) 2) &&& 858993459)) 4)) &&& 252645135) 8)) + (ush32 ((((((a0 - ((ush32 a0 1) &&& 1431655765)) &&& 858993459) + ((ush32 (a0 - ((ush32 a0 1) &&& 1431655765)) 2) &&& 858993459)) + (ush32 (((a0 - ((ush32 a0 1) &&& 1431655765)) &&& 858993459) + ((ush32 (a0 - ((ush32 a0 1) &&& 1431655765)) 2) &&& 858993459)) 4)) &&& 252645135) + (ush32 (((((a0 - ((ush32 a0 1) &&& 1431655765)) &&& 858993459) + ((ush32 (a0 - ((ush32 a0 1) &&& 1431655765)) 2) &&& 858993459)) + (ush32 (((a0 - ((ush32 a0 1) &&& 1431655765)) &&& 858993459) + ((ush32 (a0 - ((ush32 a0 1) &&& 1431655765)) 2) &&& 858993459)) 4)) &&& 252645135) 8)) 16)) &&& 63)
def X1_goneOver (S : St) : Option Int32 := (X1_bitsAt 101 S).bind fun r1 => (X1_bitsAt 102 S).bind fun r2 => some (J6_bitCount_0f7a4 (r1 ||| r2))
def X1_leastInHand_L2 : Nat → Int32 → St → Option Int32
  | 0, _, _ => none
  | n + 1, b1, S => if (S 0 6) ≤ b1 then (some (-1)) else ((rd S 2 24 b1).bind fun v2 => if v2 = 100 then (some b1) else (X1_leastInHand_L2 n (b1 + 1) S))
def X1_leastInHand (S : St) : Option Int32 := X1_leastInHand_L2 FU 0 S
def X1_gain (S : St) : Option Int32 := (X1_worthAt 101 S).bind fun r1 => some (r1 - (S 0 8))
def X1_manyStacks_L4 : Nat → Int32 → Int32 → St → Option Int32
  | 0, _, _, _ => none
  | n + 1, b1, b2, S => if 42 ≤ b2 then (some b1) else ((rd S 3 42 b2).bind fun v2 => if v2 ≤ 0 then (X1_manyStacks_L4 n b1 (b2 + 1) S) else (X1_manyStacks_L4 n (b1 + 1) (b2 + 1) S))
def X1_manyStacks (S : St) : Option Int32 := X1_manyStacks_L4 FU 0 0 S
def X1_highest_L4 : Nat → Int32 → Int32 → St → Option Int32
  | 0, _, _, _ => none
  | n + 1, b1, b2, S => if 42 ≤ b2 then (some b1) else ((rd S 3 42 b2).bind fun v2 => X1_highest_L4 n (mxI b1 v2) (b2 + 1) S)
def X1_highest (S : St) : Option Int32 := X1_highest_L4 FU 0 0 S
def X1_manySpotsHeld_L4 : Nat → Int32 → Int32 → St → Option Int32
  | 0, _, _, _ => none
  | n + 1, b1, b2, S => if 10 ≤ b2 then (some b1) else ((rd S 6 10 b2).bind fun v2 => if v2 < 0 then (X1_manySpotsHeld_L4 n b1 (b2 + 1) S) else (X1_manySpotsHeld_L4 n (b1 + 1) (b2 + 1) S))
def X1_manySpotsHeld (S : St) : Option Int32 := X1_manySpotsHeld_L4 FU 0 0 S
def X1_runRows_L2 : Nat → Int32 → Int32 → St → Option Int32
  | 0, _, _, _ => none
  | n + 1, b1, b2, S => if 6 ≤ b2 then (some b2) else ((rd S 3 42 ((b1 * 6) + b2)).bind fun v2 => if v2 ≤ 0 then (some b2) else (X1_runRows_L2 n b1 (b2 + 1) S))
def X1_runRows (a1 : Int32) (S : St) : Option Int32 := X1_runRows_L2 FU a1 0 S
def X1_runWeight_L34 (k4 : Int32 → Int32 → Int32 → St → Option Int32) : Nat → Int32 → Int32 → Int32 → Int32 → Int32 → St → Option Int32
  | 0, _, _, _, _, _, _ => none
  | n + 1, b1, b2, b3, b4, b5, S => (rd S 3 42 b4).bind fun v4 => if v4 ≤ b5 then (k4 b1 b2 (b3 + 1) S) else ((rd S 4 168 ((b4 * 4) + b5)).bind fun v6 => (rd S 1 24 v6).bind fun v7 => (rdc 7 (stC 2) v7).bind fun v8 => X1_runWeight_L34 k4 n b1 (b2 + v8) b3 b4 (b5 + 1) S)
def X1_runWeight_L4 : Nat → Int32 → Int32 → Int32 → St → Option Int32
  | 0, _, _, _, _ => none
  | n + 1, b1, b2, b3, S => if 6 ≤ b3 then (some b2) else ((rd S 3 42 ((b1 * 6) + b3)).bind fun v2 => if v2 = 0 then (some b2) else (X1_runWeight_L34 (X1_runWeight_L4 n) FU b1 b2 b3 ((b1 * 6) + b3) 0 S))
def X1_runWeight (a1 : Int32) (S : St) : Option Int32 := X1_runWeight_L4 FU a1 0 0 S
def X1_pushMoves (a1 : Int32) (S : St) : Option Int32 := (X1_runWeight a1 S).bind fun r1 => if r1 ≤ 0 then (some 0) else ((rd S 5 3 0).bind fun v3 => if v3 < r1 then (some 0) else (some 1))
def X1_topSlides (a1 : Int32) (S : St) : Option Int32 := (rd S 3 42 a1).bind fun v1 => if v1 ≤ 0 then (some 0) else ((rd S 4 168 (((a1 * 4) + v1) - 1)).bind fun v3 => (rd S 1 24 v3).bind fun v4 => (rdc 7 (stC 3) v4).bind fun v5 => if v5 = 1 then (some 1) else (some 0))
def X1_leans_L27 (b1 : Int32) (b2 : Int32) (t0 : Int32) (S : St) : Option Int32 := if b2 < (t0 + 3) then (some 0) else ((X1_topSlides b1 S).bind fun r5 => if r5 = 0 then (some 0) else (some 1))
def X1_leans (a1 : Int32) (S : St) : Option Int32 := (rd S 3 42 a1).bind fun v1 => if (irm a1 6) = 5 then (X1_leans_L27 a1 v1 0 S) else ((rd S 3 42 (a1 + 1)).bind fun v3 => X1_leans_L27 a1 v1 v3 S)
def X1_goOver_L28 (b1 : Int32) (t0 : Int32) (S : St) : Option St := if t0 = 0 then ((wr S 2 24 b1 101).bind fun S4 => some S4) else ((wr S 2 24 b1 102).bind fun S5 => some S5)
def X1_goOver_L23 (b1 : Int32) (S : St) : Option St := X1_goOver_L28 b1 1 S
def X1_goOver (a1 : Int32) (a2 : Int32) (S : St) : Option St := (rd S 5 3 2).bind fun v1 => if a2 < v1 then (X1_goOver_L23 a1 S) else ((rd S 5 3 2).bind fun v6 => if a2 < (7 - v6) then (X1_goOver_L28 a1 0 S) else (X1_goOver_L23 a1 S))
def X1_slideTop (a1 : Int32) (S : St) : Option St := (X1_pull a1 S).bind fun (r2, S3) => if 0 ≤ r2 then (if (irm a1 6) = 5 then ((X1_goOver r2 (a1 / 6) S3).bind fun S7 => some S7) else ((X1_put r2 (a1 + 1) S3).bind fun S6 => some S6)) else (some S3)
def X1_pushRun_L22 (k8 : Int32 → Int32 → St → Option St) : Nat → Int32 → Int32 → Int32 → Int32 → St → Option St
  | 0, _, _, _, _, _ => none
  | n + 1, b1, b2, b3, b4, S => (rd S 3 42 b3).bind fun v3 => if v3 ≤ b4 then ((wr S 3 42 b3 0).bind fun S5 => k8 b1 (b2 + (-1)) S5) else ((rd S 4 168 ((b3 * 4) + b4)).bind fun v6 => if b2 = 5 then ((X1_goOver v6 b1 S).bind fun S9 => X1_pushRun_L22 k8 n b1 b2 b3 (b4 + 1) S9) else ((X1_put v6 (b3 + 1) S).bind fun S8 => X1_pushRun_L22 k8 n b1 b2 b3 (b4 + 1) S8))
def X1_pushRun_L8 : Nat → Int32 → Int32 → St → Option St
  | 0, _, _, _ => none
  | n + 1, b1, b2, S => if b2 < 0 then (some S) else (X1_pushRun_L22 (X1_pushRun_L8 n) FU b1 b2 ((b1 * 6) + b2) 0 S)
def X1_pushRun (a1 : Int32) (S : St) : Option St := (X1_runRows a1 S).bind fun r1 => X1_pushRun_L8 FU a1 (r1 - 1) S
def X1_pushAll_L4 : Nat → Int32 → Int32 → St → Option (Int32 × St)
  | 0, _, _, _ => none
  | n + 1, b1, b2, S => if 7 ≤ b2 then ((bl b1).bind fun v2 => some (b1, S)) else ((X1_pushMoves b2 S).bind fun r3 => if r3 = 0 then (X1_pushAll_L4 n b1 (b2 + 1) S) else ((X1_pushRun b2 S).bind fun S5 => X1_pushAll_L4 n 1 (b2 + 1) S5))
def X1_pushAll (S : St) : Option (Int32 × St) := X1_pushAll_L4 FU 0 0 S
def X1_slideAll_L10 (k4 : Int32 → Int32 → St → Option (Int32 × St)) : Nat → Int32 → Int32 → Int32 → St → Option (Int32 × St)
  | 0, _, _, _, _ => none
  | n + 1, b1, b2, b3, S => if 42 ≤ b3 then (k4 b1 (b2 + (-1)) S) else ((X1_leans b3 S).bind fun r4 => if r4 = 0 then (X1_slideAll_L10 k4 n b1 b2 (b3 + 6) S) else ((X1_slideTop b3 S).bind fun S6 => X1_slideAll_L10 k4 n 1 b2 (b3 + 6) S6))
def X1_slideAll_L4 : Nat → Int32 → Int32 → St → Option (Int32 × St)
  | 0, _, _, _ => none
  | n + 1, b1, b2, S => if b2 < 0 then ((bl b1).bind fun v2 => some (b1, S)) else (X1_slideAll_L10 (X1_slideAll_L4 n) FU b1 b2 b2 S)
def X1_slideAll (S : St) : Option (Int32 × St) := X1_slideAll_L4 FU 0 5 S
def X1_passBeat_L32 (t0 : Int32) (S : St) : Option (Int32 × St) := (X1_slideAll S).bind fun (r4, S5) => (some (ups S5 0 7 ((S5 0 7) + 1))).bind fun S6 => if t0 = 0 then (if r4 = 0 then (some (0, S6)) else (some (1, S6))) else (some (1, S6))
def X1_passBeat_L31 (S : St) : Option (Int32 × St) := X1_passBeat_L32 0 S
def X1_passBeat (S : St) : Option (Int32 × St) := (rd S 5 3 1).bind fun v1 => if v1 ≤ 0 then (X1_passBeat_L31 S) else ((rmn (S 0 7) v1).bind fun v9 => if v9 = 0 then ((X1_pushAll S).bind fun (r12, S13) => if r12 = 0 then (X1_passBeat_L31 S13) else (X1_passBeat_L32 1 S13)) else (X1_passBeat_L31 S))
def X1_advance_L4 : Nat → Int32 → Int32 → Int32 → St → Option St
  | 0, _, _, _, _ => none
  | n + 1, b1, b2, b3, S => if b1 ≤ b3 then (some S) else ((rd S 5 3 1).bind fun v2 => if b2 < v2 then ((X1_passBeat S).bind fun (r5, S6) => if r5 = 0 then (X1_advance_L4 n b1 (b2 + 1) (b3 + 1) S6) else (X1_advance_L4 n b1 0 (b3 + 1) S6)) else ((some (ups S 0 7 ((S 0 7) + (b1 - b3)))).bind fun S8 => some S8))
def X1_advance (a1 : Int32) (S : St) : Option St := X1_advance_L4 FU a1 0 0 S
def X1_release_L62 (S : St) : Option St := (some (ups S 0 8 ((S 0 8) + 1))).bind fun S5 => (X1_passBeat S5).bind fun (r7, S8) => some S8
def X1_release_L39 (b1 : Int32) (b3 : Int32) (S : St) : Option St := if 42 ≤ b3 then ((wr S 2 24 b1 102).bind fun S4 => X1_release_L62 S4) else ((X1_put b1 b3 S).bind fun S9 => X1_release_L62 S9)
def X1_release_L17 : Nat → Int32 → Int32 → St → Option St
  | 0, _, _, _ => none
  | n + 1, b1, b3, S => if 42 ≤ b3 then (X1_release_L39 b1 b3 S) else ((rd S 3 42 b3).bind fun v10 => if v10 < 4 then (X1_release_L39 b1 b3 S) else (X1_release_L17 n b1 (b3 + 6) S))
def X1_release (a1 : Int32) (a2 : Int32) (S : St) : Option St := if 0 ≤ a1 then (X1_release_L17 FU a1 ((a2 * 6) + (irm (S 0 7) 2)) S) else (some S)
def X1_shake_L36 (k4 : Int32 → Int32 → St → Option (Int32 × St)) (k10 : Int32 → Int32 → Int32 → St → Option (Int32 × St)) (b1 : Int32) (b2 : Int32) (b3 : Int32) (t0 : Int32) (S : St) : Option (Int32 × St) := if t0 = 0 then (k10 b1 b2 (b3 + 6) S) else ((rd S 3 42 b3).bind fun v5 => if v5 < 2 then (k10 b1 b2 (b3 + 6) S) else ((X1_topSlides b3 S).bind fun r7 => if r7 = 0 then (k10 b1 b2 (b3 + 6) S) else ((X1_slideTop b3 S).bind fun S9 => k10 (b1 + 1) b2 (b3 + 6) S9)))
def X1_shake_L31 (k4 : Int32 → Int32 → St → Option (Int32 × St)) (k10 : Int32 → Int32 → Int32 → St → Option (Int32 × St)) (b1 : Int32) (b2 : Int32) (b3 : Int32) (S : St) : Option (Int32 × St) := X1_shake_L36 k4 k10 b1 b2 b3 1 S
def X1_shake_L10 (k4 : Int32 → Int32 → St → Option (Int32 × St)) : Nat → Int32 → Int32 → Int32 → St → Option (Int32 × St)
  | 0, _, _, _, _ => none
  | n + 1, b1, b2, b3, S => if 42 ≤ b3 then (k4 b1 (b2 + (-1)) S) else (if b2 = 5 then (X1_shake_L31 k4 (X1_shake_L10 k4 n) b1 b2 b3 S) else ((X1_hasRoom (b3 + 1) S).bind fun r10 => if r10 = 0 then (X1_shake_L36 k4 (X1_shake_L10 k4 n) b1 b2 b3 0 S) else (X1_shake_L31 k4 (X1_shake_L10 k4 n) b1 b2 b3 S)))
def X1_shake_L4 : Nat → Int32 → Int32 → St → Option (Int32 × St)
  | 0, _, _, _ => none
  | n + 1, b1, b2, S => if b2 < 0 then (some (b1, S)) else (X1_shake_L10 (X1_shake_L4 n) FU b1 b2 b2 S)
def X1_shake (S : St) : Option (Int32 × St) := X1_shake_L4 FU 0 5 S
def X1_draw (S : St) : Option (Int32 × St) := (some (ups S 0 9 (((S 0 9) * 1103515245) + 12345))).bind fun S1 => some ((ush32 (S1 0 9) 8), S1)
