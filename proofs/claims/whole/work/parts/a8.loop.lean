/-! THE LAW'S LOOP -/
theorem and63 (v : Int32) : ∃ n : Nat, n < 64 ∧ v &&& 63 = nI n := by
  refine ⟨(v &&& 63).toUInt32.toNat, ?_, (nI_un _).symm⟩
  rw [Int32.toUInt32_and, UInt32.toNat_and]
  have h : v.toUInt32.toNat &&& (63 : Int32).toUInt32.toNat ≤ 63 := Nat.and_le_right
  omega
theorem l_less {L i : Nat} (hL : L ≤ 3072) (hi : i ≤ 3078) (h : ¬ nI L - 6 < nI i) : i + 6 ≤ L := by
  by_cases h6 : 6 ≤ L
  · rw [show (6 : Int32) = nI 6 from rfl, sub_n h6] at h
    by_cases h7 : i + 6 ≤ L
    · exact h7
    · exact absurd (ltY (by omega) (by omega)) h
  · have key : ∀ L, L < 6 → nI L - 6 < nI 0 := by decide +kernel
    have h1 := key L (by omega)
    have h2 : nI 0 ≤ nI i := leY (Nat.zero_le _) (by omega)
    exact absurd (Int32.lt_of_lt_of_le h1 h2) h
set_option maxHeartbeats 4000000 in
set_option maxRecDepth 100000 in
theorem law_loop {p : Program} {l : Launch} {e : Env} {s : State} {m : MethodId} {b : Nat} {below : List Frame} {meth : Method} {c : Code} {g : GG} {L : Nat} {xs : Nat → Int32} (C : Cl p m c s b g) (hr : meth.sig.returnType = ret) (hlocks : meth.locks = false) (hX : va_X b L xs s s.heap) (hbl : b < s.heap.size) (hL : L ≤ 3072) : ∀ (k i : Nat) (x mm : St), L + 6 ≤ i + k → i ≤ 3078 → RLL x mm → Wl p l e s m b below meth c g x mm 18 (lvL g b i) [] := by
  intro k
  induction k with
  | zero =>
    intro i x mm hk hi hR
    refine l_iload_n C dL_18 rfl 0 rfl 19 rfl ?_
    refine l_aload_n C dL_19 rfl 3 rfl 20 rfl ?_
    refine l_slen C hX hbl dL_20 21 rfl ?_
    refine l_bipush (v := 6) C dL_21 (by decide) 23 rfl ?_
    refine l_isub C dL_23 24 rfl ?_
    refine l_icmp_gt C dL_24 1607 (by decide) 27 rfl (fun _ => ?_) (fun z => ?_)
    · refine l_iconst (v := 1) C dL_1607 (by decide) 1608 rfl ?_
      exact l_ret C hr hlocks dL_1608
    · have h := l_less hL hi z
      omega
  | succ k ih =>
    intro i x mm hk hi hR
    refine l_iload_n C dL_18 rfl 0 rfl 19 rfl ?_
    refine l_aload_n C dL_19 rfl 3 rfl 20 rfl ?_
    refine l_slen C hX hbl dL_20 21 rfl ?_
    refine l_bipush (v := 6) C dL_21 (by decide) 23 rfl ?_
    refine l_isub C dL_23 24 rfl ?_
    refine l_icmp_gt C dL_24 1607 (by decide) 27 rfl (fun _ => ?_) (fun z => ?_)
    · refine l_iconst (v := 1) C dL_1607 (by decide) 1608 rfl ?_
      exact l_ret C hr hlocks dL_1608
    · have h6 := l_less hL hi z
      have kk : ∀ x2 mm2 : St, RLL x2 mm2 → Wl p l e s m b below meth c g x2 mm2 1601 (lvL g b i) [] := by
        intro x2 mm2 hR2
        refine l_iinc (k := 0) (v := nI (i + 6)) (lv2 := lvL g b (i + 6)) C dL_1601 rfl (by rw [show Int32.ofInt 6 = nI 6 from by decide]; exact nI_add i 6) (by decide) rfl 1604 rfl ?_
        refine l_goto C dL_1604 18 (by decide) ?_
        exact ih (i + 6) x2 mm2 (by omega) (by omega) hR2
      refine l_aload_n C dL_27 rfl 3 rfl 28 rfl ?_
      refine l_iload_n C dL_28 rfl 0 rfl 29 rfl ?_
      refine l_sld C hX hbl hL (show i < L by omega) dL_29 30 rfl ?_
      refine l_bipush (v := 63) C dL_30 (by decide) 32 rfl ?_
      refine l_iand C dL_32 33 rfl ?_
      obtain ⟨n, hn, en⟩ := and63 (xs i)
      rw [en]
      by_cases h50 : n < 50
      · rcases (show n = 0 ∨ n = 1 ∨ n = 2 ∨ n = 3 ∨ n = 4 ∨ n = 5 ∨ n = 6 ∨ n = 7 ∨ n = 8 ∨ n = 9 ∨ n = 10 ∨ n = 11 ∨ n = 12 ∨ n = 13 ∨ n = 14 ∨ n = 15 ∨ n = 16 ∨ n = 17 ∨ n = 18 ∨ n = 19 ∨ n = 20 ∨ n = 21 ∨ n = 22 ∨ n = 23 ∨ n = 24 ∨ n = 25 ∨ n = 26 ∨ n = 27 ∨ n = 28 ∨ n = 29 ∨ n = 30 ∨ n = 31 ∨ n = 32 ∨ n = 33 ∨ n = 34 ∨ n = 35 ∨ n = 36 ∨ n = 37 ∨ n = 38 ∨ n = 39 ∨ n = 40 ∨ n = 41 ∨ n = 42 ∨ n = 43 ∨ n = 44 ∨ n = 45 ∨ n = 46 ∨ n = 47 ∨ n = 48 ∨ n = 49 by omega) with rfl | rfl | rfl | rfl | rfl | rfl | rfl | rfl | rfl | rfl | rfl | rfl | rfl | rfl | rfl | rfl | rfl | rfl | rfl | rfl | rfl | rfl | rfl | rfl | rfl | rfl | rfl | rfl | rfl | rfl | rfl | rfl | rfl | rfl | rfl | rfl | rfl | rfl | rfl | rfl | rfl | rfl | rfl | rfl | rfl | rfl | rfl | rfl | rfl | rfl
        · exact l_tableIn (off := 215) C dL_33 (by decide) (by decide) (by decide) 248 (by decide) (law_k0 C hX hbl hL h6 hR kk)
        · exact l_tableIn (off := 238) C dL_33 (by decide) (by decide) (by decide) 271 (by decide) (law_k1 C hX hbl hL h6 hR kk)
        · exact l_tableIn (off := 271) C dL_33 (by decide) (by decide) (by decide) 304 (by decide) (law_k2 C hX hbl hL h6 hR kk)
        · exact l_tableIn (off := 304) C dL_33 (by decide) (by decide) (by decide) 337 (by decide) (law_k3 C hX hbl hL h6 hR kk)
        · exact l_tableIn (off := 347) C dL_33 (by decide) (by decide) (by decide) 380 (by decide) (law_k4 C hX hbl hL h6 hR kk)
        · exact l_tableIn (off := 380) C dL_33 (by decide) (by decide) (by decide) 413 (by decide) (law_k5 C hX hbl hL h6 hR kk)
        · exact l_tableIn (off := 413) C dL_33 (by decide) (by decide) (by decide) 446 (by decide) (law_k6 C hX hbl hL h6 hR kk)
        · exact l_tableIn (off := 456) C dL_33 (by decide) (by decide) (by decide) 489 (by decide) (law_k7 C hX hbl hL h6 hR kk)
        · exact l_tableIn (off := 489) C dL_33 (by decide) (by decide) (by decide) 522 (by decide) (law_k8 C hX hbl hL h6 hR kk)
        · exact l_tableIn (off := 522) C dL_33 (by decide) (by decide) (by decide) 555 (by decide) (law_k9 C hX hbl hL h6 hR kk)
        · exact l_tableIn (off := 545) C dL_33 (by decide) (by decide) (by decide) 578 (by decide) (law_k10 C hX hbl hL h6 hR kk)
        · exact l_tableIn (off := 568) C dL_33 (by decide) (by decide) (by decide) 601 (by decide) (law_k11 C hX hbl hL h6 hR kk)
        · exact l_tableIn (off := 591) C dL_33 (by decide) (by decide) (by decide) 624 (by decide) (law_k12 C hX hbl hL h6 hR kk)
        · exact l_tableIn (off := 614) C dL_33 (by decide) (by decide) (by decide) 647 (by decide) (law_k13 C hX hbl hL h6 hR kk)
        · exact l_tableIn (off := 627) C dL_33 (by decide) (by decide) (by decide) 660 (by decide) (law_k14 C hX hbl hL h6 hR kk)
        · exact l_tableIn (off := 640) C dL_33 (by decide) (by decide) (by decide) 673 (by decide) (law_k15 C hX hbl hL h6 hR kk)
        · exact l_tableIn (off := 673) C dL_33 (by decide) (by decide) (by decide) 706 (by decide) (law_k16 C hX hbl hL h6 hR kk)
        · exact l_tableIn (off := 696) C dL_33 (by decide) (by decide) (by decide) 729 (by decide) (law_k17 C hX hbl hL h6 hR kk)
        · exact l_tableIn (off := 709) C dL_33 (by decide) (by decide) (by decide) 742 (by decide) (law_k18 C hX hbl hL h6 hR kk)
        · exact l_tableIn (off := 752) C dL_33 (by decide) (by decide) (by decide) 785 (by decide) (law_k19 C hX hbl hL h6 hR kk)
        · exact l_tableIn (off := 785) C dL_33 (by decide) (by decide) (by decide) 818 (by decide) (law_k20 C hX hbl hL h6 hR kk)
        · exact l_tableIn (off := 818) C dL_33 (by decide) (by decide) (by decide) 851 (by decide) (law_k21 C hX hbl hL h6 hR kk)
        · exact l_tableIn (off := 841) C dL_33 (by decide) (by decide) (by decide) 874 (by decide) (law_k22 C hX hbl hL h6 hR kk)
        · exact l_tableIn (off := 864) C dL_33 (by decide) (by decide) (by decide) 897 (by decide) (law_k23 C hX hbl hL h6 hR kk)
        · exact l_tableIn (off := 887) C dL_33 (by decide) (by decide) (by decide) 920 (by decide) (law_k24 C hX hbl hL h6 hR kk)
        · exact l_tableIn (off := 910) C dL_33 (by decide) (by decide) (by decide) 943 (by decide) (law_k25 C hX hbl hL h6 hR kk)
        · exact l_tableIn (off := 944) C dL_33 (by decide) (by decide) (by decide) 977 (by decide) (law_k26 C hX hbl hL h6 hR kk)
        · exact l_tableIn (off := 968) C dL_33 (by decide) (by decide) (by decide) 1001 (by decide) (law_k27 C hX hbl hL h6 hR kk)
        · exact l_tableIn (off := 1002) C dL_33 (by decide) (by decide) (by decide) 1035 (by decide) (law_k28 C hX hbl hL h6 hR kk)
        · exact l_tableIn (off := 1025) C dL_33 (by decide) (by decide) (by decide) 1058 (by decide) (law_k29 C hX hbl hL h6 hR kk)
        · exact l_tableIn (off := 1038) C dL_33 (by decide) (by decide) (by decide) 1071 (by decide) (law_k30 C hX hbl hL h6 hR kk)
        · exact l_tableIn (off := 1051) C dL_33 (by decide) (by decide) (by decide) 1084 (by decide) (law_k31 C hX hbl hL h6 hR kk)
        · exact l_tableIn (off := 1074) C dL_33 (by decide) (by decide) (by decide) 1107 (by decide) (law_k32 C hX hbl hL h6 hR kk)
        · exact l_tableIn (off := 1107) C dL_33 (by decide) (by decide) (by decide) 1140 (by decide) (law_k33 C hX hbl hL h6 hR kk)
        · exact l_tableIn (off := 1140) C dL_33 (by decide) (by decide) (by decide) 1173 (by decide) (law_k34 C hX hbl hL h6 hR kk)
        · exact l_tableIn (off := 1163) C dL_33 (by decide) (by decide) (by decide) 1196 (by decide) (law_k35 C hX hbl hL h6 hR kk)
        · exact l_tableIn (off := 1196) C dL_33 (by decide) (by decide) (by decide) 1229 (by decide) (law_k36 C hX hbl hL h6 hR kk)
        · exact l_tableIn (off := 1209) C dL_33 (by decide) (by decide) (by decide) 1242 (by decide) (law_k37 C hX hbl hL h6 hR kk)
        · exact l_tableIn (off := 1222) C dL_33 (by decide) (by decide) (by decide) 1255 (by decide) (law_k38 C hX hbl hL h6 hR kk)
        · exact l_tableIn (off := 1255) C dL_33 (by decide) (by decide) (by decide) 1288 (by decide) (law_k39 C hX hbl hL h6 hR kk)
        · exact l_tableIn (off := 1288) C dL_33 (by decide) (by decide) (by decide) 1321 (by decide) (law_k40 C hX hbl hL h6 hR kk)
        · exact l_tableIn (off := 1331) C dL_33 (by decide) (by decide) (by decide) 1364 (by decide) (law_k41 C hX hbl hL h6 hR kk)
        · exact l_tableIn (off := 1374) C dL_33 (by decide) (by decide) (by decide) 1407 (by decide) (law_k42 C hX hbl hL h6 hR kk)
        · exact l_tableIn (off := 1437) C dL_33 (by decide) (by decide) (by decide) 1470 (by decide) (law_k43 C hX hbl hL h6 hR kk)
        · exact l_tableIn (off := 1460) C dL_33 (by decide) (by decide) (by decide) 1493 (by decide) (law_k44 C hX hbl hL h6 hR kk)
        · exact l_tableIn (off := 1483) C dL_33 (by decide) (by decide) (by decide) 1516 (by decide) (law_k45 C hX hbl hL h6 hR kk)
        · exact l_tableIn (off := 1496) C dL_33 (by decide) (by decide) (by decide) 1529 (by decide) (law_k46 C hX hbl hL h6 hR kk)
        · exact l_tableIn (off := 1509) C dL_33 (by decide) (by decide) (by decide) 1542 (by decide) (law_k47 C hX hbl hL h6 hR kk)
        · exact l_tableIn (off := 1522) C dL_33 (by decide) (by decide) (by decide) 1555 (by decide) (law_k48 C hX hbl hL h6 hR kk)
        · exact l_tableIn (off := 1545) C dL_33 (by decide) (by decide) (by decide) 1578 (by decide) (law_k49 C hX hbl hL h6 hR kk)
      · refine l_tableOut C dL_33 (Or.inr ?_) 1601 (by decide) (kk x mm hR)
        have key : ∀ n, n < 64 → ¬ n < 50 → (49 : Int) < (nI n).toInt := by decide +kernel
        exact key n hn h50
