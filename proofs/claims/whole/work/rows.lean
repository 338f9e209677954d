section
-- ===== PART A: goes FIRST, ahead of the names: the tables' words, and 'selects' of the private methods out of them =====
/-- a private method of a class that the tables say can be made, by its rows of tables_1 -/
def lw_okq (q : MethodName × Nat) : Prop := (q.1.cls ≠ "java/lang/invoke/MethodHandle" ∧ q.1.cls ≠ "java/lang/invoke/VarHandle") ∧ Cond.instantiable q.1.cls q.2 ∈ tables_1 ∧ Cond.privateMethod q.1 ∈ tables_1 ∧ Cond.instanceMethod q.1 ∈ tables_1
theorem lw_p0 : lw_okq (⟨"PennyLedge", "found", "(I)I"⟩, 8) := ⟨⟨by decide +kernel, by decide +kernel⟩, List.mem_of_getElem? (i := 14) (by decide +kernel), List.mem_of_getElem? (i := 155) (by decide +kernel), List.mem_of_getElem? (i := 156) (by decide +kernel)⟩
theorem lw_p1 : lw_okq (⟨"PennyLedge", "isCoin", "(I)Z"⟩, 8) := ⟨⟨by decide +kernel, by decide +kernel⟩, List.mem_of_getElem? (i := 14) (by decide +kernel), List.mem_of_getElem? (i := 168) (by decide +kernel), List.mem_of_getElem? (i := 169) (by decide +kernel)⟩
theorem lw_p2 : lw_okq (⟨"PennyLedge", "passesEnd", "(I)Z"⟩, 8) := ⟨⟨by decide +kernel, by decide +kernel⟩, List.mem_of_getElem? (i := 14) (by decide +kernel), List.mem_of_getElem? (i := 246) (by decide +kernel), List.mem_of_getElem? (i := 247) (by decide +kernel)⟩
theorem lw_p3 : lw_okq (⟨"PennyLedge", "isSearched", "(I)Z"⟩, 8) := ⟨⟨by decide +kernel, by decide +kernel⟩, List.mem_of_getElem? (i := 14) (by decide +kernel), List.mem_of_getElem? (i := 399) (by decide +kernel), List.mem_of_getElem? (i := 400) (by decide +kernel)⟩
theorem lw_p4 : lw_okq (⟨"PennyLedge", "gainBy", "(LPennyLedge$Shelf;III)I"⟩, 8) := ⟨⟨by decide +kernel, by decide +kernel⟩, List.mem_of_getElem? (i := 14) (by decide +kernel), List.mem_of_getElem? (i := 403) (by decide +kernel), List.mem_of_getElem? (i := 404) (by decide +kernel)⟩
theorem lw_p5 : lw_okq (⟨"PennyLedge", "canDrop", "(I)Z"⟩, 8) := ⟨⟨by decide +kernel, by decide +kernel⟩, List.mem_of_getElem? (i := 14) (by decide +kernel), List.mem_of_getElem? (i := 419) (by decide +kernel), List.mem_of_getElem? (i := 420) (by decide +kernel)⟩
theorem lw_p6 : lw_okq (⟨"PennyLedge", "gainOfThree", "(II)I"⟩, 8) := ⟨⟨by decide +kernel, by decide +kernel⟩, List.mem_of_getElem? (i := 14) (by decide +kernel), List.mem_of_getElem? (i := 424) (by decide +kernel), List.mem_of_getElem? (i := 425) (by decide +kernel)⟩
theorem lw_p7 : lw_okq (⟨"PennyLedge", "walk", "(II)LPennyLedge$Shelf;"⟩, 8) := ⟨⟨by decide +kernel, by decide +kernel⟩, List.mem_of_getElem? (i := 14) (by decide +kernel), List.mem_of_getElem? (i := 428) (by decide +kernel), List.mem_of_getElem? (i := 429) (by decide +kernel)⟩
theorem lw_p8 : lw_okq (⟨"PennyLedge", "soonestWay", "(I)I"⟩, 8) := ⟨⟨by decide +kernel, by decide +kernel⟩, List.mem_of_getElem? (i := 14) (by decide +kernel), List.mem_of_getElem? (i := 450) (by decide +kernel), List.mem_of_getElem? (i := 451) (by decide +kernel)⟩
theorem lw_p9 : lw_okq (⟨"PennyLedge", "readText", "(LPennyLedge$Shelf;)I"⟩, 8) := ⟨⟨by decide +kernel, by decide +kernel⟩, List.mem_of_getElem? (i := 14) (by decide +kernel), List.mem_of_getElem? (i := 524) (by decide +kernel), List.mem_of_getElem? (i := 525) (by decide +kernel)⟩
theorem lw_p10 : lw_okq (⟨"PennyLedge", "readItem", "(LPennyLedge$Shelf;)Z"⟩, 8) := ⟨⟨by decide +kernel, by decide +kernel⟩, List.mem_of_getElem? (i := 14) (by decide +kernel), List.mem_of_getElem? (i := 553) (by decide +kernel), List.mem_of_getElem? (i := 554) (by decide +kernel)⟩
theorem lw_p11 : lw_okq (⟨"PennyLedge", "readCoin", "(LPennyLedge$Shelf;I)Z"⟩, 8) := ⟨⟨by decide +kernel, by decide +kernel⟩, List.mem_of_getElem? (i := 14) (by decide +kernel), List.mem_of_getElem? (i := 619) (by decide +kernel), List.mem_of_getElem? (i := 620) (by decide +kernel)⟩
theorem lw_p12 : lw_okq (⟨"PennyLedge", "readSetting", "(LPennyLedge$Shelf;I)Z"⟩, 8) := ⟨⟨by decide +kernel, by decide +kernel⟩, List.mem_of_getElem? (i := 14) (by decide +kernel), List.mem_of_getElem? (i := 630) (by decide +kernel), List.mem_of_getElem? (i := 631) (by decide +kernel)⟩
theorem lw_p13 : lw_okq (⟨"PennyLedgeModel", "finding", "(I)I"⟩, 27) := ⟨⟨by decide +kernel, by decide +kernel⟩, List.mem_of_getElem? (i := 716) (by decide +kernel), List.mem_of_getElem? (i := 827) (by decide +kernel), List.mem_of_getElem? (i := 828) (by decide +kernel)⟩
theorem lw_p14 : lw_okq (⟨"PennyLedgeModel", "struck", "(I)I"⟩, 27) := ⟨⟨by decide +kernel, by decide +kernel⟩, List.mem_of_getElem? (i := 716) (by decide +kernel), List.mem_of_getElem? (i := 832) (by decide +kernel), List.mem_of_getElem? (i := 833) (by decide +kernel)⟩
theorem lw_p15 : lw_okq (⟨"PennyLedgeModel", "isCoin", "(I)Z"⟩, 27) := ⟨⟨by decide +kernel, by decide +kernel⟩, List.mem_of_getElem? (i := 716) (by decide +kernel), List.mem_of_getElem? (i := 840) (by decide +kernel), List.mem_of_getElem? (i := 841) (by decide +kernel)⟩
def lw_privs_1 : List (MethodName × Nat) := [(⟨"PennyLedge", "found", "(I)I"⟩, 8), (⟨"PennyLedge", "isCoin", "(I)Z"⟩, 8), (⟨"PennyLedge", "passesEnd", "(I)Z"⟩, 8), (⟨"PennyLedge", "isSearched", "(I)Z"⟩, 8), (⟨"PennyLedge", "gainBy", "(LPennyLedge$Shelf;III)I"⟩, 8), (⟨"PennyLedge", "canDrop", "(I)Z"⟩, 8), (⟨"PennyLedge", "gainOfThree", "(II)I"⟩, 8), (⟨"PennyLedge", "walk", "(II)LPennyLedge$Shelf;"⟩, 8), (⟨"PennyLedge", "soonestWay", "(I)I"⟩, 8), (⟨"PennyLedge", "readText", "(LPennyLedge$Shelf;)I"⟩, 8), (⟨"PennyLedge", "readItem", "(LPennyLedge$Shelf;)Z"⟩, 8), (⟨"PennyLedge", "readCoin", "(LPennyLedge$Shelf;I)Z"⟩, 8), (⟨"PennyLedge", "readSetting", "(LPennyLedge$Shelf;I)Z"⟩, 8), (⟨"PennyLedgeModel", "finding", "(I)I"⟩, 27), (⟨"PennyLedgeModel", "struck", "(I)I"⟩, 27), (⟨"PennyLedgeModel", "isCoin", "(I)Z"⟩, 27)]
theorem lw_r1 : ∀ q ∈ lw_privs_1, lw_okq q := List.forall_mem_cons.mpr ⟨lw_p0, List.forall_mem_cons.mpr ⟨lw_p1, List.forall_mem_cons.mpr ⟨lw_p2, List.forall_mem_cons.mpr ⟨lw_p3, List.forall_mem_cons.mpr ⟨lw_p4, List.forall_mem_cons.mpr ⟨lw_p5, List.forall_mem_cons.mpr ⟨lw_p6, List.forall_mem_cons.mpr ⟨lw_p7, List.forall_mem_cons.mpr ⟨lw_p8, List.forall_mem_cons.mpr ⟨lw_p9, List.forall_mem_cons.mpr ⟨lw_p10, List.forall_mem_cons.mpr ⟨lw_p11, List.forall_mem_cons.mpr ⟨lw_p12, List.forall_mem_cons.mpr ⟨lw_p13, List.forall_mem_cons.mpr ⟨lw_p14, List.forall_mem_cons.mpr ⟨lw_p15, fun _ h => absurd h List.not_mem_nil⟩⟩⟩⟩⟩⟩⟩⟩⟩⟩⟩⟩⟩⟩⟩⟩
theorem lw_p16 : lw_okq (⟨"PennyLedgeModel", "kindOf", "(I)I"⟩, 27) := ⟨⟨by decide +kernel, by decide +kernel⟩, List.mem_of_getElem? (i := 716) (by decide +kernel), List.mem_of_getElem? (i := 844) (by decide +kernel), List.mem_of_getElem? (i := 845) (by decide +kernel)⟩
theorem lw_p17 : lw_okq (⟨"PennyLedgeModel", "highOf", "(I)I"⟩, 27) := ⟨⟨by decide +kernel, by decide +kernel⟩, List.mem_of_getElem? (i := 716) (by decide +kernel), List.mem_of_getElem? (i := 851) (by decide +kernel), List.mem_of_getElem? (i := 852) (by decide +kernel)⟩
theorem lw_p18 : lw_okq (⟨"PennyLedgeModel", "coinAt", "(II)I"⟩, 27) := ⟨⟨by decide +kernel, by decide +kernel⟩, List.mem_of_getElem? (i := 716) (by decide +kernel), List.mem_of_getElem? (i := 855) (by decide +kernel), List.mem_of_getElem? (i := 856) (by decide +kernel)⟩
theorem lw_p19 : lw_okq (⟨"PennyLedgeModel", "worth", "(I)I"⟩, 27) := ⟨⟨by decide +kernel, by decide +kernel⟩, List.mem_of_getElem? (i := 716) (by decide +kernel), List.mem_of_getElem? (i := 859) (by decide +kernel), List.mem_of_getElem? (i := 860) (by decide +kernel)⟩
theorem lw_p20 : lw_okq (⟨"PennyLedgeModel", "weighs", "(I)I"⟩, 27) := ⟨⟨by decide +kernel, by decide +kernel⟩, List.mem_of_getElem? (i := 716) (by decide +kernel), List.mem_of_getElem? (i := 863) (by decide +kernel), List.mem_of_getElem? (i := 864) (by decide +kernel)⟩
theorem lw_p21 : lw_okq (⟨"PennyLedgeModel", "slides", "(I)Z"⟩, 27) := ⟨⟨by decide +kernel, by decide +kernel⟩, List.mem_of_getElem? (i := 716) (by decide +kernel), List.mem_of_getElem? (i := 873) (by decide +kernel), List.mem_of_getElem? (i := 874) (by decide +kernel)⟩
theorem lw_p22 : lw_okq (⟨"PennyLedgeModel", "become", "(II)I"⟩, 27) := ⟨⟨by decide +kernel, by decide +kernel⟩, List.mem_of_getElem? (i := 716) (by decide +kernel), List.mem_of_getElem? (i := 881) (by decide +kernel), List.mem_of_getElem? (i := 882) (by decide +kernel)⟩
theorem lw_p23 : lw_okq (⟨"PennyLedgeModel", "comesOn", "(II)V"⟩, 27) := ⟨⟨by decide +kernel, by decide +kernel⟩, List.mem_of_getElem? (i := 716) (by decide +kernel), List.mem_of_getElem? (i := 896) (by decide +kernel), List.mem_of_getElem? (i := 897) (by decide +kernel)⟩
theorem lw_p24 : lw_okq (⟨"PennyLedgeModel", "taken", "(I)I"⟩, 27) := ⟨⟨by decide +kernel, by decide +kernel⟩, List.mem_of_getElem? (i := 716) (by decide +kernel), List.mem_of_getElem? (i := 905) (by decide +kernel), List.mem_of_getElem? (i := 906) (by decide +kernel)⟩
theorem lw_p25 : lw_okq (⟨"PennyLedgeModel", "topOf", "(I)I"⟩, 27) := ⟨⟨by decide +kernel, by decide +kernel⟩, List.mem_of_getElem? (i := 716) (by decide +kernel), List.mem_of_getElem? (i := 909) (by decide +kernel), List.mem_of_getElem? (i := 910) (by decide +kernel)⟩
theorem lw_p26 : lw_okq (⟨"PennyLedgeModel", "isInHand", "(I)Z"⟩, 27) := ⟨⟨by decide +kernel, by decide +kernel⟩, List.mem_of_getElem? (i := 716) (by decide +kernel), List.mem_of_getElem? (i := 929) (by decide +kernel), List.mem_of_getElem? (i := 930) (by decide +kernel)⟩
theorem lw_p27 : lw_okq (⟨"PennyLedgeModel", "gain", "()I"⟩, 27) := ⟨⟨by decide +kernel, by decide +kernel⟩, List.mem_of_getElem? (i := 716) (by decide +kernel), List.mem_of_getElem? (i := 933) (by decide +kernel), List.mem_of_getElem? (i := 934) (by decide +kernel)⟩
theorem lw_p28 : lw_okq (⟨"PennyLedgeModel", "setOf", "(I)I"⟩, 27) := ⟨⟨by decide +kernel, by decide +kernel⟩, List.mem_of_getElem? (i := 716) (by decide +kernel), List.mem_of_getElem? (i := 937) (by decide +kernel), List.mem_of_getElem? (i := 938) (by decide +kernel)⟩
theorem lw_p29 : lw_okq (⟨"PennyLedgeModel", "worthOf", "(I)I"⟩, 27) := ⟨⟨by decide +kernel, by decide +kernel⟩, List.mem_of_getElem? (i := 716) (by decide +kernel), List.mem_of_getElem? (i := 941) (by decide +kernel), List.mem_of_getElem? (i := 942) (by decide +kernel)⟩
theorem lw_p30 : lw_okq (⟨"PennyLedgeModel", "dropped", "(II)V"⟩, 27) := ⟨⟨by decide +kernel, by decide +kernel⟩, List.mem_of_getElem? (i := 716) (by decide +kernel), List.mem_of_getElem? (i := 945) (by decide +kernel), List.mem_of_getElem? (i := 946) (by decide +kernel)⟩
theorem lw_p31 : lw_okq (⟨"PennyLedgeModel", "beat", "()V"⟩, 27) := ⟨⟨by decide +kernel, by decide +kernel⟩, List.mem_of_getElem? (i := 716) (by decide +kernel), List.mem_of_getElem? (i := 949) (by decide +kernel), List.mem_of_getElem? (i := 950) (by decide +kernel)⟩
def lw_privs_2 : List (MethodName × Nat) := [(⟨"PennyLedgeModel", "kindOf", "(I)I"⟩, 27), (⟨"PennyLedgeModel", "highOf", "(I)I"⟩, 27), (⟨"PennyLedgeModel", "coinAt", "(II)I"⟩, 27), (⟨"PennyLedgeModel", "worth", "(I)I"⟩, 27), (⟨"PennyLedgeModel", "weighs", "(I)I"⟩, 27), (⟨"PennyLedgeModel", "slides", "(I)Z"⟩, 27), (⟨"PennyLedgeModel", "become", "(II)I"⟩, 27), (⟨"PennyLedgeModel", "comesOn", "(II)V"⟩, 27), (⟨"PennyLedgeModel", "taken", "(I)I"⟩, 27), (⟨"PennyLedgeModel", "topOf", "(I)I"⟩, 27), (⟨"PennyLedgeModel", "isInHand", "(I)Z"⟩, 27), (⟨"PennyLedgeModel", "gain", "()I"⟩, 27), (⟨"PennyLedgeModel", "setOf", "(I)I"⟩, 27), (⟨"PennyLedgeModel", "worthOf", "(I)I"⟩, 27), (⟨"PennyLedgeModel", "dropped", "(II)V"⟩, 27), (⟨"PennyLedgeModel", "beat", "()V"⟩, 27)]
theorem lw_r2 : ∀ q ∈ lw_privs_2, lw_okq q := List.forall_mem_cons.mpr ⟨lw_p16, List.forall_mem_cons.mpr ⟨lw_p17, List.forall_mem_cons.mpr ⟨lw_p18, List.forall_mem_cons.mpr ⟨lw_p19, List.forall_mem_cons.mpr ⟨lw_p20, List.forall_mem_cons.mpr ⟨lw_p21, List.forall_mem_cons.mpr ⟨lw_p22, List.forall_mem_cons.mpr ⟨lw_p23, List.forall_mem_cons.mpr ⟨lw_p24, List.forall_mem_cons.mpr ⟨lw_p25, List.forall_mem_cons.mpr ⟨lw_p26, List.forall_mem_cons.mpr ⟨lw_p27, List.forall_mem_cons.mpr ⟨lw_p28, List.forall_mem_cons.mpr ⟨lw_p29, List.forall_mem_cons.mpr ⟨lw_p30, List.forall_mem_cons.mpr ⟨lw_p31, fun _ h => absurd h List.not_mem_nil⟩⟩⟩⟩⟩⟩⟩⟩⟩⟩⟩⟩⟩⟩⟩⟩
theorem lw_p32 : lw_okq (⟨"PennyLedgeModel", "isMoved", "(I)Z"⟩, 27) := ⟨⟨by decide +kernel, by decide +kernel⟩, List.mem_of_getElem? (i := 716) (by decide +kernel), List.mem_of_getElem? (i := 953) (by decide +kernel), List.mem_of_getElem? (i := 954) (by decide +kernel)⟩
theorem lw_p33 : lw_okq (⟨"PennyLedgeModel", "runOf", "(I)I"⟩, 27) := ⟨⟨by decide +kernel, by decide +kernel⟩, List.mem_of_getElem? (i := 716) (by decide +kernel), List.mem_of_getElem? (i := 957) (by decide +kernel), List.mem_of_getElem? (i := 958) (by decide +kernel)⟩
theorem lw_p34 : lw_okq (⟨"PennyLedgeModel", "weightOf", "(I)I"⟩, 27) := ⟨⟨by decide +kernel, by decide +kernel⟩, List.mem_of_getElem? (i := 716) (by decide +kernel), List.mem_of_getElem? (i := 961) (by decide +kernel), List.mem_of_getElem? (i := 962) (by decide +kernel)⟩
theorem lw_p35 : lw_okq (⟨"PennyLedgeModel", "goesOn", "(II)V"⟩, 27) := ⟨⟨by decide +kernel, by decide +kernel⟩, List.mem_of_getElem? (i := 716) (by decide +kernel), List.mem_of_getElem? (i := 965) (by decide +kernel), List.mem_of_getElem? (i := 966) (by decide +kernel)⟩
theorem lw_p36 : lw_okq (⟨"PennyLedgeModel", "goesOver", "(II)V"⟩, 27) := ⟨⟨by decide +kernel, by decide +kernel⟩, List.mem_of_getElem? (i := 716) (by decide +kernel), List.mem_of_getElem? (i := 969) (by decide +kernel), List.mem_of_getElem? (i := 970) (by decide +kernel)⟩
theorem lw_p37 : lw_okq (⟨"PennyLedgeModel", "isLeaning", "(II)Z"⟩, 27) := ⟨⟨by decide +kernel, by decide +kernel⟩, List.mem_of_getElem? (i := 716) (by decide +kernel), List.mem_of_getElem? (i := 973) (by decide +kernel), List.mem_of_getElem? (i := 974) (by decide +kernel)⟩
theorem lw_p38 : lw_okq (⟨"PennyLedgeModel", "slidesOff", "(II)V"⟩, 27) := ⟨⟨by decide +kernel, by decide +kernel⟩, List.mem_of_getElem? (i := 716) (by decide +kernel), List.mem_of_getElem? (i := 977) (by decide +kernel), List.mem_of_getElem? (i := 978) (by decide +kernel)⟩
theorem lw_p39 : lw_okq (⟨"PennyLedgeModel", "isTooLate", "(I)Z"⟩, 27) := ⟨⟨by decide +kernel, by decide +kernel⟩, List.mem_of_getElem? (i := 716) (by decide +kernel), List.mem_of_getElem? (i := 985) (by decide +kernel), List.mem_of_getElem? (i := 986) (by decide +kernel)⟩
theorem lw_p40 : lw_okq (⟨"PennyLedgeModel", "beatsGo", "(I)I"⟩, 27) := ⟨⟨by decide +kernel, by decide +kernel⟩, List.mem_of_getElem? (i := 716) (by decide +kernel), List.mem_of_getElem? (i := 989) (by decide +kernel), List.mem_of_getElem? (i := 990) (by decide +kernel)⟩
theorem lw_p41 : lw_okq (⟨"PennyLedgeModel", "shelf", "()I"⟩, 27) := ⟨⟨by decide +kernel, by decide +kernel⟩, List.mem_of_getElem? (i := 716) (by decide +kernel), List.mem_of_getElem? (i := 1020) (by decide +kernel), List.mem_of_getElem? (i := 1021) (by decide +kernel)⟩
theorem lw_p42 : lw_okq (⟨"PennyLedgeModel", "highest", "()I"⟩, 27) := ⟨⟨by decide +kernel, by decide +kernel⟩, List.mem_of_getElem? (i := 716) (by decide +kernel), List.mem_of_getElem? (i := 1024) (by decide +kernel), List.mem_of_getElem? (i := 1025) (by decide +kernel)⟩
theorem lw_p43 : lw_okq (⟨"PennyLedgeModel", "putBack", "(I)I"⟩, 27) := ⟨⟨by decide +kernel, by decide +kernel⟩, List.mem_of_getElem? (i := 716) (by decide +kernel), List.mem_of_getElem? (i := 1029) (by decide +kernel), List.mem_of_getElem? (i := 1030) (by decide +kernel)⟩
theorem lw_p44 : lw_okq (⟨"PennyLedgeModel", "isOnShelf", "(I)Z"⟩, 27) := ⟨⟨by decide +kernel, by decide +kernel⟩, List.mem_of_getElem? (i := 716) (by decide +kernel), List.mem_of_getElem? (i := 1037) (by decide +kernel), List.mem_of_getElem? (i := 1038) (by decide +kernel)⟩
theorem lw_p45 : lw_okq (⟨"PennyLedgeModel", "refuses", "(II)I"⟩, 27) := ⟨⟨by decide +kernel, by decide +kernel⟩, List.mem_of_getElem? (i := 716) (by decide +kernel), List.mem_of_getElem? (i := 1049) (by decide +kernel), List.mem_of_getElem? (i := 1050) (by decide +kernel)⟩
theorem lw_p46 : lw_okq (⟨"PennyLedgeModel", "gainBy", "(IIII)I"⟩, 27) := ⟨⟨by decide +kernel, by decide +kernel⟩, List.mem_of_getElem? (i := 716) (by decide +kernel), List.mem_of_getElem? (i := 1053) (by decide +kernel), List.mem_of_getElem? (i := 1054) (by decide +kernel)⟩
theorem lw_p47 : lw_okq (⟨"PennyLedgeModel", "bestWay", "(III)I"⟩, 27) := ⟨⟨by decide +kernel, by decide +kernel⟩, List.mem_of_getElem? (i := 716) (by decide +kernel), List.mem_of_getElem? (i := 1061) (by decide +kernel), List.mem_of_getElem? (i := 1062) (by decide +kernel)⟩
def lw_privs_3 : List (MethodName × Nat) := [(⟨"PennyLedgeModel", "isMoved", "(I)Z"⟩, 27), (⟨"PennyLedgeModel", "runOf", "(I)I"⟩, 27), (⟨"PennyLedgeModel", "weightOf", "(I)I"⟩, 27), (⟨"PennyLedgeModel", "goesOn", "(II)V"⟩, 27), (⟨"PennyLedgeModel", "goesOver", "(II)V"⟩, 27), (⟨"PennyLedgeModel", "isLeaning", "(II)Z"⟩, 27), (⟨"PennyLedgeModel", "slidesOff", "(II)V"⟩, 27), (⟨"PennyLedgeModel", "isTooLate", "(I)Z"⟩, 27), (⟨"PennyLedgeModel", "beatsGo", "(I)I"⟩, 27), (⟨"PennyLedgeModel", "shelf", "()I"⟩, 27), (⟨"PennyLedgeModel", "highest", "()I"⟩, 27), (⟨"PennyLedgeModel", "putBack", "(I)I"⟩, 27), (⟨"PennyLedgeModel", "isOnShelf", "(I)Z"⟩, 27), (⟨"PennyLedgeModel", "refuses", "(II)I"⟩, 27), (⟨"PennyLedgeModel", "gainBy", "(IIII)I"⟩, 27), (⟨"PennyLedgeModel", "bestWay", "(III)I"⟩, 27)]
theorem lw_r3 : ∀ q ∈ lw_privs_3, lw_okq q := List.forall_mem_cons.mpr ⟨lw_p32, List.forall_mem_cons.mpr ⟨lw_p33, List.forall_mem_cons.mpr ⟨lw_p34, List.forall_mem_cons.mpr ⟨lw_p35, List.forall_mem_cons.mpr ⟨lw_p36, List.forall_mem_cons.mpr ⟨lw_p37, List.forall_mem_cons.mpr ⟨lw_p38, List.forall_mem_cons.mpr ⟨lw_p39, List.forall_mem_cons.mpr ⟨lw_p40, List.forall_mem_cons.mpr ⟨lw_p41, List.forall_mem_cons.mpr ⟨lw_p42, List.forall_mem_cons.mpr ⟨lw_p43, List.forall_mem_cons.mpr ⟨lw_p44, List.forall_mem_cons.mpr ⟨lw_p45, List.forall_mem_cons.mpr ⟨lw_p46, List.forall_mem_cons.mpr ⟨lw_p47, fun _ h => absurd h List.not_mem_nil⟩⟩⟩⟩⟩⟩⟩⟩⟩⟩⟩⟩⟩⟩⟩⟩
theorem lw_p48 : lw_okq (⟨"PennyLedgeModel", "refusesThree", "(I)I"⟩, 27) := ⟨⟨by decide +kernel, by decide +kernel⟩, List.mem_of_getElem? (i := 716) (by decide +kernel), List.mem_of_getElem? (i := 1073) (by decide +kernel), List.mem_of_getElem? (i := 1074) (by decide +kernel)⟩
theorem lw_p49 : lw_okq (⟨"PennyLedgeModel", "dropsBy", "(II)V"⟩, 27) := ⟨⟨by decide +kernel, by decide +kernel⟩, List.mem_of_getElem? (i := 716) (by decide +kernel), List.mem_of_getElem? (i := 1083) (by decide +kernel), List.mem_of_getElem? (i := 1084) (by decide +kernel)⟩
theorem lw_p50 : lw_okq (⟨"PennyLedgeModel", "leastInHand", "()I"⟩, 27) := ⟨⟨by decide +kernel, by decide +kernel⟩, List.mem_of_getElem? (i := 716) (by decide +kernel), List.mem_of_getElem? (i := 1087) (by decide +kernel), List.mem_of_getElem? (i := 1088) (by decide +kernel)⟩
theorem lw_p51 : lw_okq (⟨"PennyLedgeModel", "refusesSoon", "(I)I"⟩, 27) := ⟨⟨by decide +kernel, by decide +kernel⟩, List.mem_of_getElem? (i := 716) (by decide +kernel), List.mem_of_getElem? (i := 1102) (by decide +kernel), List.mem_of_getElem? (i := 1103) (by decide +kernel)⟩
theorem lw_p52 : lw_okq (⟨"PennyLedgeModel", "findSoonest", "(I)I"⟩, 27) := ⟨⟨by decide +kernel, by decide +kernel⟩, List.mem_of_getElem? (i := 716) (by decide +kernel), List.mem_of_getElem? (i := 1106) (by decide +kernel), List.mem_of_getElem? (i := 1107) (by decide +kernel)⟩
theorem lw_p53 : lw_okq (⟨"PennyLedgeModel", "refusesWays", "(I)I"⟩, 27) := ⟨⟨by decide +kernel, by decide +kernel⟩, List.mem_of_getElem? (i := 716) (by decide +kernel), List.mem_of_getElem? (i := 1119) (by decide +kernel), List.mem_of_getElem? (i := 1120) (by decide +kernel)⟩
theorem lw_p54 : lw_okq (⟨"PennyLedgeModel", "drawn", "(I)I"⟩, 27) := ⟨⟨by decide +kernel, by decide +kernel⟩, List.mem_of_getElem? (i := 716) (by decide +kernel), List.mem_of_getElem? (i := 1135) (by decide +kernel), List.mem_of_getElem? (i := 1136) (by decide +kernel)⟩
theorem lw_p55 : lw_okq (⟨"PennyLedgeModel", "wonIn", "(II)I"⟩, 27) := ⟨⟨by decide +kernel, by decide +kernel⟩, List.mem_of_getElem? (i := 716) (by decide +kernel), List.mem_of_getElem? (i := 1153) (by decide +kernel), List.mem_of_getElem? (i := 1154) (by decide +kernel)⟩
theorem lw_p56 : lw_okq (⟨"PennyLedgeModel", "refusesShelf", "(II)I"⟩, 27) := ⟨⟨by decide +kernel, by decide +kernel⟩, List.mem_of_getElem? (i := 716) (by decide +kernel), List.mem_of_getElem? (i := 1161) (by decide +kernel), List.mem_of_getElem? (i := 1162) (by decide +kernel)⟩
theorem lw_p57 : lw_okq (⟨"PennyLedgeModel", "next", "()V"⟩, 27) := ⟨⟨by decide +kernel, by decide +kernel⟩, List.mem_of_getElem? (i := 716) (by decide +kernel), List.mem_of_getElem? (i := 1185) (by decide +kernel), List.mem_of_getElem? (i := 1186) (by decide +kernel)⟩
theorem lw_p58 : lw_okq (⟨"PennyLedgeModel", "byteAt", "(I)I"⟩, 27) := ⟨⟨by decide +kernel, by decide +kernel⟩, List.mem_of_getElem? (i := 716) (by decide +kernel), List.mem_of_getElem? (i := 1189) (by decide +kernel), List.mem_of_getElem? (i := 1190) (by decide +kernel)⟩
theorem lw_p59 : lw_okq (⟨"PennyLedgeModel", "readItem", "()V"⟩, 27) := ⟨⟨by decide +kernel, by decide +kernel⟩, List.mem_of_getElem? (i := 716) (by decide +kernel), List.mem_of_getElem? (i := 1193) (by decide +kernel), List.mem_of_getElem? (i := 1194) (by decide +kernel)⟩
theorem lw_p60 : lw_okq (⟨"PennyLedgeModel", "which", "([Ljava/lang/String;)I"⟩, 27) := ⟨⟨by decide +kernel, by decide +kernel⟩, List.mem_of_getElem? (i := 716) (by decide +kernel), List.mem_of_getElem? (i := 1197) (by decide +kernel), List.mem_of_getElem? (i := 1198) (by decide +kernel)⟩
theorem lw_p61 : lw_okq (⟨"PennyLedgeModel", "isWord", "(Ljava/lang/String;)Z"⟩, 27) := ⟨⟨by decide +kernel, by decide +kernel⟩, List.mem_of_getElem? (i := 716) (by decide +kernel), List.mem_of_getElem? (i := 1201) (by decide +kernel), List.mem_of_getElem? (i := 1202) (by decide +kernel)⟩
theorem lw_p62 : lw_okq (⟨"PennyLedgeModel", "must", "(Z)V"⟩, 27) := ⟨⟨by decide +kernel, by decide +kernel⟩, List.mem_of_getElem? (i := 716) (by decide +kernel), List.mem_of_getElem? (i := 1207) (by decide +kernel), List.mem_of_getElem? (i := 1208) (by decide +kernel)⟩
theorem lw_p63 : lw_okq (⟨"PennyLedgeModel", "readCell", "()I"⟩, 27) := ⟨⟨by decide +kernel, by decide +kernel⟩, List.mem_of_getElem? (i := 716) (by decide +kernel), List.mem_of_getElem? (i := 1212) (by decide +kernel), List.mem_of_getElem? (i := 1213) (by decide +kernel)⟩
def lw_privs_4 : List (MethodName × Nat) := [(⟨"PennyLedgeModel", "refusesThree", "(I)I"⟩, 27), (⟨"PennyLedgeModel", "dropsBy", "(II)V"⟩, 27), (⟨"PennyLedgeModel", "leastInHand", "()I"⟩, 27), (⟨"PennyLedgeModel", "refusesSoon", "(I)I"⟩, 27), (⟨"PennyLedgeModel", "findSoonest", "(I)I"⟩, 27), (⟨"PennyLedgeModel", "refusesWays", "(I)I"⟩, 27), (⟨"PennyLedgeModel", "drawn", "(I)I"⟩, 27), (⟨"PennyLedgeModel", "wonIn", "(II)I"⟩, 27), (⟨"PennyLedgeModel", "refusesShelf", "(II)I"⟩, 27), (⟨"PennyLedgeModel", "next", "()V"⟩, 27), (⟨"PennyLedgeModel", "byteAt", "(I)I"⟩, 27), (⟨"PennyLedgeModel", "readItem", "()V"⟩, 27), (⟨"PennyLedgeModel", "which", "([Ljava/lang/String;)I"⟩, 27), (⟨"PennyLedgeModel", "isWord", "(Ljava/lang/String;)Z"⟩, 27), (⟨"PennyLedgeModel", "must", "(Z)V"⟩, 27), (⟨"PennyLedgeModel", "readCell", "()I"⟩, 27)]
theorem lw_r4 : ∀ q ∈ lw_privs_4, lw_okq q := List.forall_mem_cons.mpr ⟨lw_p48, List.forall_mem_cons.mpr ⟨lw_p49, List.forall_mem_cons.mpr ⟨lw_p50, List.forall_mem_cons.mpr ⟨lw_p51, List.forall_mem_cons.mpr ⟨lw_p52, List.forall_mem_cons.mpr ⟨lw_p53, List.forall_mem_cons.mpr ⟨lw_p54, List.forall_mem_cons.mpr ⟨lw_p55, List.forall_mem_cons.mpr ⟨lw_p56, List.forall_mem_cons.mpr ⟨lw_p57, List.forall_mem_cons.mpr ⟨lw_p58, List.forall_mem_cons.mpr ⟨lw_p59, List.forall_mem_cons.mpr ⟨lw_p60, List.forall_mem_cons.mpr ⟨lw_p61, List.forall_mem_cons.mpr ⟨lw_p62, List.forall_mem_cons.mpr ⟨lw_p63, fun _ h => absurd h List.not_mem_nil⟩⟩⟩⟩⟩⟩⟩⟩⟩⟩⟩⟩⟩⟩⟩⟩
theorem lw_p64 : lw_okq (⟨"PennyLedgeModel", "number", "(II)I"⟩, 27) := ⟨⟨by decide +kernel, by decide +kernel⟩, List.mem_of_getElem? (i := 716) (by decide +kernel), List.mem_of_getElem? (i := 1216) (by decide +kernel), List.mem_of_getElem? (i := 1217) (by decide +kernel)⟩
theorem lw_p65 : lw_okq (⟨"PennyLedgeModel", "item", "(II)V"⟩, 27) := ⟨⟨by decide +kernel, by decide +kernel⟩, List.mem_of_getElem? (i := 716) (by decide +kernel), List.mem_of_getElem? (i := 1220) (by decide +kernel), List.mem_of_getElem? (i := 1221) (by decide +kernel)⟩
theorem lw_p66 : lw_okq (⟨"PennyLedgeModel", "isSo", "(II)V"⟩, 27) := ⟨⟨by decide +kernel, by decide +kernel⟩, List.mem_of_getElem? (i := 716) (by decide +kernel), List.mem_of_getElem? (i := 1224) (by decide +kernel), List.mem_of_getElem? (i := 1225) (by decide +kernel)⟩
def lw_privs_5 : List (MethodName × Nat) := [(⟨"PennyLedgeModel", "number", "(II)I"⟩, 27), (⟨"PennyLedgeModel", "item", "(II)V"⟩, 27), (⟨"PennyLedgeModel", "isSo", "(II)V"⟩, 27)]
theorem lw_r5 : ∀ q ∈ lw_privs_5, lw_okq q := List.forall_mem_cons.mpr ⟨lw_p64, List.forall_mem_cons.mpr ⟨lw_p65, List.forall_mem_cons.mpr ⟨lw_p66, fun _ h => absurd h List.not_mem_nil⟩⟩⟩
def lw_privs : List (MethodName × Nat) := lw_privs_1 ++ (lw_privs_2 ++ (lw_privs_3 ++ (lw_privs_4 ++ (lw_privs_5))))
def lw_tbl : List Cond := k2_sels lw_privs ++ tables_1
theorem lw_privs_ok : ∀ q ∈ lw_privs, lw_okq q := by
  show ∀ q ∈ lw_privs_1 ++ (lw_privs_2 ++ (lw_privs_3 ++ (lw_privs_4 ++ (lw_privs_5)))), lw_okq q
  exact List.forall_mem_append.mpr ⟨lw_r1, List.forall_mem_append.mpr ⟨lw_r2, List.forall_mem_append.mpr ⟨lw_r3, List.forall_mem_append.mpr ⟨lw_r4, lw_r5⟩⟩⟩⟩
-- ===== end of PART A; then your names; then what follows =====
end
section
/-! ===== BEGIN words of one list among another's, by their places ===== -/
theorem goodIn_r {big : List Cond} (ws : List Cond) (ps : List Nat) (hp : ws = ps.filterMap (fun i => big[i]?)) (h : ws.all goodWord = true) : GoodIn big ws := by
  intro w hw
  have h1 := List.all_eq_true.mp h w hw
  rw [hp] at hw
  obtain ⟨i, -, hi⟩ := List.mem_filterMap.mp hw
  have hm : w ∈ big := by first | exact List.mem_of_getElem? hi | exact List.getElem?_mem hi
  exact ⟨hm, good_of_word h1⟩
theorem goodIn_app {big a b : List Cond} (ha : GoodIn big a) (hb : GoodIn big b) : GoodIn big (a ++ b) := fun w h => (List.mem_append.mp h).elim (ha w) (hb w)
theorem goodIn_ca {big a b : List Cond} {c : Cond} (ha : GoodIn big (c :: a)) (hb : GoodIn big b) : GoodIn big (c :: (a ++ b)) := fun w h => (List.mem_cons.mp h).elim (fun e => ha w (List.mem_cons.mpr (Or.inl e))) (fun h => (List.mem_append.mp h).elim (fun h => ha w (List.mem_cons.mpr (Or.inr h))) (hb w))
theorem goodIn_sub {big ws : List Cond} (hm : ∀ w ∈ ws, w ∈ big) (h : ws.all goodWord = true) : GoodIn big ws := fun w hw => ⟨hm w hw, good_of_word (List.all_eq_true.mp h w hw)⟩
/-! ===== END ===== -/

/-! ===== BEGIN printed: names, fields, word lists, decode rows ===== -/
def RX0 : String := "PennyLedge$Sheet"
def TX0 : u_T := fun k => match k with
  | 0 => ("PennyLedge$Sheet", "numbers", "[I", true)
  | 1 => ("PennyLedge$Sheet", "bits", "I", false)
  | _ => ("PennyLedge$Sheet", "size", "I", false)
def tyX0 : Nat → FieldType := fun k => match k with
  | 0 => .array .int
  | 1 => .int
  | _ => .int
abbrev wsX00 : List Cond := u_ws RX0 TX0 3
theorem nmX0 : ∀ a, a < 3 → ∀ b, b < 3 → a ≠ b → (TX0 a).2.1 ≠ (TX0 b).2.1 := by decide +kernel
theorem tyX0_ok : ∀ k, k < 3 → parseFieldDescriptor (TX0 k).2.2.1 = some (tyX0 k) := by decide +kernel
abbrev cX0_init : ByteArray := prog_2_method_1_code
def yX0_init : MethodName := ⟨RX0, "<init>", "()V"⟩
abbrev cX0_renew : ByteArray := prog_2_method_2_code
def yX0_renew : MethodName := ⟨RX0, "renew", "(II)V"⟩
abbrev cX0_put : ByteArray := prog_2_method_3_code
def yX0_put : MethodName := ⟨RX0, "put", "(II)V"⟩
abbrev cX0_hasFrom : ByteArray := prog_2_method_4_code
def yX0_hasFrom : MethodName := ⟨RX0, "hasFrom", "(II)Z"⟩
def RX1 : String := "PennyLedge$Shelf"
def TX1 : u_T := fun k => match k with
  | 0 => ("PennyLedge$Shelf", "kinds", "[I", true)
  | 1 => ("PennyLedge$Shelf", "places", "[I", true)
  | 2 => ("PennyLedge$Shelf", "heights", "[I", true)
  | 3 => ("PennyLedge$Shelf", "stacks", "[I", true)
  | 4 => ("PennyLedge$Shelf", "settings", "[I", true)
  | 5 => ("PennyLedge$Shelf", "spots", "[I", true)
  | 6 => ("PennyLedge$Shelf", "coins", "I", false)
  | 7 => ("PennyLedge$Shelf", "beat", "I", false)
  | 8 => ("PennyLedge$Shelf", "dropped", "I", false)
  | _ => ("PennyLedge$Shelf", "z", "I", false)
def tyX1 : Nat → FieldType := fun k => match k with
  | 0 => .array .int
  | 1 => .array .int
  | 2 => .array .int
  | 3 => .array .int
  | 4 => .array .int
  | 5 => .array .int
  | 6 => .int
  | 7 => .int
  | 8 => .int
  | _ => .int
abbrev wsX10 : List Cond := u_ws RX1 TX1 10
theorem nmX1 : ∀ a, a < 10 → ∀ b, b < 10 → a ≠ b → (TX1 a).2.1 ≠ (TX1 b).2.1 := by decide +kernel
theorem tyX1_ok : ∀ k, k < 10 → parseFieldDescriptor (TX1 k).2.2.1 = some (tyX1 k) := by decide +kernel
abbrev cX1_init : ByteArray := prog_3_method_1_code
def yX1_init : MethodName := ⟨RX1, "<init>", "()V"⟩
abbrev cX1_become : ByteArray := prog_3_method_2_code
def yX1_become : MethodName := ⟨RX1, "become", "(LPennyLedge$Shelf;)V"⟩
abbrev cX1_mint : ByteArray := prog_3_method_3_code
def yX1_mint : MethodName := ⟨RX1, "mint", "(I)I"⟩
abbrev cX1_hasRoom : ByteArray := prog_3_method_4_code
def yX1_hasRoom : MethodName := ⟨RX1, "hasRoom", "(I)Z"⟩
abbrev cX1_put : ByteArray := prog_3_method_5_code
def yX1_put : MethodName := ⟨RX1, "put", "(II)V"⟩
abbrev cX1_pull : ByteArray := prog_3_method_6_code
def yX1_pull : MethodName := ⟨RX1, "pull", "(I)I"⟩
abbrev cX1_isOnShelf : ByteArray := prog_3_method_7_code
def yX1_isOnShelf : MethodName := ⟨RX1, "isOnShelf", "(I)Z"⟩
abbrev cX1_toldPlace : ByteArray := prog_3_method_8_code
def yX1_toldPlace : MethodName := ⟨RX1, "toldPlace", "(I)I"⟩
abbrev cX1_depthOf : ByteArray := prog_3_method_9_code
def yX1_depthOf : MethodName := ⟨RX1, "depthOf", "(I)I"⟩
abbrev cX1_bitsAt : ByteArray := prog_3_method_10_code
def yX1_bitsAt : MethodName := ⟨RX1, "bitsAt", "(I)I"⟩
abbrev cX1_bitsOnShelf : ByteArray := prog_3_method_11_code
def yX1_bitsOnShelf : MethodName := ⟨RX1, "bitsOnShelf", "()I"⟩
abbrev cX1_worthAt : ByteArray := prog_3_method_12_code
def yX1_worthAt : MethodName := ⟨RX1, "worthAt", "(I)I"⟩
abbrev cX1_worthOf : ByteArray := prog_3_method_13_code
def yX1_worthOf : MethodName := ⟨RX1, "worthOf", "(I)I"⟩
abbrev cX1_goneOver : ByteArray := prog_3_method_14_code
def yX1_goneOver : MethodName := ⟨RX1, "goneOver", "()I"⟩
abbrev cX1_leastInHand : ByteArray := prog_3_method_15_code
def yX1_leastInHand : MethodName := ⟨RX1, "leastInHand", "()I"⟩
abbrev cX1_gain : ByteArray := prog_3_method_16_code
def yX1_gain : MethodName := ⟨RX1, "gain", "()I"⟩
abbrev cX1_manyStacks : ByteArray := prog_3_method_17_code
def yX1_manyStacks : MethodName := ⟨RX1, "manyStacks", "()I"⟩
abbrev cX1_highest : ByteArray := prog_3_method_18_code
def yX1_highest : MethodName := ⟨RX1, "highest", "()I"⟩
abbrev cX1_manySpotsHeld : ByteArray := prog_3_method_19_code
def yX1_manySpotsHeld : MethodName := ⟨RX1, "manySpotsHeld", "()I"⟩
abbrev cX1_runRows : ByteArray := prog_3_method_20_code
def yX1_runRows : MethodName := ⟨RX1, "runRows", "(I)I"⟩
abbrev cX1_runWeight : ByteArray := prog_3_method_21_code
def yX1_runWeight : MethodName := ⟨RX1, "runWeight", "(I)I"⟩
abbrev cX1_pushMoves : ByteArray := prog_3_method_22_code
def yX1_pushMoves : MethodName := ⟨RX1, "pushMoves", "(I)Z"⟩
abbrev cX1_leans : ByteArray := prog_3_method_23_code
def yX1_leans : MethodName := ⟨RX1, "leans", "(I)Z"⟩
abbrev cX1_topSlides : ByteArray := prog_3_method_24_code
def yX1_topSlides : MethodName := ⟨RX1, "topSlides", "(I)Z"⟩
abbrev cX1_goOver : ByteArray := prog_3_method_25_code
def yX1_goOver : MethodName := ⟨RX1, "goOver", "(II)V"⟩
abbrev cX1_slideTop : ByteArray := prog_3_method_26_code
def yX1_slideTop : MethodName := ⟨RX1, "slideTop", "(I)V"⟩
abbrev cX1_pushRun : ByteArray := prog_3_method_27_code
def yX1_pushRun : MethodName := ⟨RX1, "pushRun", "(I)V"⟩
abbrev cX1_pushAll : ByteArray := prog_3_method_28_code
def yX1_pushAll : MethodName := ⟨RX1, "pushAll", "()Z"⟩
abbrev cX1_slideAll : ByteArray := prog_3_method_29_code
def yX1_slideAll : MethodName := ⟨RX1, "slideAll", "()Z"⟩
abbrev cX1_passBeat : ByteArray := prog_3_method_30_code
def yX1_passBeat : MethodName := ⟨RX1, "passBeat", "()Z"⟩
abbrev cX1_advance : ByteArray := prog_3_method_31_code
def yX1_advance : MethodName := ⟨RX1, "advance", "(I)V"⟩
abbrev cX1_release : ByteArray := prog_3_method_32_code
def yX1_release : MethodName := ⟨RX1, "release", "(II)V"⟩
abbrev cX1_shake : ByteArray := prog_3_method_33_code
def yX1_shake : MethodName := ⟨RX1, "shake", "()I"⟩
abbrev cX1_draw : ByteArray := prog_3_method_34_code
def yX1_draw : MethodName := ⟨RX1, "draw", "()I"⟩
def RX2 : String := "PennyLedge$Tape"
def TX2 : u_T := fun k => match k with
  | 0 => ("PennyLedge$Tape", "bytes", "[I", true)
  | 1 => ("PennyLedge$Tape", "length", "I", false)
  | 2 => ("PennyLedge$Tape", "token", "I", false)
  | 3 => ("PennyLedge$Tape", "start", "I", false)
  | 4 => ("PennyLedge$Tape", "behind", "I", false)
  | _ => ("PennyLedge$Tape", "value", "I", false)
def tyX2 : Nat → FieldType := fun k => match k with
  | 0 => .array .int
  | 1 => .int
  | 2 => .int
  | 3 => .int
  | 4 => .int
  | _ => .int
abbrev wsX20 : List Cond := u_ws RX2 TX2 6
theorem nmX2 : ∀ a, a < 6 → ∀ b, b < 6 → a ≠ b → (TX2 a).2.1 ≠ (TX2 b).2.1 := by decide +kernel
theorem tyX2_ok : ∀ k, k < 6 → parseFieldDescriptor (TX2 k).2.2.1 = some (tyX2 k) := by decide +kernel
abbrev cX2_init : ByteArray := prog_4_method_1_code
def yX2_init : MethodName := ⟨RX2, "<init>", "()V"⟩
abbrev cX2_append : ByteArray := prog_4_method_2_code
def yX2_append : MethodName := ⟨RX2, "append", "(I)V"⟩
abbrev cX2_rewind : ByteArray := prog_4_method_3_code
def yX2_rewind : MethodName := ⟨RX2, "rewind", "()V"⟩
abbrev cX2_isLetter : ByteArray := prog_4_method_4_code
def yX2_isLetter : MethodName := ⟨RX2, "isLetter", "(I)Z"⟩
abbrev cX2_isDigit : ByteArray := prog_4_method_5_code
def yX2_isDigit : MethodName := ⟨RX2, "isDigit", "(I)Z"⟩
abbrev cX2_next : ByteArray := prog_4_method_6_code
def yX2_next : MethodName := ⟨RX2, "next", "()V"⟩
abbrev cX2_readWord : ByteArray := prog_4_method_7_code
def yX2_readWord : MethodName := ⟨RX2, "readWord", "()V"⟩
abbrev cX2_readNumber : ByteArray := prog_4_method_8_code
def yX2_readNumber : MethodName := ⟨RX2, "readNumber", "()V"⟩
abbrev cX2_isWord : ByteArray := prog_4_method_9_code
def yX2_isWord : MethodName := ⟨RX2, "isWord", "(Ljava/lang/String;)Z"⟩
def RX3 : String := "PennyLedge"
def TX3 : u_T := fun k => match k with
  | 0 => ("PennyLedge", "shelf", "LPennyLedge$Shelf;", true)
  | 1 => ("PennyLedge", "kept", "LPennyLedge$Shelf;", true)
  | 2 => ("PennyLedge", "isKept", "Z", false)
  | 3 => ("PennyLedge", "trial", "LPennyLedge$Shelf;", true)
  | 4 => ("PennyLedge", "levels", "[LPennyLedge$Shelf;", true)
  | 5 => ("PennyLedge", "tape", "LPennyLedge$Tape;", true)
  | 6 => ("PennyLedge", "sheets", "[LPennyLedge$Sheet;", true)
  | _ => ("PennyLedge", "findings", "[I", true)
def tyX3 : Nat → FieldType := fun k => match k with
  | 0 => .object "PennyLedge$Shelf"
  | 1 => .object "PennyLedge$Shelf"
  | 2 => .boolean
  | 3 => .object "PennyLedge$Shelf"
  | 4 => .array (.object "PennyLedge$Shelf")
  | 5 => .object "PennyLedge$Tape"
  | 6 => .array (.object "PennyLedge$Sheet")
  | _ => .array .int
abbrev wsX30 : List Cond := u_ws RX3 TX3 8
theorem nmX3 : ∀ a, a < 8 → ∀ b, b < 8 → a ≠ b → (TX3 a).2.1 ≠ (TX3 b).2.1 := by decide +kernel
theorem tyX3_ok : ∀ k, k < 8 → parseFieldDescriptor (TX3 k).2.2.1 = some (tyX3 k) := by decide +kernel
abbrev cX3_init : ByteArray := prog_1_method_1_code
def yX3_init : MethodName := ⟨RX3, "<init>", "()V"⟩
abbrev cX3_coin : ByteArray := prog_1_method_2_code
def yX3_coin : MethodName := ⟨RX3, "coin", "(I)I"⟩
abbrev cX3_of : ByteArray := prog_1_method_3_code
def yX3_of : MethodName := ⟨RX3, "of", "(II)I"⟩
abbrev cX3_change : ByteArray := prog_1_method_4_code
def yX3_change : MethodName := ⟨RX3, "change", "(II)I"⟩
abbrev cX3_lay : ByteArray := prog_1_method_5_code
def yX3_lay : MethodName := ⟨RX3, "lay", "(III)I"⟩
abbrev cX3_lift : ByteArray := prog_1_method_6_code
def yX3_lift : MethodName := ⟨RX3, "lift", "(II)I"⟩
abbrev cX3_height : ByteArray := prog_1_method_7_code
def yX3_height : MethodName := ⟨RX3, "height", "(II)I"⟩
abbrev cX3_seen : ByteArray := prog_1_method_8_code
def yX3_seen : MethodName := ⟨RX3, "seen", "(III)I"⟩
abbrev cX3_set : ByteArray := prog_1_method_9_code
def yX3_set : MethodName := ⟨RX3, "set", "(II)I"⟩
abbrev cX3_drop : ByteArray := prog_1_method_10_code
def yX3_drop : MethodName := ⟨RX3, "drop", "(II)I"⟩
abbrev cX3_beats : ByteArray := prog_1_method_11_code
def yX3_beats : MethodName := ⟨RX3, "beats", "(I)I"⟩
abbrev cX3_now : ByteArray := prog_1_method_12_code
def yX3_now : MethodName := ⟨RX3, "now", "(I)I"⟩
abbrev cX3_run : ByteArray := prog_1_method_13_code
def yX3_run : MethodName := ⟨RX3, "run", "(I)I"⟩
abbrev cX3_weight : ByteArray := prog_1_method_14_code
def yX3_weight : MethodName := ⟨RX3, "weight", "(I)I"⟩
abbrev cX3_moved : ByteArray := prog_1_method_15_code
def yX3_moved : MethodName := ⟨RX3, "moved", "()I"⟩
abbrev cX3_leaning : ByteArray := prog_1_method_16_code
def yX3_leaning : MethodName := ⟨RX3, "leaning", "()I"⟩
abbrev cX3_ahead : ByteArray := prog_1_method_17_code
def yX3_ahead : MethodName := ⟨RX3, "ahead", "(II)I"⟩
abbrev cX3_falls : ByteArray := prog_1_method_18_code
def yX3_falls : MethodName := ⟨RX3, "falls", "(I)I"⟩
abbrev cX3_rest : ByteArray := prog_1_method_19_code
def yX3_rest : MethodName := ⟨RX3, "rest", "()I"⟩
abbrev cX3_brings : ByteArray := prog_1_method_20_code
def yX3_brings : MethodName := ⟨RX3, "brings", "(III)I"⟩
abbrev cX3_best : ByteArray := prog_1_method_21_code
def yX3_best : MethodName := ⟨RX3, "best", "(II)I"⟩
abbrev cX3_wait : ByteArray := prog_1_method_22_code
def yX3_wait : MethodName := ⟨RX3, "wait", "(II)I"⟩
abbrev cX3_three : ByteArray := prog_1_method_23_code
def yX3_three : MethodName := ⟨RX3, "three", "(I)I"⟩
abbrev cX3_threeBring : ByteArray := prog_1_method_24_code
def yX3_threeBring : MethodName := ⟨RX3, "threeBring", "(I)I"⟩
abbrev cX3_soonest : ByteArray := prog_1_method_25_code
def yX3_soonest : MethodName := ⟨RX3, "soonest", "(I)I"⟩
abbrev cX3_firstFor : ByteArray := prog_1_method_26_code
def yX3_firstFor : MethodName := ⟨RX3, "firstFor", "(I)I"⟩
abbrev cX3_ways : ByteArray := prog_1_method_27_code
def yX3_ways : MethodName := ⟨RX3, "ways", "(II)J"⟩
abbrev cX3_total : ByteArray := prog_1_method_28_code
def yX3_total : MethodName := ⟨RX3, "total", "(I)J"⟩
abbrev cX3_luck : ByteArray := prog_1_method_29_code
def yX3_luck : MethodName := ⟨RX3, "luck", "(II)J"⟩
abbrev cX3_play : ByteArray := prog_1_method_30_code
def yX3_play : MethodName := ⟨RX3, "play", "(I)I"⟩
abbrev cX3_jolt : ByteArray := prog_1_method_31_code
def yX3_jolt : MethodName := ⟨RX3, "jolt", "()I"⟩
abbrev cX3_jolted : ByteArray := prog_1_method_32_code
def yX3_jolted : MethodName := ⟨RX3, "jolted", "()I"⟩
abbrev cX3_stroke : ByteArray := prog_1_method_33_code
def yX3_stroke : MethodName := ⟨RX3, "stroke", "(I)I"⟩
abbrev cX3_force : ByteArray := prog_1_method_34_code
def yX3_force : MethodName := ⟨RX3, "force", "(II)I"⟩
abbrev cX3_kindFor : ByteArray := prog_1_method_35_code
def yX3_kindFor : MethodName := ⟨RX3, "kindFor", "(II)I"⟩
abbrev cX3_seed : ByteArray := prog_1_method_36_code
def yX3_seed : MethodName := ⟨RX3, "seed", "(I)I"⟩
abbrev cX3_feed : ByteArray := prog_1_method_37_code
def yX3_feed : MethodName := ⟨RX3, "feed", "(II)I"⟩
abbrev cX3_wipe : ByteArray := prog_1_method_38_code
def yX3_wipe : MethodName := ⟨RX3, "wipe", "()I"⟩
abbrev cX3_text : ByteArray := prog_1_method_39_code
def yX3_text : MethodName := ⟨RX3, "text", "()I"⟩
abbrev cX3_hold : ByteArray := prog_1_method_40_code
def yX3_hold : MethodName := ⟨RX3, "hold", "(II)I"⟩
abbrev cX3_as : ByteArray := prog_1_method_41_code
def yX3_as : MethodName := ⟨RX3, "as", "(II)I"⟩
abbrev cX3_sheet : ByteArray := prog_1_method_42_code
def yX3_sheet : MethodName := ⟨RX3, "sheet", "(III)I"⟩
abbrev cX3_write : ByteArray := prog_1_method_43_code
def yX3_write : MethodName := ⟨RX3, "write", "(III)I"⟩
abbrev cX3_copy : ByteArray := prog_1_method_44_code
def yX3_copy : MethodName := ⟨RX3, "copy", "(IIIII)I"⟩
abbrev cX3_load : ByteArray := prog_1_method_45_code
def yX3_load : MethodName := ⟨RX3, "load", "(I)I"⟩
abbrev cX3_judge : ByteArray := prog_1_method_46_code
def yX3_judge : MethodName := ⟨RX3, "judge", "(I)I"⟩
abbrev cX3_image : ByteArray := prog_1_method_47_code
def yX3_image : MethodName := ⟨RX3, "image", "()I"⟩
abbrev cX3_undo : ByteArray := prog_1_method_48_code
def yX3_undo : MethodName := ⟨RX3, "undo", "()I"⟩
abbrev cX3_tear : ByteArray := prog_1_method_49_code
def yX3_tear : MethodName := ⟨RX3, "tear", "()I"⟩
abbrev cX3_count : ByteArray := prog_1_method_50_code
def yX3_count : MethodName := ⟨RX3, "count", "(I)I"⟩
abbrev cX3_status : ByteArray := prog_1_method_51_code
def yX3_status : MethodName := ⟨RX3, "status", "(I)I"⟩
abbrev cX3_found : ByteArray := prog_1_method_52_code
def yX3_found : MethodName := ⟨RX3, "found", "(I)I"⟩
abbrev cX3_within : ByteArray := prog_1_method_53_code
def yX3_within : MethodName := ⟨RX3, "within", "(III)Z"⟩
abbrev cX3_isKind : ByteArray := prog_1_method_54_code
def yX3_isKind : MethodName := ⟨RX3, "isKind", "(I)Z"⟩
abbrev cX3_isColumn : ByteArray := prog_1_method_55_code
def yX3_isColumn : MethodName := ⟨RX3, "isColumn", "(I)Z"⟩
abbrev cX3_isCell : ByteArray := prog_1_method_56_code
def yX3_isCell : MethodName := ⟨RX3, "isCell", "(II)Z"⟩
abbrev cX3_cellOf : ByteArray := prog_1_method_57_code
def yX3_cellOf : MethodName := ⟨RX3, "cellOf", "(II)I"⟩
abbrev cX3_isSheet : ByteArray := prog_1_method_58_code
def yX3_isSheet : MethodName := ⟨RX3, "isSheet", "(I)Z"⟩
abbrev cX3_isWidth : ByteArray := prog_1_method_59_code
def yX3_isWidth : MethodName := ⟨RX3, "isWidth", "(I)Z"⟩
abbrev cX3_isSetting : ByteArray := prog_1_method_60_code
def yX3_isSetting : MethodName := ⟨RX3, "isSetting", "(II)Z"⟩
abbrev cX3_isUnder : ByteArray := prog_1_method_61_code
def yX3_isUnder : MethodName := ⟨RX3, "isUnder", "(II)Z"⟩
abbrev cX3_isCoin : ByteArray := prog_1_method_62_code
def yX3_isCoin : MethodName := ⟨RX3, "isCoin", "(I)Z"⟩
abbrev cX3_passesEnd : ByteArray := prog_1_method_63_code
def yX3_passesEnd : MethodName := ⟨RX3, "passesEnd", "(I)Z"⟩
abbrev cX3_isSearched : ByteArray := prog_1_method_64_code
def yX3_isSearched : MethodName := ⟨RX3, "isSearched", "(I)Z"⟩
abbrev cX3_canDrop : ByteArray := prog_1_method_65_code
def yX3_canDrop : MethodName := ⟨RX3, "canDrop", "(I)Z"⟩
abbrev cX3_gainBy : ByteArray := prog_1_method_66_code
def yX3_gainBy : MethodName := ⟨RX3, "gainBy", "(LPennyLedge$Shelf;III)I"⟩
abbrev cX3_gainOfThree : ByteArray := prog_1_method_67_code
def yX3_gainOfThree : MethodName := ⟨RX3, "gainOfThree", "(II)I"⟩
abbrev cX3_columnOf : ByteArray := prog_1_method_68_code
def yX3_columnOf : MethodName := ⟨RX3, "columnOf", "(III)I"⟩
abbrev cX3_walk : ByteArray := prog_1_method_69_code
def yX3_walk : MethodName := ⟨RX3, "walk", "(II)LPennyLedge$Shelf;"⟩
abbrev cX3_soonestWay : ByteArray := prog_1_method_70_code
def yX3_soonestWay : MethodName := ⟨RX3, "soonestWay", "(I)I"⟩
abbrev cX3_readText : ByteArray := prog_1_method_71_code
def yX3_readText : MethodName := ⟨RX3, "readText", "(LPennyLedge$Shelf;)I"⟩
abbrev cX3_readItem : ByteArray := prog_1_method_72_code
def yX3_readItem : MethodName := ⟨RX3, "readItem", "(LPennyLedge$Shelf;)Z"⟩
abbrev cX3_readCoin : ByteArray := prog_1_method_73_code
def yX3_readCoin : MethodName := ⟨RX3, "readCoin", "(LPennyLedge$Shelf;I)Z"⟩
abbrev cX3_readSetting : ByteArray := prog_1_method_74_code
def yX3_readSetting : MethodName := ⟨RX3, "readSetting", "(LPennyLedge$Shelf;I)Z"⟩
abbrev cX3_kindWord : ByteArray := prog_1_method_75_code
def yX3_kindWord : MethodName := ⟨RX3, "kindWord", "(I)Ljava/lang/String;"⟩
abbrev cX3_settingWord : ByteArray := prog_1_method_76_code
def yX3_settingWord : MethodName := ⟨RX3, "settingWord", "(I)Ljava/lang/String;"⟩
def RX4 : String := "PennyLedgeModel"
def TX4 : u_T := fun k => match k with
  | 0 => ("PennyLedgeModel", "now", "[I", true)
  | 1 => ("PennyLedgeModel", "kept", "[I", true)
  | 2 => ("PennyLedgeModel", "aside", "[I", true)
  | 3 => ("PennyLedgeModel", "isKept", "Z", false)
  | 4 => ("PennyLedgeModel", "found", "[I", true)
  | 5 => ("PennyLedgeModel", "overMany", "I", false)
  | 6 => ("PennyLedgeModel", "moves", "I", false)
  | 7 => ("PennyLedgeModel", "bestThree", "I", false)
  | 8 => ("PennyLedgeModel", "mostThree", "I", false)
  | 9 => ("PennyLedgeModel", "soonWay", "I", false)
  | 10 => ("PennyLedgeModel", "tape", "[I", true)
  | 11 => ("PennyLedgeModel", "taped", "I", false)
  | 12 => ("PennyLedgeModel", "begins", "I", false)
  | 13 => ("PennyLedgeModel", "ends", "I", false)
  | 14 => ("PennyLedgeModel", "sort", "I", false)
  | 15 => ("PennyLedgeModel", "value", "I", false)
  | 16 => ("PennyLedgeModel", "isWrong", "Z", false)
  | 17 => ("PennyLedgeModel", "kinds", "[Ljava/lang/String;", true)
  | 18 => ("PennyLedgeModel", "sets", "[Ljava/lang/String;", true)
  | 19 => ("PennyLedgeModel", "items", "[I", true)
  | 20 => ("PennyLedgeModel", "itemMany", "I", false)
  | 21 => ("PennyLedgeModel", "coinThen", "I", false)
  | 22 => ("PennyLedgeModel", "highThen", "[I", true)
  | 23 => ("PennyLedgeModel", "widths", "[I", true)
  | 24 => ("PennyLedgeModel", "sizes", "[I", true)
  | 25 => ("PennyLedgeModel", "numbers", "[I", true)
  | _ => ("PennyLedgeModel", "moved", "[I", true)
def tyX4 : Nat → FieldType := fun k => match k with
  | 0 => .array .int
  | 1 => .array .int
  | 2 => .array .int
  | 3 => .boolean
  | 4 => .array .int
  | 5 => .int
  | 6 => .int
  | 7 => .int
  | 8 => .int
  | 9 => .int
  | 10 => .array .int
  | 11 => .int
  | 12 => .int
  | 13 => .int
  | 14 => .int
  | 15 => .int
  | 16 => .boolean
  | 17 => .array (.object "java/lang/String")
  | 18 => .array (.object "java/lang/String")
  | 19 => .array .int
  | 20 => .int
  | 21 => .int
  | 22 => .array .int
  | 23 => .array .int
  | 24 => .array .int
  | 25 => .array .int
  | _ => .array .int
abbrev wsX40 : List Cond := u_ws RX4 TX4 27
theorem nmX4 : ∀ a, a < 27 → ∀ b, b < 27 → a ≠ b → (TX4 a).2.1 ≠ (TX4 b).2.1 := by decide +kernel
theorem tyX4_ok : ∀ k, k < 27 → parseFieldDescriptor (TX4 k).2.2.1 = some (tyX4 k) := by decide +kernel
abbrev cX4_init : ByteArray := prog_6_method_1_code
def yX4_init : MethodName := ⟨RX4, "<init>", "()V"⟩
abbrev cX4_finding : ByteArray := prog_6_method_2_code
def yX4_finding : MethodName := ⟨RX4, "finding", "(I)I"⟩
abbrev cX4_within : ByteArray := prog_6_method_3_code
def yX4_within : MethodName := ⟨RX4, "within", "(III)Z"⟩
abbrev cX4_become : ByteArray := prog_6_method_4_code
def yX4_become : MethodName := ⟨RX4, "become", "(II)I"⟩
abbrev cX4_copyRow : ByteArray := prog_6_method_5_code
def yX4_copyRow : MethodName := ⟨RX4, "copyRow", "([I[I)V"⟩
abbrev cX4_putBack : ByteArray := prog_6_method_6_code
def yX4_putBack : MethodName := ⟨RX4, "putBack", "(I)I"⟩
abbrev cX4_isCoin : ByteArray := prog_6_method_7_code
def yX4_isCoin : MethodName := ⟨RX4, "isCoin", "(I)Z"⟩
abbrev cX4_isKind : ByteArray := prog_6_method_8_code
def yX4_isKind : MethodName := ⟨RX4, "isKind", "(I)Z"⟩
abbrev cX4_isColumn : ByteArray := prog_6_method_9_code
def yX4_isColumn : MethodName := ⟨RX4, "isColumn", "(I)Z"⟩
abbrev cX4_isCell : ByteArray := prog_6_method_10_code
def yX4_isCell : MethodName := ⟨RX4, "isCell", "(II)Z"⟩
abbrev cX4_cellOf : ByteArray := prog_6_method_11_code
def yX4_cellOf : MethodName := ⟨RX4, "cellOf", "(II)I"⟩
abbrev cX4_highOf : ByteArray := prog_6_method_12_code
def yX4_highOf : MethodName := ⟨RX4, "highOf", "(I)I"⟩
abbrev cX4_coinAt : ByteArray := prog_6_method_13_code
def yX4_coinAt : MethodName := ⟨RX4, "coinAt", "(II)I"⟩
abbrev cX4_topOf : ByteArray := prog_6_method_14_code
def yX4_topOf : MethodName := ⟨RX4, "topOf", "(I)I"⟩
abbrev cX4_isOnShelf : ByteArray := prog_6_method_15_code
def yX4_isOnShelf : MethodName := ⟨RX4, "isOnShelf", "(I)Z"⟩
abbrev cX4_comesOn : ByteArray := prog_6_method_16_code
def yX4_comesOn : MethodName := ⟨RX4, "comesOn", "(II)V"⟩
abbrev cX4_taken : ByteArray := prog_6_method_17_code
def yX4_taken : MethodName := ⟨RX4, "taken", "(I)I"⟩
abbrev cX4_struck : ByteArray := prog_6_method_18_code
def yX4_struck : MethodName := ⟨RX4, "struck", "(I)I"⟩
abbrev cX4_coin : ByteArray := prog_6_method_19_code
def yX4_coin : MethodName := ⟨RX4, "coin", "(I)I"⟩
abbrev cX4_above : ByteArray := prog_6_method_20_code
def yX4_above : MethodName := ⟨RX4, "above", "(I)I"⟩
abbrev cX4_isUnder : ByteArray := prog_6_method_21_code
def yX4_isUnder : MethodName := ⟨RX4, "isUnder", "(II)Z"⟩
abbrev cX4_kindOf : ByteArray := prog_6_method_22_code
def yX4_kindOf : MethodName := ⟨RX4, "kindOf", "(I)I"⟩
abbrev cX4_worth : ByteArray := prog_6_method_23_code
def yX4_worth : MethodName := ⟨RX4, "worth", "(I)I"⟩
abbrev cX4_weighs : ByteArray := prog_6_method_24_code
def yX4_weighs : MethodName := ⟨RX4, "weighs", "(I)I"⟩
abbrev cX4_slides : ByteArray := prog_6_method_25_code
def yX4_slides : MethodName := ⟨RX4, "slides", "(I)Z"⟩
abbrev cX4_of : ByteArray := prog_6_method_26_code
def yX4_of : MethodName := ⟨RX4, "of", "(II)I"⟩
abbrev cX4_change : ByteArray := prog_6_method_27_code
def yX4_change : MethodName := ⟨RX4, "change", "(II)I"⟩
abbrev cX4_lay : ByteArray := prog_6_method_28_code
def yX4_lay : MethodName := ⟨RX4, "lay", "(III)I"⟩
abbrev cX4_lift : ByteArray := prog_6_method_29_code
def yX4_lift : MethodName := ⟨RX4, "lift", "(II)I"⟩
abbrev cX4_height : ByteArray := prog_6_method_30_code
def yX4_height : MethodName := ⟨RX4, "height", "(II)I"⟩
abbrev cX4_seen : ByteArray := prog_6_method_31_code
def yX4_seen : MethodName := ⟨RX4, "seen", "(III)I"⟩
abbrev cX4_set : ByteArray := prog_6_method_32_code
def yX4_set : MethodName := ⟨RX4, "set", "(II)I"⟩
abbrev cX4_goesOver : ByteArray := prog_6_method_33_code
def yX4_goesOver : MethodName := ⟨RX4, "goesOver", "(II)V"⟩
abbrev cX4_runOf : ByteArray := prog_6_method_34_code
def yX4_runOf : MethodName := ⟨RX4, "runOf", "(I)I"⟩
abbrev cX4_weightOf : ByteArray := prog_6_method_35_code
def yX4_weightOf : MethodName := ⟨RX4, "weightOf", "(I)I"⟩
abbrev cX4_isMoved : ByteArray := prog_6_method_36_code
def yX4_isMoved : MethodName := ⟨RX4, "isMoved", "(I)Z"⟩
abbrev cX4_goesOn : ByteArray := prog_6_method_37_code
def yX4_goesOn : MethodName := ⟨RX4, "goesOn", "(II)V"⟩
abbrev cX4_slidesOff : ByteArray := prog_6_method_38_code
def yX4_slidesOff : MethodName := ⟨RX4, "slidesOff", "(II)V"⟩
abbrev cX4_isLeaning : ByteArray := prog_6_method_39_code
def yX4_isLeaning : MethodName := ⟨RX4, "isLeaning", "(II)Z"⟩
abbrev cX4_beat : ByteArray := prog_6_method_40_code
def yX4_beat : MethodName := ⟨RX4, "beat", "()V"⟩
abbrev cX4_beatsGo : ByteArray := prog_6_method_41_code
def yX4_beatsGo : MethodName := ⟨RX4, "beatsGo", "(I)I"⟩
abbrev cX4_dropped : ByteArray := prog_6_method_42_code
def yX4_dropped : MethodName := ⟨RX4, "dropped", "(II)V"⟩
abbrev cX4_setOf : ByteArray := prog_6_method_43_code
def yX4_setOf : MethodName := ⟨RX4, "setOf", "(I)I"⟩
abbrev cX4_shelf : ByteArray := prog_6_method_44_code
def yX4_shelf : MethodName := ⟨RX4, "shelf", "()I"⟩
abbrev cX4_worthOf : ByteArray := prog_6_method_45_code
def yX4_worthOf : MethodName := ⟨RX4, "worthOf", "(I)I"⟩
abbrev cX4_gain : ByteArray := prog_6_method_46_code
def yX4_gain : MethodName := ⟨RX4, "gain", "()I"⟩
abbrev cX4_isInHand : ByteArray := prog_6_method_47_code
def yX4_isInHand : MethodName := ⟨RX4, "isInHand", "(I)Z"⟩
abbrev cX4_drop : ByteArray := prog_6_method_48_code
def yX4_drop : MethodName := ⟨RX4, "drop", "(II)I"⟩
abbrev cX4_isTooLate : ByteArray := prog_6_method_49_code
def yX4_isTooLate : MethodName := ⟨RX4, "isTooLate", "(I)Z"⟩
abbrev cX4_beats : ByteArray := prog_6_method_50_code
def yX4_beats : MethodName := ⟨RX4, "beats", "(I)I"⟩
abbrev cX4_now : ByteArray := prog_6_method_51_code
def yX4_now : MethodName := ⟨RX4, "now", "(I)I"⟩
abbrev cX4_run : ByteArray := prog_6_method_52_code
def yX4_run : MethodName := ⟨RX4, "run", "(I)I"⟩
abbrev cX4_weight : ByteArray := prog_6_method_53_code
def yX4_weight : MethodName := ⟨RX4, "weight", "(I)I"⟩
abbrev cX4_moved : ByteArray := prog_6_method_54_code
def yX4_moved : MethodName := ⟨RX4, "moved", "()I"⟩
abbrev cX4_leaning : ByteArray := prog_6_method_55_code
def yX4_leaning : MethodName := ⟨RX4, "leaning", "()I"⟩
abbrev cX4_bits : ByteArray := prog_6_method_56_code
def yX4_bits : MethodName := ⟨RX4, "bits", "(I)I"⟩
abbrev cX4_highest : ByteArray := prog_6_method_57_code
def yX4_highest : MethodName := ⟨RX4, "highest", "()I"⟩
abbrev cX4_ahead : ByteArray := prog_6_method_58_code
def yX4_ahead : MethodName := ⟨RX4, "ahead", "(II)I"⟩
abbrev cX4_falls : ByteArray := prog_6_method_59_code
def yX4_falls : MethodName := ⟨RX4, "falls", "(I)I"⟩
abbrev cX4_rest : ByteArray := prog_6_method_60_code
def yX4_rest : MethodName := ⟨RX4, "rest", "()I"⟩
abbrev cX4_refuses : ByteArray := prog_6_method_61_code
def yX4_refuses : MethodName := ⟨RX4, "refuses", "(II)I"⟩
abbrev cX4_gainBy : ByteArray := prog_6_method_62_code
def yX4_gainBy : MethodName := ⟨RX4, "gainBy", "(IIII)I"⟩
abbrev cX4_brings : ByteArray := prog_6_method_63_code
def yX4_brings : MethodName := ⟨RX4, "brings", "(III)I"⟩
abbrev cX4_bestWay : ByteArray := prog_6_method_64_code
def yX4_bestWay : MethodName := ⟨RX4, "bestWay", "(III)I"⟩
abbrev cX4_best : ByteArray := prog_6_method_65_code
def yX4_best : MethodName := ⟨RX4, "best", "(II)I"⟩
abbrev cX4_wait : ByteArray := prog_6_method_66_code
def yX4_wait : MethodName := ⟨RX4, "wait", "(II)I"⟩
abbrev cX4_leastInHand : ByteArray := prog_6_method_67_code
def yX4_leastInHand : MethodName := ⟨RX4, "leastInHand", "()I"⟩
abbrev cX4_ways : ByteArray := prog_6_method_68_code
def yX4_ways : MethodName := ⟨RX4, "ways", "(I)I"⟩
abbrev cX4_columnOf : ByteArray := prog_6_method_69_code
def yX4_columnOf : MethodName := ⟨RX4, "columnOf", "(III)I"⟩
abbrev cX4_dropsBy : ByteArray := prog_6_method_70_code
def yX4_dropsBy : MethodName := ⟨RX4, "dropsBy", "(II)V"⟩
abbrev cX4_refusesThree : ByteArray := prog_6_method_71_code
def yX4_refusesThree : MethodName := ⟨RX4, "refusesThree", "(I)I"⟩
abbrev cX4_three : ByteArray := prog_6_method_72_code
def yX4_three : MethodName := ⟨RX4, "three", "(I)I"⟩
abbrev cX4_threeBring : ByteArray := prog_6_method_73_code
def yX4_threeBring : MethodName := ⟨RX4, "threeBring", "(I)I"⟩
abbrev cX4_findSoonest : ByteArray := prog_6_method_74_code
def yX4_findSoonest : MethodName := ⟨RX4, "findSoonest", "(I)I"⟩
abbrev cX4_refusesSoon : ByteArray := prog_6_method_75_code
def yX4_refusesSoon : MethodName := ⟨RX4, "refusesSoon", "(I)I"⟩
abbrev cX4_soonest : ByteArray := prog_6_method_76_code
def yX4_soonest : MethodName := ⟨RX4, "soonest", "(I)I"⟩
abbrev cX4_firstFor : ByteArray := prog_6_method_77_code
def yX4_firstFor : MethodName := ⟨RX4, "firstFor", "(I)I"⟩
abbrev cX4_refusesWays : ByteArray := prog_6_method_78_code
def yX4_refusesWays : MethodName := ⟨RX4, "refusesWays", "(I)I"⟩
abbrev cX4_ways_ : ByteArray := prog_6_method_79_code
def yX4_ways_ : MethodName := ⟨RX4, "ways", "(II)J"⟩
abbrev cX4_total : ByteArray := prog_6_method_80_code
def yX4_total : MethodName := ⟨RX4, "total", "(I)J"⟩
abbrev cX4_luck : ByteArray := prog_6_method_81_code
def yX4_luck : MethodName := ⟨RX4, "luck", "(II)J"⟩
abbrev cX4_drawn : ByteArray := prog_6_method_82_code
def yX4_drawn : MethodName := ⟨RX4, "drawn", "(I)I"⟩
abbrev cX4_play : ByteArray := prog_6_method_83_code
def yX4_play : MethodName := ⟨RX4, "play", "(I)I"⟩
abbrev cX4_jolt : ByteArray := prog_6_method_84_code
def yX4_jolt : MethodName := ⟨RX4, "jolt", "()I"⟩
abbrev cX4_jolted : ByteArray := prog_6_method_85_code
def yX4_jolted : MethodName := ⟨RX4, "jolted", "()I"⟩
abbrev cX4_wonIn : ByteArray := prog_6_method_86_code
def yX4_wonIn : MethodName := ⟨RX4, "wonIn", "(II)I"⟩
abbrev cX4_stroke : ByteArray := prog_6_method_87_code
def yX4_stroke : MethodName := ⟨RX4, "stroke", "(I)I"⟩
abbrev cX4_refusesShelf : ByteArray := prog_6_method_88_code
def yX4_refusesShelf : MethodName := ⟨RX4, "refusesShelf", "(II)I"⟩
abbrev cX4_force : ByteArray := prog_6_method_89_code
def yX4_force : MethodName := ⟨RX4, "force", "(II)I"⟩
abbrev cX4_kindFor : ByteArray := prog_6_method_90_code
def yX4_kindFor : MethodName := ⟨RX4, "kindFor", "(II)I"⟩
abbrev cX4_seed : ByteArray := prog_6_method_91_code
def yX4_seed : MethodName := ⟨RX4, "seed", "(I)I"⟩
abbrev cX4_feed : ByteArray := prog_6_method_92_code
def yX4_feed : MethodName := ⟨RX4, "feed", "(II)I"⟩
abbrev cX4_wipe : ByteArray := prog_6_method_93_code
def yX4_wipe : MethodName := ⟨RX4, "wipe", "()I"⟩
abbrev cX4_byteAt : ByteArray := prog_6_method_94_code
def yX4_byteAt : MethodName := ⟨RX4, "byteAt", "(I)I"⟩
abbrev cX4_next : ByteArray := prog_6_method_95_code
def yX4_next : MethodName := ⟨RX4, "next", "()V"⟩
abbrev cX4_isWord : ByteArray := prog_6_method_96_code
def yX4_isWord : MethodName := ⟨RX4, "isWord", "(Ljava/lang/String;)Z"⟩
abbrev cX4_must : ByteArray := prog_6_method_97_code
def yX4_must : MethodName := ⟨RX4, "must", "(Z)V"⟩
abbrev cX4_number : ByteArray := prog_6_method_98_code
def yX4_number : MethodName := ⟨RX4, "number", "(II)I"⟩
abbrev cX4_item : ByteArray := prog_6_method_99_code
def yX4_item : MethodName := ⟨RX4, "item", "(II)V"⟩
abbrev cX4_which : ByteArray := prog_6_method_100_code
def yX4_which : MethodName := ⟨RX4, "which", "([Ljava/lang/String;)I"⟩
abbrev cX4_readItem : ByteArray := prog_6_method_101_code
def yX4_readItem : MethodName := ⟨RX4, "readItem", "()V"⟩
abbrev cX4_readCell : ByteArray := prog_6_method_102_code
def yX4_readCell : MethodName := ⟨RX4, "readCell", "()I"⟩
abbrev cX4_isSo : ByteArray := prog_6_method_103_code
def yX4_isSo : MethodName := ⟨RX4, "isSo", "(II)V"⟩
abbrev cX4_text : ByteArray := prog_6_method_104_code
def yX4_text : MethodName := ⟨RX4, "text", "()I"⟩
abbrev cX4_isSpot : ByteArray := prog_6_method_105_code
def yX4_isSpot : MethodName := ⟨RX4, "isSpot", "(I)Z"⟩
abbrev cX4_hold : ByteArray := prog_6_method_106_code
def yX4_hold : MethodName := ⟨RX4, "hold", "(II)I"⟩
abbrev cX4_as : ByteArray := prog_6_method_107_code
def yX4_as : MethodName := ⟨RX4, "as", "(II)I"⟩
abbrev cX4_isSheet : ByteArray := prog_6_method_108_code
def yX4_isSheet : MethodName := ⟨RX4, "isSheet", "(I)Z"⟩
abbrev cX4_cutTo : ByteArray := prog_6_method_109_code
def yX4_cutTo : MethodName := ⟨RX4, "cutTo", "(II)I"⟩
abbrev cX4_sheet : ByteArray := prog_6_method_110_code
def yX4_sheet : MethodName := ⟨RX4, "sheet", "(III)I"⟩
abbrev cX4_write : ByteArray := prog_6_method_111_code
def yX4_write : MethodName := ⟨RX4, "write", "(III)I"⟩
abbrev cX4_copy : ByteArray := prog_6_method_112_code
def yX4_copy : MethodName := ⟨RX4, "copy", "(IIIII)I"⟩
abbrev cX4_load : ByteArray := prog_6_method_113_code
def yX4_load : MethodName := ⟨RX4, "load", "(I)I"⟩
abbrev cX4_judge : ByteArray := prog_6_method_114_code
def yX4_judge : MethodName := ⟨RX4, "judge", "(I)I"⟩
abbrev cX4_image : ByteArray := prog_6_method_115_code
def yX4_image : MethodName := ⟨RX4, "image", "()I"⟩
abbrev cX4_undo : ByteArray := prog_6_method_116_code
def yX4_undo : MethodName := ⟨RX4, "undo", "()I"⟩
abbrev cX4_tear : ByteArray := prog_6_method_117_code
def yX4_tear : MethodName := ⟨RX4, "tear", "()I"⟩
abbrev cX4_count : ByteArray := prog_6_method_118_code
def yX4_count : MethodName := ⟨RX4, "count", "(I)I"⟩
abbrev cX4_status : ByteArray := prog_6_method_119_code
def yX4_status : MethodName := ⟨RX4, "status", "(I)I"⟩
def RJ6 : String := "java/lang/Integer"
def TJ6 : u_T := fun k => match k with
  | _ => ("", "", "", false)
def tyJ6 : Nat → FieldType := fun k => match k with
  | _ => .int
abbrev wsJ60 : List Cond := u_ws RJ6 TJ6 0
theorem nmJ6 : ∀ a, a < 0 → ∀ b, b < 0 → a ≠ b → (TJ6 a).2.1 ≠ (TJ6 b).2.1 := by decide +kernel
theorem tyJ6_ok : ∀ k, k < 0 → parseFieldDescriptor (TJ6 k).2.2.1 = some (tyJ6 k) := by decide +kernel
abbrev cJ6_bitCount_0f7a4 : ByteArray := prog_7_method_49_code
def yJ6_bitCount_0f7a4 : MethodName := ⟨RJ6, "bitCount", "(I)I"⟩
def RJ9 : String := "java/lang/Math"
def TJ9 : u_T := fun k => match k with
  | _ => ("", "", "", false)
def tyJ9 : Nat → FieldType := fun k => match k with
  | _ => .int
abbrev wsJ90 : List Cond := u_ws RJ9 TJ9 0
theorem nmJ9 : ∀ a, a < 0 → ∀ b, b < 0 → a ≠ b → (TJ9 a).2.1 ≠ (TJ9 b).2.1 := by decide +kernel
theorem tyJ9_ok : ∀ k, k < 0 → parseFieldDescriptor (TJ9 k).2.2.1 = some (tyJ9 k) := by decide +kernel
abbrev cJ9_max_7cf53 : ByteArray := prog_8_method_65_code
def yJ9_max_7cf53 : MethodName := ⟨RJ9, "max", "(II)I"⟩
abbrev cJ9_min_7cf53 : ByteArray := prog_8_method_69_code
def yJ9_min_7cf53 : MethodName := ⟨RJ9, "min", "(II)I"⟩
def RJ0 : String := "java/lang/String"
def TJ0 : u_T := fun k => match k with
  | _ => ("", "", "", false)
def tyJ0 : Nat → FieldType := fun k => match k with
  | _ => .int
abbrev wsJ00 : List Cond := u_ws RJ0 TJ0 0
theorem nmJ0 : ∀ a, a < 0 → ∀ b, b < 0 → a ≠ b → (TJ0 a).2.1 ≠ (TJ0 b).2.1 := by decide +kernel
theorem tyJ0_ok : ∀ k, k < 0 → parseFieldDescriptor (TJ0 k).2.2.1 = some (tyJ0 k) := by decide +kernel
abbrev cJ0_length_8abf5 : ByteArray := prog_9_method_54_code
def yJ0_length_8abf5 : MethodName := ⟨RJ0, "length", "()I"⟩
abbrev cJ0_charAt_5068e : ByteArray := prog_9_method_56_code
def yJ0_charAt_5068e : MethodName := ⟨RJ0, "charAt", "(I)C"⟩
abbrev cJ0_coder_7d493 : ByteArray := prog_9_method_152_code
def yJ0_coder_7d493 : MethodName := ⟨RJ0, "coder", "()B"⟩
abbrev cJ0_isLatin1_aae02 : ByteArray := prog_9_method_154_code
def yJ0_isLatin1_aae02 : MethodName := ⟨RJ0, "isLatin1", "()Z"⟩
abbrev cJ0_checkIndex_df160 : ByteArray := prog_9_method_155_code
def yJ0_checkIndex_df160 : MethodName := ⟨RJ0, "checkIndex", "(II)V"⟩
def RJ1 : String := "java/lang/StringLatin1"
def TJ1 : u_T := fun k => match k with
  | _ => ("", "", "", false)
def tyJ1 : Nat → FieldType := fun k => match k with
  | _ => .int
abbrev wsJ10 : List Cond := u_ws RJ1 TJ1 0
theorem nmJ1 : ∀ a, a < 0 → ∀ b, b < 0 → a ≠ b → (TJ1 a).2.1 ≠ (TJ1 b).2.1 := by decide +kernel
theorem tyJ1_ok : ∀ k, k < 0 → parseFieldDescriptor (TJ1 k).2.2.1 = some (tyJ1 k) := by decide +kernel
abbrev cJ1_charAt_3b067 : ByteArray := prog_10_method_2_code
def yJ1_charAt_3b067 : MethodName := ⟨RJ1, "charAt", "([BI)C"⟩
def RJ2 : String := "java/lang/StringUTF16"
def TJ2 : u_T := fun k => match k with
  | _ => ("", "", "", false)
def tyJ2 : Nat → FieldType := fun k => match k with
  | _ => .int
abbrev wsJ20 : List Cond := u_ws RJ2 TJ2 0
theorem nmJ2 : ∀ a, a < 0 → ∀ b, b < 0 → a ≠ b → (TJ2 a).2.1 ≠ (TJ2 b).2.1 := by decide +kernel
theorem tyJ2_ok : ∀ k, k < 0 → parseFieldDescriptor (TJ2 k).2.2.1 = some (tyJ2 k) := by decide +kernel
abbrev cJ2_getChar_3b067 : ByteArray := prog_11_method_5_code
def yJ2_getChar_3b067 : MethodName := ⟨RJ2, "getChar", "([BI)C"⟩
abbrev cJ2_length_9d52b : ByteArray := prog_11_method_6_code
def yJ2_length_9d52b : MethodName := ⟨RJ2, "length", "([B)I"⟩
abbrev cJ2_charAt_3b067 : ByteArray := prog_11_method_83_code
def yJ2_charAt_3b067 : MethodName := ⟨RJ2, "charAt", "([BI)C"⟩
abbrev cJ2_checkIndex_2214a : ByteArray := prog_11_method_91_code
def yJ2_checkIndex_2214a : MethodName := ⟨RJ2, "checkIndex", "(I[B)V"⟩
def RJ10 : String := "java/lang/System"
def TJ10 : u_T := fun k => match k with
  | _ => ("", "", "", false)
def tyJ10 : Nat → FieldType := fun k => match k with
  | _ => .int
abbrev wsJ100 : List Cond := u_ws RJ10 TJ10 0
theorem nmJ10 : ∀ a, a < 0 → ∀ b, b < 0 → a ≠ b → (TJ10 a).2.1 ≠ (TJ10 b).2.1 := by decide +kernel
theorem tyJ10_ok : ∀ k, k < 0 → parseFieldDescriptor (TJ10 k).2.2.1 = some (tyJ10 k) := by decide +kernel
def RJ3 : String := "jdk/internal/util/Preconditions"
def TJ3 : u_T := fun k => match k with
  | _ => ("", "", "", false)
def tyJ3 : Nat → FieldType := fun k => match k with
  | _ => .int
abbrev wsJ30 : List Cond := u_ws RJ3 TJ3 0
theorem nmJ3 : ∀ a, a < 0 → ∀ b, b < 0 → a ≠ b → (TJ3 a).2.1 ≠ (TJ3 b).2.1 := by decide +kernel
theorem tyJ3_ok : ∀ k, k < 0 → parseFieldDescriptor (TJ3 k).2.2.1 = some (tyJ3 k) := by decide +kernel
abbrev cJ3_checkIndex_8e157 : ByteArray := prog_13_method_11_code
def yJ3_checkIndex_8e157 : MethodName := ⟨RJ3, "checkIndex", "(IILjava/util/function/BiFunction;)I"⟩
def RL : String := "PennyLedgeLaw"
abbrev cL_law : ByteArray := code
def yL_law : MethodName := ⟨RL, "law", "([I)Z"⟩
abbrev vwCl : List vw_C := [(RX0, TX0, 3), (RX1, TX1, 10), (RX2, TX2, 6), (RX3, TX3, 8), (RX4, TX4, 27)]
end
section
/-! the words of the tables, each by its place -/
def ALLW : List Cond := lw_tbl.filter goodWord
theorem ALLW_lw : ∀ w ∈ ALLW, w ∈ lw_tbl := fun _ h => (List.mem_filter.mp h).1
theorem ALLW_in {w : Cond} (h : w ∈ lw_tbl) (hg : goodWord w = true) : w ∈ ALLW := List.mem_filter.mpr ⟨h, hg⟩
theorem inT1 {w : Cond} (h : w ∈ tables_1_1) (hg : goodWord w = true) : w ∈ ALLW := ALLW_in (List.mem_append_right _ (List.mem_append_left _ h)) hg
theorem inT2 {w : Cond} (h : w ∈ tables_1_2) (hg : goodWord w = true) : w ∈ ALLW := ALLW_in (List.mem_append_right _ (List.mem_append_right _ (List.mem_append_left _ h))) hg
theorem inT3 {w : Cond} (h : w ∈ tables_1_3) (hg : goodWord w = true) : w ∈ ALLW := ALLW_in (List.mem_append_right _ (List.mem_append_right _ (List.mem_append_right _ (List.mem_append_left _ h)))) hg
theorem inT4 {w : Cond} (h : w ∈ tables_1_4) (hg : goodWord w = true) : w ∈ ALLW := ALLW_in (List.mem_append_right _ (List.mem_append_right _ (List.mem_append_right _ (List.mem_append_right _ (List.mem_append_left _ h))))) hg
theorem inT5 {w : Cond} (h : w ∈ tables_1_5) (hg : goodWord w = true) : w ∈ ALLW := ALLW_in (List.mem_append_right _ (List.mem_append_right _ (List.mem_append_right _ (List.mem_append_right _ (List.mem_append_right _ (List.mem_append_left _ h)))))) hg
theorem inT6 {w : Cond} (h : w ∈ tables_1_6) (hg : goodWord w = true) : w ∈ ALLW := ALLW_in (List.mem_append_right _ (List.mem_append_right _ (List.mem_append_right _ (List.mem_append_right _ (List.mem_append_right _ (List.mem_append_right _ (h))))))) hg
theorem inV1 {w : MethodName × Nat} (h : w ∈ lw_privs_1) : Cond.selects w.1.cls w.1 w.1 ∈ ALLW := ALLW_in (List.mem_append_left _ (List.mem_map.mpr ⟨w, List.mem_append_left _ h, rfl⟩)) rfl
theorem inV2 {w : MethodName × Nat} (h : w ∈ lw_privs_2) : Cond.selects w.1.cls w.1 w.1 ∈ ALLW := ALLW_in (List.mem_append_left _ (List.mem_map.mpr ⟨w, List.mem_append_right _ (List.mem_append_left _ h), rfl⟩)) rfl
theorem inV3 {w : MethodName × Nat} (h : w ∈ lw_privs_3) : Cond.selects w.1.cls w.1 w.1 ∈ ALLW := ALLW_in (List.mem_append_left _ (List.mem_map.mpr ⟨w, List.mem_append_right _ (List.mem_append_right _ (List.mem_append_left _ h)), rfl⟩)) rfl
theorem inV4 {w : MethodName × Nat} (h : w ∈ lw_privs_4) : Cond.selects w.1.cls w.1 w.1 ∈ ALLW := ALLW_in (List.mem_append_left _ (List.mem_map.mpr ⟨w, List.mem_append_right _ (List.mem_append_right _ (List.mem_append_right _ (List.mem_append_left _ h))), rfl⟩)) rfl
theorem inV5 {w : MethodName × Nat} (h : w ∈ lw_privs_5) : Cond.selects w.1.cls w.1 w.1 ∈ ALLW := ALLW_in (List.mem_append_left _ (List.mem_map.mpr ⟨w, List.mem_append_right _ (List.mem_append_right _ (List.mem_append_right _ (List.mem_append_right _ (h)))), rfl⟩)) rfl
theorem qn_L : Cond.initialized RL ∈ ALLW := inT1 (List.mem_of_getElem? (i := 0) rfl) rfl
theorem qn_X3 : Cond.initialized RX3 ∈ ALLW := inT1 (List.mem_of_getElem? (i := 1) rfl) rfl
theorem qn_X1 : Cond.initialized RX1 ∈ ALLW := inT1 (List.mem_of_getElem? (i := 2) rfl) rfl
theorem qn_X2 : Cond.initialized RX2 ∈ ALLW := inT1 (List.mem_of_getElem? (i := 3) rfl) rfl
theorem qn_X0 : Cond.initialized RX0 ∈ ALLW := inT1 (List.mem_of_getElem? (i := 4) rfl) rfl
theorem qn_X4 : Cond.initialized RX4 ∈ ALLW := inT1 (List.mem_of_getElem? (i := 5) rfl) rfl
theorem qn_J6 : Cond.initialized RJ6 ∈ ALLW := inT1 (List.mem_of_getElem? (i := 6) rfl) rfl
theorem qn_J10 : Cond.initialized RJ10 ∈ ALLW := inT1 (List.mem_of_getElem? (i := 7) rfl) rfl
theorem qn_J9 : Cond.initialized RJ9 ∈ ALLW := inT1 (List.mem_of_getElem? (i := 8) rfl) rfl
theorem qn_J0 : Cond.initialized RJ0 ∈ ALLW := inT1 (List.mem_of_getElem? (i := 9) rfl) rfl
theorem qn_J1 : Cond.initialized RJ1 ∈ ALLW := inT1 (List.mem_of_getElem? (i := 10) rfl) rfl
theorem qn_J3 : Cond.initialized RJ3 ∈ ALLW := inT1 (List.mem_of_getElem? (i := 11) rfl) rfl
theorem qn_J2 : Cond.initialized RJ2 ∈ ALLW := inT1 (List.mem_of_getElem? (i := 12) rfl) rfl
theorem ql_L_7 : Cond.classLink RL 7 RX3 ∈ ALLW := inT1 (List.mem_of_getElem? (i := 13) rfl) rfl
theorem qa_X3 : Cond.instantiable RX3 8 ∈ ALLW := inT1 (List.mem_of_getElem? (i := 14) rfl) rfl
theorem qm_L_9 : Cond.methodLink RL 9 yX3_init ∈ ALLW := inT1 (List.mem_of_getElem? (i := 15) rfl) rfl
theorem qi_X3_init : Cond.instanceMethod yX3_init ∈ ALLW := inT1 (List.mem_of_getElem? (i := 16) rfl) rfl
theorem qc_X3_init : Cond.code yX3_init cX3_init 2 none ∈ ALLW := inT1 (List.mem_of_getElem? (i := 17) rfl) rfl
theorem qm_X3_3 : Cond.methodLink RX3 3 objectInit ∈ ALLW := inT1 (List.mem_of_getElem? (i := 18) rfl) rfl
theorem qi_objectInit : Cond.instanceMethod objectInit ∈ ALLW := inT1 (List.mem_of_getElem? (i := 19) rfl) rfl
theorem qc_objectInit : Cond.code objectInit ⟨#[0xb1]⟩ 1 none ∈ ALLW := inT1 (List.mem_of_getElem? (i := 20) rfl) rfl
theorem ql_X3_9 : Cond.classLink RX3 9 RX1 ∈ ALLW := inT1 (List.mem_of_getElem? (i := 21) rfl) rfl
theorem qa_X1 : Cond.instantiable RX1 10 ∈ ALLW := inT1 (List.mem_of_getElem? (i := 22) rfl) rfl
theorem qm_X3_11 : Cond.methodLink RX3 11 yX1_init ∈ ALLW := inT1 (List.mem_of_getElem? (i := 23) rfl) rfl
theorem qi_X1_init : Cond.instanceMethod yX1_init ∈ ALLW := inT1 (List.mem_of_getElem? (i := 24) rfl) rfl
theorem qc_X1_init : Cond.code yX1_init cX1_init 2 none ∈ ALLW := inT1 (List.mem_of_getElem? (i := 25) rfl) rfl
theorem qm_X1_3 : Cond.methodLink RX1 3 objectInit ∈ ALLW := inT1 (List.mem_of_getElem? (i := 26) rfl) rfl
theorem qf_X1_9 : Cond.fieldLink RX1 9 "PennyLedge$Shelf" "kinds" "[I" ∈ ALLW := inT1 (List.mem_of_getElem? (i := 27) rfl) rfl
theorem qf_X3_70 : Cond.fieldLink RX3 70 "PennyLedge$Shelf" "kinds" "[I" ∈ ALLW := inT1 (List.mem_of_getElem? (i := 28) rfl) rfl
theorem qf_X1_15 : Cond.fieldLink RX1 15 "PennyLedge$Shelf" "places" "[I" ∈ ALLW := inT1 (List.mem_of_getElem? (i := 29) rfl) rfl
theorem qf_X3_92 : Cond.fieldLink RX3 92 "PennyLedge$Shelf" "places" "[I" ∈ ALLW := inT1 (List.mem_of_getElem? (i := 30) rfl) rfl
theorem qf_X1_18 : Cond.fieldLink RX1 18 "PennyLedge$Shelf" "heights" "[I" ∈ ALLW := inT1 (List.mem_of_getElem? (i := 31) rfl) rfl
theorem qf_X3_106 : Cond.fieldLink RX3 106 "PennyLedge$Shelf" "heights" "[I" ∈ ALLW := inT1 (List.mem_of_getElem? (i := 32) rfl) rfl
theorem qf_X1_21 : Cond.fieldLink RX1 21 "PennyLedge$Shelf" "stacks" "[I" ∈ ALLW := inT1 (List.mem_of_getElem? (i := 33) rfl) rfl
theorem qf_X3_112 : Cond.fieldLink RX3 112 "PennyLedge$Shelf" "stacks" "[I" ∈ ALLW := inT1 (List.mem_of_getElem? (i := 34) rfl) rfl
theorem qf_X1_24 : Cond.fieldLink RX1 24 "PennyLedge$Shelf" "settings" "[I" ∈ ALLW := inT1 (List.mem_of_getElem? (i := 35) rfl) rfl
theorem qf_X3_118 : Cond.fieldLink RX3 118 "PennyLedge$Shelf" "settings" "[I" ∈ ALLW := inT1 (List.mem_of_getElem? (i := 36) rfl) rfl
theorem qf_X1_27 : Cond.fieldLink RX1 27 "PennyLedge$Shelf" "spots" "[I" ∈ ALLW := inT1 (List.mem_of_getElem? (i := 37) rfl) rfl
theorem qf_X3_242 : Cond.fieldLink RX3 242 "PennyLedge$Shelf" "spots" "[I" ∈ ALLW := inT1 (List.mem_of_getElem? (i := 38) rfl) rfl
theorem qf_X1_30 : Cond.fieldLink RX1 30 "PennyLedge$Shelf" "coins" "I" ∈ ALLW := inT1 (List.mem_of_getElem? (i := 39) rfl) rfl
theorem qf_X3_56 : Cond.fieldLink RX3 56 "PennyLedge$Shelf" "coins" "I" ∈ ALLW := inT1 (List.mem_of_getElem? (i := 40) rfl) rfl
theorem qf_X1_34 : Cond.fieldLink RX1 34 "PennyLedge$Shelf" "beat" "I" ∈ ALLW := inT1 (List.mem_of_getElem? (i := 41) rfl) rfl
theorem qf_X3_141 : Cond.fieldLink RX3 141 "PennyLedge$Shelf" "beat" "I" ∈ ALLW := inT1 (List.mem_of_getElem? (i := 42) rfl) rfl
theorem qf_X1_37 : Cond.fieldLink RX1 37 "PennyLedge$Shelf" "dropped" "I" ∈ ALLW := inT1 (List.mem_of_getElem? (i := 43) rfl) rfl
theorem qf_X3_147 : Cond.fieldLink RX3 147 "PennyLedge$Shelf" "dropped" "I" ∈ ALLW := inT1 (List.mem_of_getElem? (i := 44) rfl) rfl
theorem qf_X1_40 : Cond.fieldLink RX1 40 "PennyLedge$Shelf" "z" "I" ∈ ALLW := inT1 (List.mem_of_getElem? (i := 45) rfl) rfl
theorem qf_X3_229 : Cond.fieldLink RX3 229 "PennyLedge$Shelf" "z" "I" ∈ ALLW := inT1 (List.mem_of_getElem? (i := 46) rfl) rfl
theorem ql_X3_30 : Cond.classLink RX3 30 RX2 ∈ ALLW := inT1 (List.mem_of_getElem? (i := 70) rfl) rfl
theorem qa_X2 : Cond.instantiable RX2 6 ∈ ALLW := inT1 (List.mem_of_getElem? (i := 71) rfl) rfl
theorem qm_X3_32 : Cond.methodLink RX3 32 yX2_init ∈ ALLW := inT1 (List.mem_of_getElem? (i := 72) rfl) rfl
theorem qi_X2_init : Cond.instanceMethod yX2_init ∈ ALLW := inT1 (List.mem_of_getElem? (i := 73) rfl) rfl
theorem qc_X2_init : Cond.code yX2_init cX2_init 1 none ∈ ALLW := inT1 (List.mem_of_getElem? (i := 74) rfl) rfl
theorem qm_X2_3 : Cond.methodLink RX2 3 objectInit ∈ ALLW := inT1 (List.mem_of_getElem? (i := 75) rfl) rfl
theorem qf_X2_9 : Cond.fieldLink RX2 9 "PennyLedge$Tape" "bytes" "[I" ∈ ALLW := inT1 (List.mem_of_getElem? (i := 76) rfl) rfl
theorem qf_X2_15 : Cond.fieldLink RX2 15 "PennyLedge$Tape" "length" "I" ∈ ALLW := inT1 (List.mem_of_getElem? (i := 77) rfl) rfl
theorem qf_X3_232 : Cond.fieldLink RX3 232 "PennyLedge$Tape" "length" "I" ∈ ALLW := inT1 (List.mem_of_getElem? (i := 78) rfl) rfl
theorem qf_X2_19 : Cond.fieldLink RX2 19 "PennyLedge$Tape" "token" "I" ∈ ALLW := inT1 (List.mem_of_getElem? (i := 79) rfl) rfl
theorem qf_X3_307 : Cond.fieldLink RX3 307 "PennyLedge$Tape" "token" "I" ∈ ALLW := inT1 (List.mem_of_getElem? (i := 80) rfl) rfl
theorem qf_X2_22 : Cond.fieldLink RX2 22 "PennyLedge$Tape" "start" "I" ∈ ALLW := inT1 (List.mem_of_getElem? (i := 81) rfl) rfl
theorem qf_X3_304 : Cond.fieldLink RX3 304 "PennyLedge$Tape" "start" "I" ∈ ALLW := inT1 (List.mem_of_getElem? (i := 82) rfl) rfl
theorem qf_X2_25 : Cond.fieldLink RX2 25 "PennyLedge$Tape" "behind" "I" ∈ ALLW := inT1 (List.mem_of_getElem? (i := 83) rfl) rfl
theorem qf_X2_28 : Cond.fieldLink RX2 28 "PennyLedge$Tape" "value" "I" ∈ ALLW := inT1 (List.mem_of_getElem? (i := 84) rfl) rfl
theorem qf_X3_330 : Cond.fieldLink RX3 330 "PennyLedge$Tape" "value" "I" ∈ ALLW := inT1 (List.mem_of_getElem? (i := 85) rfl) rfl
theorem ql_X3_37 : Cond.classLink RX3 37 RX0 ∈ ALLW := inT1 (List.mem_of_getElem? (i := 99) rfl) rfl
theorem qa_X0 : Cond.instantiable RX0 3 ∈ ALLW := inT1 (List.mem_of_getElem? (i := 101) rfl) rfl
theorem qm_X3_47 : Cond.methodLink RX3 47 yX0_init ∈ ALLW := inT1 (List.mem_of_getElem? (i := 102) rfl) rfl
theorem qi_X0_init : Cond.instanceMethod yX0_init ∈ ALLW := inT1 (List.mem_of_getElem? (i := 103) rfl) rfl
theorem qc_X0_init : Cond.code yX0_init cX0_init 1 none ∈ ALLW := inT1 (List.mem_of_getElem? (i := 104) rfl) rfl
theorem qm_X0_3 : Cond.methodLink RX0 3 objectInit ∈ ALLW := inT1 (List.mem_of_getElem? (i := 105) rfl) rfl
theorem qf_X0_9 : Cond.fieldLink RX0 9 "PennyLedge$Sheet" "numbers" "[I" ∈ ALLW := inT1 (List.mem_of_getElem? (i := 106) rfl) rfl
theorem qf_X3_267 : Cond.fieldLink RX3 267 "PennyLedge$Sheet" "numbers" "[I" ∈ ALLW := inT1 (List.mem_of_getElem? (i := 107) rfl) rfl
theorem qf_X0_15 : Cond.fieldLink RX0 15 "PennyLedge$Sheet" "bits" "I" ∈ ALLW := inT1 (List.mem_of_getElem? (i := 108) rfl) rfl
theorem qf_X3_260 : Cond.fieldLink RX3 260 "PennyLedge$Sheet" "bits" "I" ∈ ALLW := inT1 (List.mem_of_getElem? (i := 109) rfl) rfl
theorem qf_X0_19 : Cond.fieldLink RX0 19 "PennyLedge$Sheet" "size" "I" ∈ ALLW := inT1 (List.mem_of_getElem? (i := 110) rfl) rfl
theorem qf_X3_257 : Cond.fieldLink RX3 257 "PennyLedge$Sheet" "size" "I" ∈ ALLW := inT1 (List.mem_of_getElem? (i := 111) rfl) rfl
theorem qf_X3_12 : Cond.fieldLink RX3 12 "PennyLedge" "shelf" "LPennyLedge$Shelf;" ∈ ALLW := inT1 (List.mem_of_getElem? (i := 119) rfl) rfl
theorem qf_X3_16 : Cond.fieldLink RX3 16 "PennyLedge" "kept" "LPennyLedge$Shelf;" ∈ ALLW := inT1 (List.mem_of_getElem? (i := 120) rfl) rfl
theorem qf_X3_19 : Cond.fieldLink RX3 19 "PennyLedge" "isKept" "Z" ∈ ALLW := inT1 (List.mem_of_getElem? (i := 121) rfl) rfl
theorem qf_X3_23 : Cond.fieldLink RX3 23 "PennyLedge" "trial" "LPennyLedge$Shelf;" ∈ ALLW := inT1 (List.mem_of_getElem? (i := 122) rfl) rfl
theorem qf_X3_26 : Cond.fieldLink RX3 26 "PennyLedge" "levels" "[LPennyLedge$Shelf;" ∈ ALLW := inT1 (List.mem_of_getElem? (i := 123) rfl) rfl
theorem qf_X3_33 : Cond.fieldLink RX3 33 "PennyLedge" "tape" "LPennyLedge$Tape;" ∈ ALLW := inT1 (List.mem_of_getElem? (i := 124) rfl) rfl
theorem qf_X3_39 : Cond.fieldLink RX3 39 "PennyLedge" "sheets" "[LPennyLedge$Sheet;" ∈ ALLW := inT1 (List.mem_of_getElem? (i := 125) rfl) rfl
theorem qf_X3_43 : Cond.fieldLink RX3 43 "PennyLedge" "findings" "[I" ∈ ALLW := inT1 (List.mem_of_getElem? (i := 126) rfl) rfl
theorem qm_L_13 : Cond.methodLink RL 13 yX3_coin ∈ ALLW := inT1 (List.mem_of_getElem? (i := 144) rfl) rfl
theorem qi_X3_coin : Cond.instanceMethod yX3_coin ∈ ALLW := inT1 (List.mem_of_getElem? (i := 145) rfl) rfl
theorem qs_X3_coin : Cond.selects RX3 yX3_coin yX3_coin ∈ ALLW := inT1 (List.mem_of_getElem? (i := 146) rfl) rfl
theorem qc_X3_coin : Cond.code yX3_coin cX3_coin 2 (some .int) ∈ ALLW := inT1 (List.mem_of_getElem? (i := 147) rfl) rfl
theorem qm_X3_48 : Cond.methodLink RX3 48 yX3_isKind ∈ ALLW := inT1 (List.mem_of_getElem? (i := 148) rfl) rfl
theorem qs_X3_isKind : Cond.static yX3_isKind ∈ ALLW := inT1 (List.mem_of_getElem? (i := 149) rfl) rfl
theorem qc_X3_isKind : Cond.code yX3_isKind cX3_isKind 1 (some .boolean) ∈ ALLW := inT1 (List.mem_of_getElem? (i := 150) rfl) rfl
theorem qm_X3_66 : Cond.methodLink RX3 66 yX3_within ∈ ALLW := inT1 (List.mem_of_getElem? (i := 151) rfl) rfl
theorem qs_X3_within : Cond.static yX3_within ∈ ALLW := inT1 (List.mem_of_getElem? (i := 152) rfl) rfl
theorem qc_X3_within : Cond.code yX3_within cX3_within 3 (some .boolean) ∈ ALLW := inT1 (List.mem_of_getElem? (i := 153) rfl) rfl
theorem qm_X3_52 : Cond.methodLink RX3 52 yX3_found ∈ ALLW := inT1 (List.mem_of_getElem? (i := 154) rfl) rfl
theorem qi_X3_found : Cond.instanceMethod yX3_found ∈ ALLW := inT1 (List.mem_of_getElem? (i := 156) rfl) rfl
theorem qc_X3_found : Cond.code yX3_found cX3_found 2 (some .int) ∈ ALLW := inT1 (List.mem_of_getElem? (i := 157) rfl) rfl
theorem qk_X3_290 : Cond.constant RX3 290 (-1000001) ∈ ALLW := inT1 (List.mem_of_getElem? (i := 158) rfl) rfl
theorem qm_X3_60 : Cond.methodLink RX3 60 yX1_mint ∈ ALLW := inT1 (List.mem_of_getElem? (i := 159) rfl) rfl
theorem qi_X1_mint : Cond.instanceMethod yX1_mint ∈ ALLW := inT1 (List.mem_of_getElem? (i := 160) rfl) rfl
theorem qs_X1_mint : Cond.selects RX1 yX1_mint yX1_mint ∈ ALLW := inT1 (List.mem_of_getElem? (i := 161) rfl) rfl
theorem qc_X1_mint : Cond.code yX1_mint cX1_mint 3 (some .int) ∈ ALLW := inT1 (List.mem_of_getElem? (i := 162) rfl) rfl
theorem qm_L_18 : Cond.methodLink RL 18 yX3_of ∈ ALLW := inT1 (List.mem_of_getElem? (i := 163) rfl) rfl
theorem qi_X3_of : Cond.instanceMethod yX3_of ∈ ALLW := inT1 (List.mem_of_getElem? (i := 164) rfl) rfl
theorem qs_X3_of : Cond.selects RX3 yX3_of yX3_of ∈ ALLW := inT1 (List.mem_of_getElem? (i := 165) rfl) rfl
theorem qc_X3_of : Cond.code yX3_of cX3_of 4 (some .int) ∈ ALLW := inT1 (List.mem_of_getElem? (i := 166) rfl) rfl
theorem qm_X3_63 : Cond.methodLink RX3 63 yX3_isCoin ∈ ALLW := inT1 (List.mem_of_getElem? (i := 167) rfl) rfl
theorem qi_X3_isCoin : Cond.instanceMethod yX3_isCoin ∈ ALLW := inT1 (List.mem_of_getElem? (i := 169) rfl) rfl
theorem qc_X3_isCoin : Cond.code yX3_isCoin cX3_isCoin 2 (some .boolean) ∈ ALLW := inT1 (List.mem_of_getElem? (i := 170) rfl) rfl
theorem qm_X3_73 : Cond.methodLink RX3 73 yX1_toldPlace ∈ ALLW := inT1 (List.mem_of_getElem? (i := 171) rfl) rfl
theorem qi_X1_toldPlace : Cond.instanceMethod yX1_toldPlace ∈ ALLW := inT1 (List.mem_of_getElem? (i := 172) rfl) rfl
theorem qs_X1_toldPlace : Cond.selects RX1 yX1_toldPlace yX1_toldPlace ∈ ALLW := inT1 (List.mem_of_getElem? (i := 173) rfl) rfl
theorem qc_X1_toldPlace : Cond.code yX1_toldPlace cX1_toldPlace 3 (some .int) ∈ ALLW := inT1 (List.mem_of_getElem? (i := 174) rfl) rfl
theorem qm_X1_49 : Cond.methodLink RX1 49 yX1_isOnShelf ∈ ALLW := inT1 (List.mem_of_getElem? (i := 175) rfl) rfl
theorem qi_X1_isOnShelf : Cond.instanceMethod yX1_isOnShelf ∈ ALLW := inT1 (List.mem_of_getElem? (i := 176) rfl) rfl
theorem qs_X1_isOnShelf : Cond.selects RX1 yX1_isOnShelf yX1_isOnShelf ∈ ALLW := inT1 (List.mem_of_getElem? (i := 177) rfl) rfl
theorem qc_X1_isOnShelf : Cond.code yX1_isOnShelf cX1_isOnShelf 2 (some .boolean) ∈ ALLW := inT1 (List.mem_of_getElem? (i := 178) rfl) rfl
theorem qm_X3_76 : Cond.methodLink RX3 76 yX1_depthOf ∈ ALLW := inT1 (List.mem_of_getElem? (i := 179) rfl) rfl
theorem qi_X1_depthOf : Cond.instanceMethod yX1_depthOf ∈ ALLW := inT1 (List.mem_of_getElem? (i := 180) rfl) rfl
theorem qs_X1_depthOf : Cond.selects RX1 yX1_depthOf yX1_depthOf ∈ ALLW := inT1 (List.mem_of_getElem? (i := 181) rfl) rfl
theorem qc_X1_depthOf : Cond.code yX1_depthOf cX1_depthOf 4 (some .int) ∈ ALLW := inT1 (List.mem_of_getElem? (i := 182) rfl) rfl
theorem qf_X3_79 : Cond.fieldLink RX3 79 "PennyLedge" "WORTH" "[I" ∈ ALLW := inT1 (List.mem_of_getElem? (i := 183) rfl) rfl
theorem qf_X3_82 : Cond.fieldLink RX3 82 "PennyLedge" "WEIGHS" "[I" ∈ ALLW := inT1 (List.mem_of_getElem? (i := 185) rfl) rfl
theorem qf_X3_85 : Cond.fieldLink RX3 85 "PennyLedge" "SLIDES" "[I" ∈ ALLW := inT1 (List.mem_of_getElem? (i := 187) rfl) rfl
theorem qm_L_23 : Cond.methodLink RL 23 yX3_change ∈ ALLW := inT1 (List.mem_of_getElem? (i := 189) rfl) rfl
theorem qi_X3_change : Cond.instanceMethod yX3_change ∈ ALLW := inT1 (List.mem_of_getElem? (i := 190) rfl) rfl
theorem qs_X3_change : Cond.selects RX3 yX3_change yX3_change ∈ ALLW := inT1 (List.mem_of_getElem? (i := 191) rfl) rfl
theorem qc_X3_change : Cond.code yX3_change cX3_change 4 (some .int) ∈ ALLW := inT1 (List.mem_of_getElem? (i := 192) rfl) rfl
theorem qm_L_27 : Cond.methodLink RL 27 yX3_lay ∈ ALLW := inT1 (List.mem_of_getElem? (i := 193) rfl) rfl
theorem qi_X3_lay : Cond.instanceMethod yX3_lay ∈ ALLW := inT1 (List.mem_of_getElem? (i := 194) rfl) rfl
theorem qs_X3_lay : Cond.selects RX3 yX3_lay yX3_lay ∈ ALLW := inT1 (List.mem_of_getElem? (i := 195) rfl) rfl
theorem qc_X3_lay : Cond.code yX3_lay cX3_lay 5 (some .int) ∈ ALLW := inT1 (List.mem_of_getElem? (i := 196) rfl) rfl
theorem qm_X3_88 : Cond.methodLink RX3 88 yX3_isCell ∈ ALLW := inT1 (List.mem_of_getElem? (i := 197) rfl) rfl
theorem qs_X3_isCell : Cond.static yX3_isCell ∈ ALLW := inT1 (List.mem_of_getElem? (i := 198) rfl) rfl
theorem qc_X3_isCell : Cond.code yX3_isCell cX3_isCell 2 (some .boolean) ∈ ALLW := inT1 (List.mem_of_getElem? (i := 199) rfl) rfl
theorem qm_X3_121 : Cond.methodLink RX3 121 yX3_isColumn ∈ ALLW := inT1 (List.mem_of_getElem? (i := 200) rfl) rfl
theorem qs_X3_isColumn : Cond.static yX3_isColumn ∈ ALLW := inT1 (List.mem_of_getElem? (i := 201) rfl) rfl
theorem qc_X3_isColumn : Cond.code yX3_isColumn cX3_isColumn 1 (some .boolean) ∈ ALLW := inT1 (List.mem_of_getElem? (i := 202) rfl) rfl
theorem qm_X3_95 : Cond.methodLink RX3 95 yX3_cellOf ∈ ALLW := inT1 (List.mem_of_getElem? (i := 203) rfl) rfl
theorem qs_X3_cellOf : Cond.static yX3_cellOf ∈ ALLW := inT1 (List.mem_of_getElem? (i := 204) rfl) rfl
theorem qc_X3_cellOf : Cond.code yX3_cellOf cX3_cellOf 2 (some .int) ∈ ALLW := inT1 (List.mem_of_getElem? (i := 205) rfl) rfl
theorem qm_X3_99 : Cond.methodLink RX3 99 yX1_hasRoom ∈ ALLW := inT1 (List.mem_of_getElem? (i := 206) rfl) rfl
theorem qi_X1_hasRoom : Cond.instanceMethod yX1_hasRoom ∈ ALLW := inT1 (List.mem_of_getElem? (i := 207) rfl) rfl
theorem qs_X1_hasRoom : Cond.selects RX1 yX1_hasRoom yX1_hasRoom ∈ ALLW := inT1 (List.mem_of_getElem? (i := 208) rfl) rfl
theorem qc_X1_hasRoom : Cond.code yX1_hasRoom cX1_hasRoom 2 (some .boolean) ∈ ALLW := inT1 (List.mem_of_getElem? (i := 209) rfl) rfl
theorem qm_X3_102 : Cond.methodLink RX3 102 yX1_put ∈ ALLW := inT1 (List.mem_of_getElem? (i := 210) rfl) rfl
theorem qi_X1_put : Cond.instanceMethod yX1_put ∈ ALLW := inT1 (List.mem_of_getElem? (i := 211) rfl) rfl
theorem qs_X1_put : Cond.selects RX1 yX1_put yX1_put ∈ ALLW := inT1 (List.mem_of_getElem? (i := 212) rfl) rfl
theorem qc_X1_put : Cond.code yX1_put cX1_put 3 none ∈ ALLW := inT1 (List.mem_of_getElem? (i := 213) rfl) rfl
theorem qm_L_32 : Cond.methodLink RL 32 yX3_lift ∈ ALLW := inT1 (List.mem_of_getElem? (i := 214) rfl) rfl
theorem qi_X3_lift : Cond.instanceMethod yX3_lift ∈ ALLW := inT1 (List.mem_of_getElem? (i := 215) rfl) rfl
theorem qs_X3_lift : Cond.selects RX3 yX3_lift yX3_lift ∈ ALLW := inT1 (List.mem_of_getElem? (i := 216) rfl) rfl
theorem qc_X3_lift : Cond.code yX3_lift cX3_lift 4 (some .int) ∈ ALLW := inT1 (List.mem_of_getElem? (i := 217) rfl) rfl
theorem qm_X3_109 : Cond.methodLink RX3 109 yX1_pull ∈ ALLW := inT1 (List.mem_of_getElem? (i := 218) rfl) rfl
theorem qi_X1_pull : Cond.instanceMethod yX1_pull ∈ ALLW := inT1 (List.mem_of_getElem? (i := 219) rfl) rfl
theorem qs_X1_pull : Cond.selects RX1 yX1_pull yX1_pull ∈ ALLW := inT1 (List.mem_of_getElem? (i := 220) rfl) rfl
theorem qc_X1_pull : Cond.code yX1_pull cX1_pull 3 (some .int) ∈ ALLW := inT1 (List.mem_of_getElem? (i := 221) rfl) rfl
theorem qm_L_36 : Cond.methodLink RL 36 yX3_height ∈ ALLW := inT1 (List.mem_of_getElem? (i := 222) rfl) rfl
theorem qi_X3_height : Cond.instanceMethod yX3_height ∈ ALLW := inT1 (List.mem_of_getElem? (i := 223) rfl) rfl
theorem qs_X3_height : Cond.selects RX3 yX3_height yX3_height ∈ ALLW := inT1 (List.mem_of_getElem? (i := 224) rfl) rfl
theorem qc_X3_height : Cond.code yX3_height cX3_height 3 (some .int) ∈ ALLW := inT1 (List.mem_of_getElem? (i := 225) rfl) rfl
theorem qm_L_40 : Cond.methodLink RL 40 yX3_seen ∈ ALLW := inT1 (List.mem_of_getElem? (i := 226) rfl) rfl
theorem qi_X3_seen : Cond.instanceMethod yX3_seen ∈ ALLW := inT1 (List.mem_of_getElem? (i := 227) rfl) rfl
theorem qs_X3_seen : Cond.selects RX3 yX3_seen yX3_seen ∈ ALLW := inT1 (List.mem_of_getElem? (i := 228) rfl) rfl
theorem qc_X3_seen : Cond.code yX3_seen cX3_seen 5 (some .int) ∈ ALLW := inT1 (List.mem_of_getElem? (i := 229) rfl) rfl
theorem qm_L_44 : Cond.methodLink RL 44 yX3_set ∈ ALLW := inT1 (List.mem_of_getElem? (i := 230) rfl) rfl
theorem qi_X3_set : Cond.instanceMethod yX3_set ∈ ALLW := inT1 (List.mem_of_getElem? (i := 231) rfl) rfl
theorem qs_X3_set : Cond.selects RX3 yX3_set yX3_set ∈ ALLW := inT1 (List.mem_of_getElem? (i := 232) rfl) rfl
theorem qc_X3_set : Cond.code yX3_set cX3_set 4 (some .int) ∈ ALLW := inT1 (List.mem_of_getElem? (i := 233) rfl) rfl
theorem qm_X3_115 : Cond.methodLink RX3 115 yX3_isSetting ∈ ALLW := inT1 (List.mem_of_getElem? (i := 234) rfl) rfl
theorem qs_X3_isSetting : Cond.static yX3_isSetting ∈ ALLW := inT1 (List.mem_of_getElem? (i := 235) rfl) rfl
theorem qc_X3_isSetting : Cond.code yX3_isSetting cX3_isSetting 2 (some .boolean) ∈ ALLW := inT1 (List.mem_of_getElem? (i := 236) rfl) rfl
theorem qf_X3_223 : Cond.fieldLink RX3 223 "PennyLedge" "LEAST_SETTING" "[I" ∈ ALLW := inT1 (List.mem_of_getElem? (i := 237) rfl) rfl
theorem qf_X3_226 : Cond.fieldLink RX3 226 "PennyLedge" "MOST_SETTING" "[I" ∈ ALLW := inT1 (List.mem_of_getElem? (i := 239) rfl) rfl
theorem qm_L_48 : Cond.methodLink RL 48 yX3_drop ∈ ALLW := inT2 (List.mem_of_getElem? (i := 1) rfl) rfl
theorem qi_X3_drop : Cond.instanceMethod yX3_drop ∈ ALLW := inT2 (List.mem_of_getElem? (i := 2) rfl) rfl
theorem qs_X3_drop : Cond.selects RX3 yX3_drop yX3_drop ∈ ALLW := inT2 (List.mem_of_getElem? (i := 3) rfl) rfl
theorem qc_X3_drop : Cond.code yX3_drop cX3_drop 4 (some .int) ∈ ALLW := inT2 (List.mem_of_getElem? (i := 4) rfl) rfl
theorem qm_X3_124 : Cond.methodLink RX3 124 yX3_passesEnd ∈ ALLW := inT2 (List.mem_of_getElem? (i := 5) rfl) rfl
theorem qi_X3_passesEnd : Cond.instanceMethod yX3_passesEnd ∈ ALLW := inT2 (List.mem_of_getElem? (i := 7) rfl) rfl
theorem qc_X3_passesEnd : Cond.code yX3_passesEnd cX3_passesEnd 2 (some .boolean) ∈ ALLW := inT2 (List.mem_of_getElem? (i := 8) rfl) rfl
theorem qm_X3_127 : Cond.methodLink RX3 127 yX1_gain ∈ ALLW := inT2 (List.mem_of_getElem? (i := 9) rfl) rfl
theorem qi_X1_gain : Cond.instanceMethod yX1_gain ∈ ALLW := inT2 (List.mem_of_getElem? (i := 10) rfl) rfl
theorem qs_X1_gain : Cond.selects RX1 yX1_gain yX1_gain ∈ ALLW := inT2 (List.mem_of_getElem? (i := 11) rfl) rfl
theorem qc_X1_gain : Cond.code yX1_gain cX1_gain 1 (some .int) ∈ ALLW := inT2 (List.mem_of_getElem? (i := 12) rfl) rfl
theorem qm_X1_68 : Cond.methodLink RX1 68 yX1_worthAt ∈ ALLW := inT2 (List.mem_of_getElem? (i := 13) rfl) rfl
theorem qi_X1_worthAt : Cond.instanceMethod yX1_worthAt ∈ ALLW := inT2 (List.mem_of_getElem? (i := 14) rfl) rfl
theorem qs_X1_worthAt : Cond.selects RX1 yX1_worthAt yX1_worthAt ∈ ALLW := inT2 (List.mem_of_getElem? (i := 15) rfl) rfl
theorem qc_X1_worthAt : Cond.code yX1_worthAt cX1_worthAt 2 (some .int) ∈ ALLW := inT2 (List.mem_of_getElem? (i := 16) rfl) rfl
theorem qm_X1_53 : Cond.methodLink RX1 53 yX1_bitsAt ∈ ALLW := inT2 (List.mem_of_getElem? (i := 17) rfl) rfl
theorem qi_X1_bitsAt : Cond.instanceMethod yX1_bitsAt ∈ ALLW := inT2 (List.mem_of_getElem? (i := 18) rfl) rfl
theorem qs_X1_bitsAt : Cond.selects RX1 yX1_bitsAt yX1_bitsAt ∈ ALLW := inT2 (List.mem_of_getElem? (i := 19) rfl) rfl
theorem qc_X1_bitsAt : Cond.code yX1_bitsAt cX1_bitsAt 4 (some .int) ∈ ALLW := inT2 (List.mem_of_getElem? (i := 20) rfl) rfl
theorem qm_X1_57 : Cond.methodLink RX1 57 yX1_worthOf ∈ ALLW := inT2 (List.mem_of_getElem? (i := 21) rfl) rfl
theorem qi_X1_worthOf : Cond.instanceMethod yX1_worthOf ∈ ALLW := inT2 (List.mem_of_getElem? (i := 22) rfl) rfl
theorem qs_X1_worthOf : Cond.selects RX1 yX1_worthOf yX1_worthOf ∈ ALLW := inT2 (List.mem_of_getElem? (i := 23) rfl) rfl
theorem qc_X1_worthOf : Cond.code yX1_worthOf cX1_worthOf 4 (some .int) ∈ ALLW := inT2 (List.mem_of_getElem? (i := 24) rfl) rfl
theorem qm_X3_131 : Cond.methodLink RX3 131 yX1_release ∈ ALLW := inT2 (List.mem_of_getElem? (i := 26) rfl) rfl
theorem qi_X1_release : Cond.instanceMethod yX1_release ∈ ALLW := inT2 (List.mem_of_getElem? (i := 27) rfl) rfl
theorem qs_X1_release : Cond.selects RX1 yX1_release yX1_release ∈ ALLW := inT2 (List.mem_of_getElem? (i := 28) rfl) rfl
theorem qc_X1_release : Cond.code yX1_release cX1_release 4 none ∈ ALLW := inT2 (List.mem_of_getElem? (i := 29) rfl) rfl
theorem qm_X1_96 : Cond.methodLink RX1 96 yX1_put ∈ ALLW := inT2 (List.mem_of_getElem? (i := 30) rfl) rfl
theorem qm_X1_122 : Cond.methodLink RX1 122 yX1_passBeat ∈ ALLW := inT2 (List.mem_of_getElem? (i := 31) rfl) rfl
theorem qi_X1_passBeat : Cond.instanceMethod yX1_passBeat ∈ ALLW := inT2 (List.mem_of_getElem? (i := 32) rfl) rfl
theorem qs_X1_passBeat : Cond.selects RX1 yX1_passBeat yX1_passBeat ∈ ALLW := inT2 (List.mem_of_getElem? (i := 33) rfl) rfl
theorem qc_X1_passBeat : Cond.code yX1_passBeat cX1_passBeat 4 (some .boolean) ∈ ALLW := inT2 (List.mem_of_getElem? (i := 34) rfl) rfl
theorem qm_X1_115 : Cond.methodLink RX1 115 yX1_pushAll ∈ ALLW := inT2 (List.mem_of_getElem? (i := 35) rfl) rfl
theorem qi_X1_pushAll : Cond.instanceMethod yX1_pushAll ∈ ALLW := inT2 (List.mem_of_getElem? (i := 36) rfl) rfl
theorem qs_X1_pushAll : Cond.selects RX1 yX1_pushAll yX1_pushAll ∈ ALLW := inT2 (List.mem_of_getElem? (i := 37) rfl) rfl
theorem qc_X1_pushAll : Cond.code yX1_pushAll cX1_pushAll 3 (some .boolean) ∈ ALLW := inT2 (List.mem_of_getElem? (i := 38) rfl) rfl
theorem qm_X1_102 : Cond.methodLink RX1 102 yX1_pushMoves ∈ ALLW := inT2 (List.mem_of_getElem? (i := 39) rfl) rfl
theorem qi_X1_pushMoves : Cond.instanceMethod yX1_pushMoves ∈ ALLW := inT2 (List.mem_of_getElem? (i := 40) rfl) rfl
theorem qs_X1_pushMoves : Cond.selects RX1 yX1_pushMoves yX1_pushMoves ∈ ALLW := inT2 (List.mem_of_getElem? (i := 41) rfl) rfl
theorem qc_X1_pushMoves : Cond.code yX1_pushMoves cX1_pushMoves 3 (some .boolean) ∈ ALLW := inT2 (List.mem_of_getElem? (i := 42) rfl) rfl
theorem qm_X1_80 : Cond.methodLink RX1 80 yX1_runWeight ∈ ALLW := inT2 (List.mem_of_getElem? (i := 43) rfl) rfl
theorem qi_X1_runWeight : Cond.instanceMethod yX1_runWeight ∈ ALLW := inT2 (List.mem_of_getElem? (i := 44) rfl) rfl
theorem qs_X1_runWeight : Cond.selects RX1 yX1_runWeight yX1_runWeight ∈ ALLW := inT2 (List.mem_of_getElem? (i := 45) rfl) rfl
theorem qc_X1_runWeight : Cond.code yX1_runWeight cX1_runWeight 6 (some .int) ∈ ALLW := inT2 (List.mem_of_getElem? (i := 46) rfl) rfl
theorem qm_X1_105 : Cond.methodLink RX1 105 yX1_pushRun ∈ ALLW := inT2 (List.mem_of_getElem? (i := 48) rfl) rfl
theorem qi_X1_pushRun : Cond.instanceMethod yX1_pushRun ∈ ALLW := inT2 (List.mem_of_getElem? (i := 49) rfl) rfl
theorem qs_X1_pushRun : Cond.selects RX1 yX1_pushRun yX1_pushRun ∈ ALLW := inT2 (List.mem_of_getElem? (i := 50) rfl) rfl
theorem qc_X1_pushRun : Cond.code yX1_pushRun cX1_pushRun 6 none ∈ ALLW := inT2 (List.mem_of_getElem? (i := 51) rfl) rfl
theorem qm_X1_99 : Cond.methodLink RX1 99 yX1_runRows ∈ ALLW := inT2 (List.mem_of_getElem? (i := 52) rfl) rfl
theorem qi_X1_runRows : Cond.instanceMethod yX1_runRows ∈ ALLW := inT2 (List.mem_of_getElem? (i := 53) rfl) rfl
theorem qs_X1_runRows : Cond.selects RX1 yX1_runRows yX1_runRows ∈ ALLW := inT2 (List.mem_of_getElem? (i := 54) rfl) rfl
theorem qc_X1_runRows : Cond.code yX1_runRows cX1_runRows 3 (some .int) ∈ ALLW := inT2 (List.mem_of_getElem? (i := 55) rfl) rfl
theorem qm_X1_92 : Cond.methodLink RX1 92 yX1_goOver ∈ ALLW := inT2 (List.mem_of_getElem? (i := 56) rfl) rfl
theorem qi_X1_goOver : Cond.instanceMethod yX1_goOver ∈ ALLW := inT2 (List.mem_of_getElem? (i := 57) rfl) rfl
theorem qs_X1_goOver : Cond.selects RX1 yX1_goOver yX1_goOver ∈ ALLW := inT2 (List.mem_of_getElem? (i := 58) rfl) rfl
theorem qc_X1_goOver : Cond.code yX1_goOver cX1_goOver 4 none ∈ ALLW := inT2 (List.mem_of_getElem? (i := 59) rfl) rfl
theorem qm_X1_119 : Cond.methodLink RX1 119 yX1_slideAll ∈ ALLW := inT2 (List.mem_of_getElem? (i := 60) rfl) rfl
theorem qi_X1_slideAll : Cond.instanceMethod yX1_slideAll ∈ ALLW := inT2 (List.mem_of_getElem? (i := 61) rfl) rfl
theorem qs_X1_slideAll : Cond.selects RX1 yX1_slideAll yX1_slideAll ∈ ALLW := inT2 (List.mem_of_getElem? (i := 62) rfl) rfl
theorem qc_X1_slideAll : Cond.code yX1_slideAll cX1_slideAll 4 (some .boolean) ∈ ALLW := inT2 (List.mem_of_getElem? (i := 63) rfl) rfl
theorem qm_X1_109 : Cond.methodLink RX1 109 yX1_leans ∈ ALLW := inT2 (List.mem_of_getElem? (i := 64) rfl) rfl
theorem qi_X1_leans : Cond.instanceMethod yX1_leans ∈ ALLW := inT2 (List.mem_of_getElem? (i := 65) rfl) rfl
theorem qs_X1_leans : Cond.selects RX1 yX1_leans yX1_leans ∈ ALLW := inT2 (List.mem_of_getElem? (i := 66) rfl) rfl
theorem qc_X1_leans : Cond.code yX1_leans cX1_leans 4 (some .boolean) ∈ ALLW := inT2 (List.mem_of_getElem? (i := 67) rfl) rfl
theorem qm_X1_83 : Cond.methodLink RX1 83 yX1_topSlides ∈ ALLW := inT2 (List.mem_of_getElem? (i := 68) rfl) rfl
theorem qi_X1_topSlides : Cond.instanceMethod yX1_topSlides ∈ ALLW := inT2 (List.mem_of_getElem? (i := 69) rfl) rfl
theorem qs_X1_topSlides : Cond.selects RX1 yX1_topSlides yX1_topSlides ∈ ALLW := inT2 (List.mem_of_getElem? (i := 70) rfl) rfl
theorem qc_X1_topSlides : Cond.code yX1_topSlides cX1_topSlides 3 (some .boolean) ∈ ALLW := inT2 (List.mem_of_getElem? (i := 71) rfl) rfl
theorem qm_X1_112 : Cond.methodLink RX1 112 yX1_slideTop ∈ ALLW := inT2 (List.mem_of_getElem? (i := 73) rfl) rfl
theorem qi_X1_slideTop : Cond.instanceMethod yX1_slideTop ∈ ALLW := inT2 (List.mem_of_getElem? (i := 74) rfl) rfl
theorem qs_X1_slideTop : Cond.selects RX1 yX1_slideTop yX1_slideTop ∈ ALLW := inT2 (List.mem_of_getElem? (i := 75) rfl) rfl
theorem qc_X1_slideTop : Cond.code yX1_slideTop cX1_slideTop 3 none ∈ ALLW := inT2 (List.mem_of_getElem? (i := 76) rfl) rfl
theorem qm_X1_89 : Cond.methodLink RX1 89 yX1_pull ∈ ALLW := inT2 (List.mem_of_getElem? (i := 77) rfl) rfl
theorem qm_L_52 : Cond.methodLink RL 52 yX3_beats ∈ ALLW := inT2 (List.mem_of_getElem? (i := 78) rfl) rfl
theorem qi_X3_beats : Cond.instanceMethod yX3_beats ∈ ALLW := inT2 (List.mem_of_getElem? (i := 79) rfl) rfl
theorem qs_X3_beats : Cond.selects RX3 yX3_beats yX3_beats ∈ ALLW := inT2 (List.mem_of_getElem? (i := 80) rfl) rfl
theorem qc_X3_beats : Cond.code yX3_beats cX3_beats 3 (some .int) ∈ ALLW := inT2 (List.mem_of_getElem? (i := 81) rfl) rfl
theorem qm_X3_134 : Cond.methodLink RX3 134 yX1_goneOver ∈ ALLW := inT2 (List.mem_of_getElem? (i := 82) rfl) rfl
theorem qi_X1_goneOver : Cond.instanceMethod yX1_goneOver ∈ ALLW := inT2 (List.mem_of_getElem? (i := 83) rfl) rfl
theorem qs_X1_goneOver : Cond.selects RX1 yX1_goneOver yX1_goneOver ∈ ALLW := inT2 (List.mem_of_getElem? (i := 84) rfl) rfl
theorem qc_X1_goneOver : Cond.code yX1_goneOver cX1_goneOver 1 (some .int) ∈ ALLW := inT2 (List.mem_of_getElem? (i := 85) rfl) rfl
theorem qm_X1_63 : Cond.methodLink RX1 63 yJ6_bitCount_0f7a4 ∈ ALLW := inT2 (List.mem_of_getElem? (i := 86) rfl) rfl
theorem qs_J6_bitCount_0f7a4 : Cond.static yJ6_bitCount_0f7a4 ∈ ALLW := inT2 (List.mem_of_getElem? (i := 87) rfl) rfl
theorem qc_J6_bitCount_0f7a4 : Cond.code yJ6_bitCount_0f7a4 cJ6_bitCount_0f7a4 1 (some .int) ∈ ALLW := inT2 (List.mem_of_getElem? (i := 88) rfl) rfl
theorem qk_J6_265 : Cond.constant RJ6 265 (1431655765) ∈ ALLW := inT2 (List.mem_of_getElem? (i := 89) rfl) rfl
theorem qk_J6_266 : Cond.constant RJ6 266 (858993459) ∈ ALLW := inT2 (List.mem_of_getElem? (i := 90) rfl) rfl
theorem qk_J6_267 : Cond.constant RJ6 267 (252645135) ∈ ALLW := inT2 (List.mem_of_getElem? (i := 91) rfl) rfl
theorem qm_X3_137 : Cond.methodLink RX3 137 yX1_advance ∈ ALLW := inT2 (List.mem_of_getElem? (i := 92) rfl) rfl
theorem qi_X1_advance : Cond.instanceMethod yX1_advance ∈ ALLW := inT2 (List.mem_of_getElem? (i := 93) rfl) rfl
theorem qs_X1_advance : Cond.selects RX1 yX1_advance yX1_advance ∈ ALLW := inT2 (List.mem_of_getElem? (i := 94) rfl) rfl
theorem qc_X1_advance : Cond.code yX1_advance cX1_advance 4 none ∈ ALLW := inT2 (List.mem_of_getElem? (i := 95) rfl) rfl
theorem qm_L_56 : Cond.methodLink RL 56 yX3_now ∈ ALLW := inT2 (List.mem_of_getElem? (i := 96) rfl) rfl
theorem qi_X3_now : Cond.instanceMethod yX3_now ∈ ALLW := inT2 (List.mem_of_getElem? (i := 97) rfl) rfl
theorem qs_X3_now : Cond.selects RX3 yX3_now yX3_now ∈ ALLW := inT2 (List.mem_of_getElem? (i := 98) rfl) rfl
theorem qc_X3_now : Cond.code yX3_now cX3_now 2 (some .int) ∈ ALLW := inT2 (List.mem_of_getElem? (i := 99) rfl) rfl
theorem qm_X3_144 : Cond.methodLink RX3 144 yX1_bitsAt ∈ ALLW := inT2 (List.mem_of_getElem? (i := 100) rfl) rfl
theorem qm_X3_150 : Cond.methodLink RX3 150 yX1_worthAt ∈ ALLW := inT2 (List.mem_of_getElem? (i := 101) rfl) rfl
theorem qm_L_60 : Cond.methodLink RL 60 yX3_run ∈ ALLW := inT2 (List.mem_of_getElem? (i := 102) rfl) rfl
theorem qi_X3_run : Cond.instanceMethod yX3_run ∈ ALLW := inT2 (List.mem_of_getElem? (i := 103) rfl) rfl
theorem qs_X3_run : Cond.selects RX3 yX3_run yX3_run ∈ ALLW := inT2 (List.mem_of_getElem? (i := 104) rfl) rfl
theorem qc_X3_run : Cond.code yX3_run cX3_run 2 (some .int) ∈ ALLW := inT2 (List.mem_of_getElem? (i := 105) rfl) rfl
theorem qm_X3_153 : Cond.methodLink RX3 153 yX1_runRows ∈ ALLW := inT2 (List.mem_of_getElem? (i := 106) rfl) rfl
theorem qm_L_64 : Cond.methodLink RL 64 yX3_weight ∈ ALLW := inT2 (List.mem_of_getElem? (i := 107) rfl) rfl
theorem qi_X3_weight : Cond.instanceMethod yX3_weight ∈ ALLW := inT2 (List.mem_of_getElem? (i := 108) rfl) rfl
theorem qs_X3_weight : Cond.selects RX3 yX3_weight yX3_weight ∈ ALLW := inT2 (List.mem_of_getElem? (i := 109) rfl) rfl
theorem qc_X3_weight : Cond.code yX3_weight cX3_weight 2 (some .int) ∈ ALLW := inT2 (List.mem_of_getElem? (i := 110) rfl) rfl
theorem qm_X3_156 : Cond.methodLink RX3 156 yX1_runWeight ∈ ALLW := inT2 (List.mem_of_getElem? (i := 111) rfl) rfl
theorem qm_L_68 : Cond.methodLink RL 68 yX3_moved ∈ ALLW := inT2 (List.mem_of_getElem? (i := 112) rfl) rfl
theorem qi_X3_moved : Cond.instanceMethod yX3_moved ∈ ALLW := inT2 (List.mem_of_getElem? (i := 113) rfl) rfl
theorem qs_X3_moved : Cond.selects RX3 yX3_moved yX3_moved ∈ ALLW := inT2 (List.mem_of_getElem? (i := 114) rfl) rfl
theorem qc_X3_moved : Cond.code yX3_moved cX3_moved 3 (some .int) ∈ ALLW := inT2 (List.mem_of_getElem? (i := 115) rfl) rfl
theorem qm_X3_159 : Cond.methodLink RX3 159 yX1_pushMoves ∈ ALLW := inT2 (List.mem_of_getElem? (i := 116) rfl) rfl
theorem qm_L_73 : Cond.methodLink RL 73 yX3_leaning ∈ ALLW := inT2 (List.mem_of_getElem? (i := 117) rfl) rfl
theorem qi_X3_leaning : Cond.instanceMethod yX3_leaning ∈ ALLW := inT2 (List.mem_of_getElem? (i := 118) rfl) rfl
theorem qs_X3_leaning : Cond.selects RX3 yX3_leaning yX3_leaning ∈ ALLW := inT2 (List.mem_of_getElem? (i := 119) rfl) rfl
theorem qc_X3_leaning : Cond.code yX3_leaning cX3_leaning 3 (some .int) ∈ ALLW := inT2 (List.mem_of_getElem? (i := 120) rfl) rfl
theorem qm_X3_162 : Cond.methodLink RX3 162 yX1_leans ∈ ALLW := inT2 (List.mem_of_getElem? (i := 121) rfl) rfl
theorem qm_L_77 : Cond.methodLink RL 77 yX3_ahead ∈ ALLW := inT2 (List.mem_of_getElem? (i := 122) rfl) rfl
theorem qi_X3_ahead : Cond.instanceMethod yX3_ahead ∈ ALLW := inT2 (List.mem_of_getElem? (i := 123) rfl) rfl
theorem qs_X3_ahead : Cond.selects RX3 yX3_ahead yX3_ahead ∈ ALLW := inT2 (List.mem_of_getElem? (i := 124) rfl) rfl
theorem qc_X3_ahead : Cond.code yX3_ahead cX3_ahead 3 (some .int) ∈ ALLW := inT2 (List.mem_of_getElem? (i := 125) rfl) rfl
theorem qm_X3_165 : Cond.methodLink RX3 165 yX1_become ∈ ALLW := inT2 (List.mem_of_getElem? (i := 126) rfl) rfl
theorem qi_X1_become : Cond.instanceMethod yX1_become ∈ ALLW := inT2 (List.mem_of_getElem? (i := 127) rfl) rfl
theorem qs_X1_become : Cond.selects RX1 yX1_become yX1_become ∈ ALLW := inT2 (List.mem_of_getElem? (i := 128) rfl) rfl
theorem qc_X1_become : Cond.code yX1_become cX1_become 2 none ∈ ALLW := inT2 (List.mem_of_getElem? (i := 129) rfl) rfl
theorem qm_X1_43 : Cond.methodLink RX1 43 arraycopyName ∈ ALLW := inT2 (List.mem_of_getElem? (i := 130) rfl) rfl
theorem qs_arraycopyName : Cond.static arraycopyName ∈ ALLW := inT2 (List.mem_of_getElem? (i := 131) rfl) rfl
theorem qn_arraycopyName : Cond.native arraycopyName ∈ ALLW := inT2 (List.mem_of_getElem? (i := 132) rfl) rfl
theorem qm_X3_169 : Cond.methodLink RX3 169 yX1_bitsOnShelf ∈ ALLW := inT2 (List.mem_of_getElem? (i := 133) rfl) rfl
theorem qi_X1_bitsOnShelf : Cond.instanceMethod yX1_bitsOnShelf ∈ ALLW := inT2 (List.mem_of_getElem? (i := 134) rfl) rfl
theorem qs_X1_bitsOnShelf : Cond.selects RX1 yX1_bitsOnShelf yX1_bitsOnShelf ∈ ALLW := inT2 (List.mem_of_getElem? (i := 135) rfl) rfl
theorem qc_X1_bitsOnShelf : Cond.code yX1_bitsOnShelf cX1_bitsOnShelf 3 (some .int) ∈ ALLW := inT2 (List.mem_of_getElem? (i := 136) rfl) rfl
theorem qm_X3_172 : Cond.methodLink RX3 172 yX1_highest ∈ ALLW := inT2 (List.mem_of_getElem? (i := 137) rfl) rfl
theorem qi_X1_highest : Cond.instanceMethod yX1_highest ∈ ALLW := inT2 (List.mem_of_getElem? (i := 138) rfl) rfl
theorem qs_X1_highest : Cond.selects RX1 yX1_highest yX1_highest ∈ ALLW := inT2 (List.mem_of_getElem? (i := 139) rfl) rfl
theorem qc_X1_highest : Cond.code yX1_highest cX1_highest 3 (some .int) ∈ ALLW := inT2 (List.mem_of_getElem? (i := 140) rfl) rfl
theorem qm_X1_71 : Cond.methodLink RX1 71 yJ9_max_7cf53 ∈ ALLW := inT2 (List.mem_of_getElem? (i := 141) rfl) rfl
theorem qs_J9_max_7cf53 : Cond.static yJ9_max_7cf53 ∈ ALLW := inT2 (List.mem_of_getElem? (i := 142) rfl) rfl
theorem qc_J9_max_7cf53 : Cond.code yJ9_max_7cf53 cJ9_max_7cf53 2 (some .int) ∈ ALLW := inT2 (List.mem_of_getElem? (i := 143) rfl) rfl
theorem qm_L_81 : Cond.methodLink RL 81 yX3_falls ∈ ALLW := inT2 (List.mem_of_getElem? (i := 144) rfl) rfl
theorem qi_X3_falls : Cond.instanceMethod yX3_falls ∈ ALLW := inT2 (List.mem_of_getElem? (i := 145) rfl) rfl
theorem qs_X3_falls : Cond.selects RX3 yX3_falls yX3_falls ∈ ALLW := inT2 (List.mem_of_getElem? (i := 146) rfl) rfl
theorem qc_X3_falls : Cond.code yX3_falls cX3_falls 3 (some .int) ∈ ALLW := inT2 (List.mem_of_getElem? (i := 147) rfl) rfl
theorem qm_X3_175 : Cond.methodLink RX3 175 yX1_isOnShelf ∈ ALLW := inT2 (List.mem_of_getElem? (i := 148) rfl) rfl
theorem qm_L_85 : Cond.methodLink RL 85 yX3_rest ∈ ALLW := inT2 (List.mem_of_getElem? (i := 149) rfl) rfl
theorem qi_X3_rest : Cond.instanceMethod yX3_rest ∈ ALLW := inT2 (List.mem_of_getElem? (i := 150) rfl) rfl
theorem qs_X3_rest : Cond.selects RX3 yX3_rest yX3_rest ∈ ALLW := inT2 (List.mem_of_getElem? (i := 151) rfl) rfl
theorem qc_X3_rest : Cond.code yX3_rest cX3_rest 4 (some .int) ∈ ALLW := inT2 (List.mem_of_getElem? (i := 152) rfl) rfl
theorem qm_X3_178 : Cond.methodLink RX3 178 yX1_passBeat ∈ ALLW := inT2 (List.mem_of_getElem? (i := 153) rfl) rfl
theorem qm_L_89 : Cond.methodLink RL 89 yX3_brings ∈ ALLW := inT2 (List.mem_of_getElem? (i := 154) rfl) rfl
theorem qi_X3_brings : Cond.instanceMethod yX3_brings ∈ ALLW := inT2 (List.mem_of_getElem? (i := 155) rfl) rfl
theorem qs_X3_brings : Cond.selects RX3 yX3_brings yX3_brings ∈ ALLW := inT2 (List.mem_of_getElem? (i := 156) rfl) rfl
theorem qc_X3_brings : Cond.code yX3_brings cX3_brings 4 (some .int) ∈ ALLW := inT2 (List.mem_of_getElem? (i := 157) rfl) rfl
theorem qm_X3_182 : Cond.methodLink RX3 182 yX3_isSearched ∈ ALLW := inT2 (List.mem_of_getElem? (i := 158) rfl) rfl
theorem qi_X3_isSearched : Cond.instanceMethod yX3_isSearched ∈ ALLW := inT2 (List.mem_of_getElem? (i := 160) rfl) rfl
theorem qc_X3_isSearched : Cond.code yX3_isSearched cX3_isSearched 2 (some .boolean) ∈ ALLW := inT2 (List.mem_of_getElem? (i := 161) rfl) rfl
theorem qm_X3_185 : Cond.methodLink RX3 185 yX3_gainBy ∈ ALLW := inT2 (List.mem_of_getElem? (i := 162) rfl) rfl
theorem qi_X3_gainBy : Cond.instanceMethod yX3_gainBy ∈ ALLW := inT2 (List.mem_of_getElem? (i := 164) rfl) rfl
theorem qc_X3_gainBy : Cond.code yX3_gainBy cX3_gainBy 5 (some .int) ∈ ALLW := inT2 (List.mem_of_getElem? (i := 165) rfl) rfl
theorem qm_L_93 : Cond.methodLink RL 93 yX3_best ∈ ALLW := inT2 (List.mem_of_getElem? (i := 166) rfl) rfl
theorem qi_X3_best : Cond.instanceMethod yX3_best ∈ ALLW := inT2 (List.mem_of_getElem? (i := 167) rfl) rfl
theorem qs_X3_best : Cond.selects RX3 yX3_best yX3_best ∈ ALLW := inT2 (List.mem_of_getElem? (i := 168) rfl) rfl
theorem qc_X3_best : Cond.code yX3_best cX3_best 7 (some .int) ∈ ALLW := inT2 (List.mem_of_getElem? (i := 169) rfl) rfl
theorem qm_L_97 : Cond.methodLink RL 97 yX3_wait ∈ ALLW := inT2 (List.mem_of_getElem? (i := 170) rfl) rfl
theorem qi_X3_wait : Cond.instanceMethod yX3_wait ∈ ALLW := inT2 (List.mem_of_getElem? (i := 171) rfl) rfl
theorem qs_X3_wait : Cond.selects RX3 yX3_wait yX3_wait ∈ ALLW := inT2 (List.mem_of_getElem? (i := 172) rfl) rfl
theorem qc_X3_wait : Cond.code yX3_wait cX3_wait 9 (some .int) ∈ ALLW := inT2 (List.mem_of_getElem? (i := 173) rfl) rfl
theorem qm_L_101 : Cond.methodLink RL 101 yX3_three ∈ ALLW := inT2 (List.mem_of_getElem? (i := 174) rfl) rfl
theorem qi_X3_three : Cond.instanceMethod yX3_three ∈ ALLW := inT2 (List.mem_of_getElem? (i := 175) rfl) rfl
theorem qs_X3_three : Cond.selects RX3 yX3_three yX3_three ∈ ALLW := inT2 (List.mem_of_getElem? (i := 176) rfl) rfl
theorem qc_X3_three : Cond.code yX3_three cX3_three 7 (some .int) ∈ ALLW := inT2 (List.mem_of_getElem? (i := 177) rfl) rfl
theorem qm_X3_189 : Cond.methodLink RX3 189 yX3_canDrop ∈ ALLW := inT2 (List.mem_of_getElem? (i := 178) rfl) rfl
theorem qi_X3_canDrop : Cond.instanceMethod yX3_canDrop ∈ ALLW := inT2 (List.mem_of_getElem? (i := 180) rfl) rfl
theorem qc_X3_canDrop : Cond.code yX3_canDrop cX3_canDrop 2 (some .boolean) ∈ ALLW := inT2 (List.mem_of_getElem? (i := 181) rfl) rfl
theorem qm_X3_276 : Cond.methodLink RX3 276 yJ6_bitCount_0f7a4 ∈ ALLW := inT2 (List.mem_of_getElem? (i := 182) rfl) rfl
theorem qm_X3_192 : Cond.methodLink RX3 192 yX3_gainOfThree ∈ ALLW := inT2 (List.mem_of_getElem? (i := 183) rfl) rfl
theorem qi_X3_gainOfThree : Cond.instanceMethod yX3_gainOfThree ∈ ALLW := inT2 (List.mem_of_getElem? (i := 185) rfl) rfl
theorem qc_X3_gainOfThree : Cond.code yX3_gainOfThree cX3_gainOfThree 3 (some .int) ∈ ALLW := inT2 (List.mem_of_getElem? (i := 186) rfl) rfl
theorem qm_X3_210 : Cond.methodLink RX3 210 yX3_walk ∈ ALLW := inT2 (List.mem_of_getElem? (i := 187) rfl) rfl
theorem qi_X3_walk : Cond.instanceMethod yX3_walk ∈ ALLW := inT2 (List.mem_of_getElem? (i := 189) rfl) rfl
theorem qc_X3_walk : Cond.code yX3_walk cX3_walk 5 (some (.object "PennyLedge$Shelf")) ∈ ALLW := inT2 (List.mem_of_getElem? (i := 190) rfl) rfl
theorem qf_X3_195 : Cond.fieldLink RX3 195 "PennyLedge" "WAYS" "[I" ∈ ALLW := inT2 (List.mem_of_getElem? (i := 191) rfl) rfl
theorem qm_X3_214 : Cond.methodLink RX3 214 yX1_leastInHand ∈ ALLW := inT2 (List.mem_of_getElem? (i := 193) rfl) rfl
theorem qi_X1_leastInHand : Cond.instanceMethod yX1_leastInHand ∈ ALLW := inT2 (List.mem_of_getElem? (i := 194) rfl) rfl
theorem qs_X1_leastInHand : Cond.selects RX1 yX1_leastInHand yX1_leastInHand ∈ ALLW := inT2 (List.mem_of_getElem? (i := 195) rfl) rfl
theorem qc_X1_leastInHand : Cond.code yX1_leastInHand cX1_leastInHand 2 (some .int) ∈ ALLW := inT2 (List.mem_of_getElem? (i := 196) rfl) rfl
theorem qm_X3_198 : Cond.methodLink RX3 198 yX3_columnOf ∈ ALLW := inT2 (List.mem_of_getElem? (i := 197) rfl) rfl
theorem qs_X3_columnOf : Cond.static yX3_columnOf ∈ ALLW := inT2 (List.mem_of_getElem? (i := 198) rfl) rfl
theorem qc_X3_columnOf : Cond.code yX3_columnOf cX3_columnOf 3 (some .int) ∈ ALLW := inT2 (List.mem_of_getElem? (i := 199) rfl) rfl
theorem qm_L_105 : Cond.methodLink RL 105 yX3_threeBring ∈ ALLW := inT2 (List.mem_of_getElem? (i := 200) rfl) rfl
theorem qi_X3_threeBring : Cond.instanceMethod yX3_threeBring ∈ ALLW := inT2 (List.mem_of_getElem? (i := 201) rfl) rfl
theorem qs_X3_threeBring : Cond.selects RX3 yX3_threeBring yX3_threeBring ∈ ALLW := inT2 (List.mem_of_getElem? (i := 202) rfl) rfl
theorem qc_X3_threeBring : Cond.code yX3_threeBring cX3_threeBring 4 (some .int) ∈ ALLW := inT2 (List.mem_of_getElem? (i := 203) rfl) rfl
theorem qm_X3_202 : Cond.methodLink RX3 202 yJ9_max_7cf53 ∈ ALLW := inT2 (List.mem_of_getElem? (i := 204) rfl) rfl
theorem qm_L_109 : Cond.methodLink RL 109 yX3_soonest ∈ ALLW := inT2 (List.mem_of_getElem? (i := 205) rfl) rfl
theorem qi_X3_soonest : Cond.instanceMethod yX3_soonest ∈ ALLW := inT2 (List.mem_of_getElem? (i := 206) rfl) rfl
theorem qs_X3_soonest : Cond.selects RX3 yX3_soonest yX3_soonest ∈ ALLW := inT2 (List.mem_of_getElem? (i := 207) rfl) rfl
theorem qc_X3_soonest : Cond.code yX3_soonest cX3_soonest 3 (some .int) ∈ ALLW := inT2 (List.mem_of_getElem? (i := 208) rfl) rfl
theorem qm_X3_207 : Cond.methodLink RX3 207 yX3_soonestWay ∈ ALLW := inT2 (List.mem_of_getElem? (i := 209) rfl) rfl
theorem qi_X3_soonestWay : Cond.instanceMethod yX3_soonestWay ∈ ALLW := inT2 (List.mem_of_getElem? (i := 211) rfl) rfl
theorem qc_X3_soonestWay : Cond.code yX3_soonestWay cX3_soonestWay 4 (some .int) ∈ ALLW := inT2 (List.mem_of_getElem? (i := 212) rfl) rfl
theorem qm_L_113 : Cond.methodLink RL 113 yX3_firstFor ∈ ALLW := inT2 (List.mem_of_getElem? (i := 213) rfl) rfl
theorem qi_X3_firstFor : Cond.instanceMethod yX3_firstFor ∈ ALLW := inT2 (List.mem_of_getElem? (i := 214) rfl) rfl
theorem qs_X3_firstFor : Cond.selects RX3 yX3_firstFor yX3_firstFor ∈ ALLW := inT2 (List.mem_of_getElem? (i := 215) rfl) rfl
theorem qc_X3_firstFor : Cond.code yX3_firstFor cX3_firstFor 5 (some .int) ∈ ALLW := inT2 (List.mem_of_getElem? (i := 216) rfl) rfl
theorem qm_L_117 : Cond.methodLink RL 117 yX3_ways ∈ ALLW := inT2 (List.mem_of_getElem? (i := 217) rfl) rfl
theorem qi_X3_ways : Cond.instanceMethod yX3_ways ∈ ALLW := inT2 (List.mem_of_getElem? (i := 218) rfl) rfl
theorem qs_X3_ways : Cond.selects RX3 yX3_ways yX3_ways ∈ ALLW := inT2 (List.mem_of_getElem? (i := 219) rfl) rfl
theorem qc_X3_ways : Cond.code yX3_ways cX3_ways 5 (some .long) ∈ ALLW := inT2 (List.mem_of_getElem? (i := 220) rfl) rfl
theorem qm_L_122 : Cond.methodLink RL 122 yX3_total ∈ ALLW := inT2 (List.mem_of_getElem? (i := 221) rfl) rfl
theorem qi_X3_total : Cond.instanceMethod yX3_total ∈ ALLW := inT2 (List.mem_of_getElem? (i := 222) rfl) rfl
theorem qs_X3_total : Cond.selects RX3 yX3_total yX3_total ∈ ALLW := inT2 (List.mem_of_getElem? (i := 223) rfl) rfl
theorem qc_X3_total : Cond.code yX3_total cX3_total 6 (some .long) ∈ ALLW := inT2 (List.mem_of_getElem? (i := 224) rfl) rfl
theorem qm_L_127 : Cond.methodLink RL 127 yX3_luck ∈ ALLW := inT2 (List.mem_of_getElem? (i := 225) rfl) rfl
theorem qi_X3_luck : Cond.instanceMethod yX3_luck ∈ ALLW := inT2 (List.mem_of_getElem? (i := 226) rfl) rfl
theorem qs_X3_luck : Cond.selects RX3 yX3_luck yX3_luck ∈ ALLW := inT2 (List.mem_of_getElem? (i := 227) rfl) rfl
theorem qc_X3_luck : Cond.code yX3_luck cX3_luck 5 (some .long) ∈ ALLW := inT2 (List.mem_of_getElem? (i := 228) rfl) rfl
theorem qm_L_131 : Cond.methodLink RL 131 yX3_play ∈ ALLW := inT2 (List.mem_of_getElem? (i := 229) rfl) rfl
theorem qi_X3_play : Cond.instanceMethod yX3_play ∈ ALLW := inT2 (List.mem_of_getElem? (i := 230) rfl) rfl
theorem qs_X3_play : Cond.selects RX3 yX3_play yX3_play ∈ ALLW := inT2 (List.mem_of_getElem? (i := 231) rfl) rfl
theorem qc_X3_play : Cond.code yX3_play cX3_play 4 (some .int) ∈ ALLW := inT2 (List.mem_of_getElem? (i := 232) rfl) rfl
theorem qm_X3_217 : Cond.methodLink RX3 217 yX1_draw ∈ ALLW := inT2 (List.mem_of_getElem? (i := 233) rfl) rfl
theorem qi_X1_draw : Cond.instanceMethod yX1_draw ∈ ALLW := inT2 (List.mem_of_getElem? (i := 234) rfl) rfl
theorem qs_X1_draw : Cond.selects RX1 yX1_draw yX1_draw ∈ ALLW := inT2 (List.mem_of_getElem? (i := 235) rfl) rfl
theorem qc_X1_draw : Cond.code yX1_draw cX1_draw 1 (some .int) ∈ ALLW := inT2 (List.mem_of_getElem? (i := 236) rfl) rfl
theorem qk_X1_128 : Cond.constant RX1 128 (1103515245) ∈ ALLW := inT2 (List.mem_of_getElem? (i := 237) rfl) rfl
theorem qm_L_135 : Cond.methodLink RL 135 yX3_jolt ∈ ALLW := inT2 (List.mem_of_getElem? (i := 238) rfl) rfl
theorem qi_X3_jolt : Cond.instanceMethod yX3_jolt ∈ ALLW := inT2 (List.mem_of_getElem? (i := 239) rfl) rfl
theorem qs_X3_jolt : Cond.selects RX3 yX3_jolt yX3_jolt ∈ ALLW := inT3 (List.mem_of_getElem? (i := 0) rfl) rfl
theorem qc_X3_jolt : Cond.code yX3_jolt cX3_jolt 1 (some .int) ∈ ALLW := inT3 (List.mem_of_getElem? (i := 1) rfl) rfl
theorem qm_X3_220 : Cond.methodLink RX3 220 yX1_shake ∈ ALLW := inT3 (List.mem_of_getElem? (i := 2) rfl) rfl
theorem qi_X1_shake : Cond.instanceMethod yX1_shake ∈ ALLW := inT3 (List.mem_of_getElem? (i := 3) rfl) rfl
theorem qs_X1_shake : Cond.selects RX1 yX1_shake yX1_shake ∈ ALLW := inT3 (List.mem_of_getElem? (i := 4) rfl) rfl
theorem qc_X1_shake : Cond.code yX1_shake cX1_shake 5 (some .int) ∈ ALLW := inT3 (List.mem_of_getElem? (i := 5) rfl) rfl
theorem qm_X1_125 : Cond.methodLink RX1 125 yX1_hasRoom ∈ ALLW := inT3 (List.mem_of_getElem? (i := 6) rfl) rfl
theorem qm_L_139 : Cond.methodLink RL 139 yX3_jolted ∈ ALLW := inT3 (List.mem_of_getElem? (i := 7) rfl) rfl
theorem qi_X3_jolted : Cond.instanceMethod yX3_jolted ∈ ALLW := inT3 (List.mem_of_getElem? (i := 8) rfl) rfl
theorem qs_X3_jolted : Cond.selects RX3 yX3_jolted yX3_jolted ∈ ALLW := inT3 (List.mem_of_getElem? (i := 9) rfl) rfl
theorem qc_X3_jolted : Cond.code yX3_jolted cX3_jolted 1 (some .int) ∈ ALLW := inT3 (List.mem_of_getElem? (i := 10) rfl) rfl
theorem qm_L_143 : Cond.methodLink RL 143 yX3_stroke ∈ ALLW := inT3 (List.mem_of_getElem? (i := 11) rfl) rfl
theorem qi_X3_stroke : Cond.instanceMethod yX3_stroke ∈ ALLW := inT3 (List.mem_of_getElem? (i := 12) rfl) rfl
theorem qs_X3_stroke : Cond.selects RX3 yX3_stroke yX3_stroke ∈ ALLW := inT3 (List.mem_of_getElem? (i := 13) rfl) rfl
theorem qc_X3_stroke : Cond.code yX3_stroke cX3_stroke 6 (some .int) ∈ ALLW := inT3 (List.mem_of_getElem? (i := 14) rfl) rfl
theorem qm_L_147 : Cond.methodLink RL 147 yX3_force ∈ ALLW := inT3 (List.mem_of_getElem? (i := 15) rfl) rfl
theorem qi_X3_force : Cond.instanceMethod yX3_force ∈ ALLW := inT3 (List.mem_of_getElem? (i := 16) rfl) rfl
theorem qs_X3_force : Cond.selects RX3 yX3_force yX3_force ∈ ALLW := inT3 (List.mem_of_getElem? (i := 17) rfl) rfl
theorem qc_X3_force : Cond.code yX3_force cX3_force 4 (some .int) ∈ ALLW := inT3 (List.mem_of_getElem? (i := 18) rfl) rfl
theorem qm_L_151 : Cond.methodLink RL 151 yX3_kindFor ∈ ALLW := inT3 (List.mem_of_getElem? (i := 19) rfl) rfl
theorem qi_X3_kindFor : Cond.instanceMethod yX3_kindFor ∈ ALLW := inT3 (List.mem_of_getElem? (i := 20) rfl) rfl
theorem qs_X3_kindFor : Cond.selects RX3 yX3_kindFor yX3_kindFor ∈ ALLW := inT3 (List.mem_of_getElem? (i := 21) rfl) rfl
theorem qc_X3_kindFor : Cond.code yX3_kindFor cX3_kindFor 8 (some .int) ∈ ALLW := inT3 (List.mem_of_getElem? (i := 22) rfl) rfl
theorem qm_L_155 : Cond.methodLink RL 155 yX3_seed ∈ ALLW := inT3 (List.mem_of_getElem? (i := 23) rfl) rfl
theorem qi_X3_seed : Cond.instanceMethod yX3_seed ∈ ALLW := inT3 (List.mem_of_getElem? (i := 24) rfl) rfl
theorem qs_X3_seed : Cond.selects RX3 yX3_seed yX3_seed ∈ ALLW := inT3 (List.mem_of_getElem? (i := 25) rfl) rfl
theorem qc_X3_seed : Cond.code yX3_seed cX3_seed 3 (some .int) ∈ ALLW := inT3 (List.mem_of_getElem? (i := 26) rfl) rfl
theorem qm_L_159 : Cond.methodLink RL 159 yX3_feed ∈ ALLW := inT3 (List.mem_of_getElem? (i := 27) rfl) rfl
theorem qi_X3_feed : Cond.instanceMethod yX3_feed ∈ ALLW := inT3 (List.mem_of_getElem? (i := 28) rfl) rfl
theorem qs_X3_feed : Cond.selects RX3 yX3_feed yX3_feed ∈ ALLW := inT3 (List.mem_of_getElem? (i := 29) rfl) rfl
theorem qc_X3_feed : Cond.code yX3_feed cX3_feed 4 (some .int) ∈ ALLW := inT3 (List.mem_of_getElem? (i := 30) rfl) rfl
theorem qm_X3_235 : Cond.methodLink RX3 235 yX2_append ∈ ALLW := inT3 (List.mem_of_getElem? (i := 31) rfl) rfl
theorem qi_X2_append : Cond.instanceMethod yX2_append ∈ ALLW := inT3 (List.mem_of_getElem? (i := 32) rfl) rfl
theorem qs_X2_append : Cond.selects RX2 yX2_append yX2_append ∈ ALLW := inT3 (List.mem_of_getElem? (i := 33) rfl) rfl
theorem qc_X2_append : Cond.code yX2_append cX2_append 2 none ∈ ALLW := inT3 (List.mem_of_getElem? (i := 34) rfl) rfl
theorem qm_L_163 : Cond.methodLink RL 163 yX3_wipe ∈ ALLW := inT3 (List.mem_of_getElem? (i := 35) rfl) rfl
theorem qi_X3_wipe : Cond.instanceMethod yX3_wipe ∈ ALLW := inT3 (List.mem_of_getElem? (i := 36) rfl) rfl
theorem qs_X3_wipe : Cond.selects RX3 yX3_wipe yX3_wipe ∈ ALLW := inT3 (List.mem_of_getElem? (i := 37) rfl) rfl
theorem qc_X3_wipe : Cond.code yX3_wipe cX3_wipe 2 (some .int) ∈ ALLW := inT3 (List.mem_of_getElem? (i := 38) rfl) rfl
theorem qm_L_167 : Cond.methodLink RL 167 yX3_text ∈ ALLW := inT3 (List.mem_of_getElem? (i := 39) rfl) rfl
theorem qi_X3_text : Cond.instanceMethod yX3_text ∈ ALLW := inT3 (List.mem_of_getElem? (i := 40) rfl) rfl
theorem qs_X3_text : Cond.selects RX3 yX3_text yX3_text ∈ ALLW := inT3 (List.mem_of_getElem? (i := 41) rfl) rfl
theorem qc_X3_text : Cond.code yX3_text cX3_text 2 (some .int) ∈ ALLW := inT3 (List.mem_of_getElem? (i := 42) rfl) rfl
theorem qm_X3_238 : Cond.methodLink RX3 238 yX3_readText ∈ ALLW := inT3 (List.mem_of_getElem? (i := 43) rfl) rfl
theorem qi_X3_readText : Cond.instanceMethod yX3_readText ∈ ALLW := inT3 (List.mem_of_getElem? (i := 45) rfl) rfl
theorem qc_X3_readText : Cond.code yX3_readText cX3_readText 3 (some .int) ∈ ALLW := inT3 (List.mem_of_getElem? (i := 46) rfl) rfl
theorem qm_X3_294 : Cond.methodLink RX3 294 yX2_rewind ∈ ALLW := inT3 (List.mem_of_getElem? (i := 47) rfl) rfl
theorem qi_X2_rewind : Cond.instanceMethod yX2_rewind ∈ ALLW := inT3 (List.mem_of_getElem? (i := 48) rfl) rfl
theorem qs_X2_rewind : Cond.selects RX2 yX2_rewind yX2_rewind ∈ ALLW := inT3 (List.mem_of_getElem? (i := 49) rfl) rfl
theorem qc_X2_rewind : Cond.code yX2_rewind cX2_rewind 1 none ∈ ALLW := inT3 (List.mem_of_getElem? (i := 50) rfl) rfl
theorem qm_X3_297 : Cond.methodLink RX3 297 yX2_next ∈ ALLW := inT3 (List.mem_of_getElem? (i := 51) rfl) rfl
theorem qi_X2_next : Cond.instanceMethod yX2_next ∈ ALLW := inT3 (List.mem_of_getElem? (i := 52) rfl) rfl
theorem qs_X2_next : Cond.selects RX2 yX2_next yX2_next ∈ ALLW := inT3 (List.mem_of_getElem? (i := 53) rfl) rfl
theorem qc_X2_next : Cond.code yX2_next cX2_next 1 none ∈ ALLW := inT3 (List.mem_of_getElem? (i := 54) rfl) rfl
theorem qm_X2_31 : Cond.methodLink RX2 31 yX2_isLetter ∈ ALLW := inT3 (List.mem_of_getElem? (i := 55) rfl) rfl
theorem qs_X2_isLetter : Cond.static yX2_isLetter ∈ ALLW := inT3 (List.mem_of_getElem? (i := 56) rfl) rfl
theorem qc_X2_isLetter : Cond.code yX2_isLetter cX2_isLetter 1 (some .boolean) ∈ ALLW := inT3 (List.mem_of_getElem? (i := 57) rfl) rfl
theorem qm_X2_35 : Cond.methodLink RX2 35 yX2_readWord ∈ ALLW := inT3 (List.mem_of_getElem? (i := 58) rfl) rfl
theorem qi_X2_readWord : Cond.instanceMethod yX2_readWord ∈ ALLW := inT3 (List.mem_of_getElem? (i := 59) rfl) rfl
theorem qs_X2_readWord : Cond.selects RX2 yX2_readWord yX2_readWord ∈ ALLW := inT3 (List.mem_of_getElem? (i := 60) rfl) rfl
theorem qc_X2_readWord : Cond.code yX2_readWord cX2_readWord 1 none ∈ ALLW := inT3 (List.mem_of_getElem? (i := 61) rfl) rfl
theorem qm_X2_38 : Cond.methodLink RX2 38 yX2_isDigit ∈ ALLW := inT3 (List.mem_of_getElem? (i := 62) rfl) rfl
theorem qs_X2_isDigit : Cond.static yX2_isDigit ∈ ALLW := inT3 (List.mem_of_getElem? (i := 63) rfl) rfl
theorem qc_X2_isDigit : Cond.code yX2_isDigit cX2_isDigit 1 (some .boolean) ∈ ALLW := inT3 (List.mem_of_getElem? (i := 64) rfl) rfl
theorem qm_X2_41 : Cond.methodLink RX2 41 yX2_readNumber ∈ ALLW := inT3 (List.mem_of_getElem? (i := 65) rfl) rfl
theorem qi_X2_readNumber : Cond.instanceMethod yX2_readNumber ∈ ALLW := inT3 (List.mem_of_getElem? (i := 66) rfl) rfl
theorem qs_X2_readNumber : Cond.selects RX2 yX2_readNumber yX2_readNumber ∈ ALLW := inT3 (List.mem_of_getElem? (i := 67) rfl) rfl
theorem qc_X2_readNumber : Cond.code yX2_readNumber cX2_readNumber 1 none ∈ ALLW := inT3 (List.mem_of_getElem? (i := 68) rfl) rfl
theorem qm_X2_44 : Cond.methodLink RX2 44 yJ9_min_7cf53 ∈ ALLW := inT3 (List.mem_of_getElem? (i := 69) rfl) rfl
theorem qs_J9_min_7cf53 : Cond.static yJ9_min_7cf53 ∈ ALLW := inT3 (List.mem_of_getElem? (i := 70) rfl) rfl
theorem qc_J9_min_7cf53 : Cond.code yJ9_min_7cf53 cJ9_min_7cf53 2 (some .int) ∈ ALLW := inT3 (List.mem_of_getElem? (i := 71) rfl) rfl
theorem qm_X3_300 : Cond.methodLink RX3 300 yX3_readItem ∈ ALLW := inT3 (List.mem_of_getElem? (i := 72) rfl) rfl
theorem qi_X3_readItem : Cond.instanceMethod yX3_readItem ∈ ALLW := inT3 (List.mem_of_getElem? (i := 74) rfl) rfl
theorem qc_X3_readItem : Cond.code yX3_readItem cX3_readItem 3 (some .boolean) ∈ ALLW := inT3 (List.mem_of_getElem? (i := 75) rfl) rfl
theorem qm_X3_310 : Cond.methodLink RX3 310 yX3_kindWord ∈ ALLW := inT3 (List.mem_of_getElem? (i := 76) rfl) rfl
theorem qs_X3_kindWord : Cond.static yX3_kindWord ∈ ALLW := inT3 (List.mem_of_getElem? (i := 77) rfl) rfl
theorem qc_X3_kindWord : Cond.code yX3_kindWord cX3_kindWord 1 (some (.object "java/lang/String")) ∈ ALLW := inT3 (List.mem_of_getElem? (i := 78) rfl) rfl
theorem qm_X3_314 : Cond.methodLink RX3 314 yX2_isWord ∈ ALLW := inT3 (List.mem_of_getElem? (i := 86) rfl) rfl
theorem qi_X2_isWord : Cond.instanceMethod yX2_isWord ∈ ALLW := inT3 (List.mem_of_getElem? (i := 87) rfl) rfl
theorem qs_X2_isWord : Cond.selects RX2 yX2_isWord yX2_isWord ∈ ALLW := inT3 (List.mem_of_getElem? (i := 88) rfl) rfl
theorem qc_X2_isWord : Cond.code yX2_isWord cX2_isWord 3 (some .boolean) ∈ ALLW := inT3 (List.mem_of_getElem? (i := 89) rfl) rfl
theorem qm_X2_50 : Cond.methodLink RX2 50 yJ0_length_8abf5 ∈ ALLW := inT3 (List.mem_of_getElem? (i := 90) rfl) rfl
theorem qi_J0_length_8abf5 : Cond.instanceMethod yJ0_length_8abf5 ∈ ALLW := inT3 (List.mem_of_getElem? (i := 91) rfl) rfl
theorem qs_J0_length_8abf5 : Cond.selects RJ0 yJ0_length_8abf5 yJ0_length_8abf5 ∈ ALLW := inT3 (List.mem_of_getElem? (i := 92) rfl) rfl
theorem qc_J0_length_8abf5 : Cond.code yJ0_length_8abf5 cJ0_length_8abf5 1 (some .int) ∈ ALLW := inT3 (List.mem_of_getElem? (i := 93) rfl) rfl
theorem qm_J0_335 : Cond.methodLink RJ0 335 yJ0_coder_7d493 ∈ ALLW := inT3 (List.mem_of_getElem? (i := 94) rfl) rfl
theorem qi_J0_coder_7d493 : Cond.instanceMethod yJ0_coder_7d493 ∈ ALLW := inT3 (List.mem_of_getElem? (i := 95) rfl) rfl
theorem qs_J0_coder_7d493 : Cond.selects RJ0 yJ0_coder_7d493 yJ0_coder_7d493 ∈ ALLW := inT3 (List.mem_of_getElem? (i := 96) rfl) rfl
theorem qc_J0_coder_7d493 : Cond.code yJ0_coder_7d493 cJ0_coder_7d493 1 (some .byte) ∈ ALLW := inT3 (List.mem_of_getElem? (i := 97) rfl) rfl
theorem qf_J0_38 : Cond.fieldLink RJ0 38 "java/lang/String" "COMPACT_STRINGS" "Z" ∈ ALLW := inT3 (List.mem_of_getElem? (i := 98) rfl) rfl
theorem qm_X2_55 : Cond.methodLink RX2 55 yJ0_charAt_5068e ∈ ALLW := inT3 (List.mem_of_getElem? (i := 100) rfl) rfl
theorem qi_J0_charAt_5068e : Cond.instanceMethod yJ0_charAt_5068e ∈ ALLW := inT3 (List.mem_of_getElem? (i := 101) rfl) rfl
theorem qs_J0_charAt_5068e : Cond.selects RJ0 yJ0_charAt_5068e yJ0_charAt_5068e ∈ ALLW := inT3 (List.mem_of_getElem? (i := 102) rfl) rfl
theorem qc_J0_charAt_5068e : Cond.code yJ0_charAt_5068e cJ0_charAt_5068e 2 (some .char) ∈ ALLW := inT3 (List.mem_of_getElem? (i := 103) rfl) rfl
theorem qm_J0_492 : Cond.methodLink RJ0 492 yJ0_isLatin1_aae02 ∈ ALLW := inT3 (List.mem_of_getElem? (i := 104) rfl) rfl
theorem qi_J0_isLatin1_aae02 : Cond.instanceMethod yJ0_isLatin1_aae02 ∈ ALLW := inT3 (List.mem_of_getElem? (i := 105) rfl) rfl
theorem qs_J0_isLatin1_aae02 : Cond.selects RJ0 yJ0_isLatin1_aae02 yJ0_isLatin1_aae02 ∈ ALLW := inT3 (List.mem_of_getElem? (i := 106) rfl) rfl
theorem qc_J0_isLatin1_aae02 : Cond.code yJ0_isLatin1_aae02 cJ0_isLatin1_aae02 1 (some .boolean) ∈ ALLW := inT3 (List.mem_of_getElem? (i := 107) rfl) rfl
theorem qm_J0_495 : Cond.methodLink RJ0 495 yJ1_charAt_3b067 ∈ ALLW := inT3 (List.mem_of_getElem? (i := 108) rfl) rfl
theorem qs_J1_charAt_3b067 : Cond.static yJ1_charAt_3b067 ∈ ALLW := inT3 (List.mem_of_getElem? (i := 109) rfl) rfl
theorem qc_J1_charAt_3b067 : Cond.code yJ1_charAt_3b067 cJ1_charAt_3b067 2 (some .char) ∈ ALLW := inT3 (List.mem_of_getElem? (i := 110) rfl) rfl
theorem qm_J1_9 : Cond.methodLink RJ1 9 yJ0_checkIndex_df160 ∈ ALLW := inT3 (List.mem_of_getElem? (i := 111) rfl) rfl
theorem qs_J0_checkIndex_df160 : Cond.static yJ0_checkIndex_df160 ∈ ALLW := inT3 (List.mem_of_getElem? (i := 112) rfl) rfl
theorem qc_J0_checkIndex_df160 : Cond.code yJ0_checkIndex_df160 cJ0_checkIndex_df160 2 none ∈ ALLW := inT3 (List.mem_of_getElem? (i := 113) rfl) rfl
theorem qf_J0_1053 : Cond.fieldLink RJ0 1053 "jdk/internal/util/Preconditions" "SIOOBE_FORMATTER" "Ljava/util/function/BiFunction;" ∈ ALLW := inT3 (List.mem_of_getElem? (i := 114) rfl) rfl
theorem qm_J0_1059 : Cond.methodLink RJ0 1059 yJ3_checkIndex_8e157 ∈ ALLW := inT3 (List.mem_of_getElem? (i := 116) rfl) rfl
theorem qs_J3_checkIndex_8e157 : Cond.static yJ3_checkIndex_8e157 ∈ ALLW := inT3 (List.mem_of_getElem? (i := 117) rfl) rfl
theorem qc_J3_checkIndex_8e157 : Cond.code yJ3_checkIndex_8e157 cJ3_checkIndex_8e157 3 (some .int) ∈ ALLW := inT3 (List.mem_of_getElem? (i := 118) rfl) rfl
theorem qm_J0_498 : Cond.methodLink RJ0 498 yJ2_charAt_3b067 ∈ ALLW := inT3 (List.mem_of_getElem? (i := 119) rfl) rfl
theorem qs_J2_charAt_3b067 : Cond.static yJ2_charAt_3b067 ∈ ALLW := inT3 (List.mem_of_getElem? (i := 120) rfl) rfl
theorem qc_J2_charAt_3b067 : Cond.code yJ2_charAt_3b067 cJ2_charAt_3b067 2 (some .char) ∈ ALLW := inT3 (List.mem_of_getElem? (i := 121) rfl) rfl
theorem qm_J2_67 : Cond.methodLink RJ2 67 yJ2_checkIndex_2214a ∈ ALLW := inT3 (List.mem_of_getElem? (i := 122) rfl) rfl
theorem qs_J2_checkIndex_2214a : Cond.static yJ2_checkIndex_2214a ∈ ALLW := inT3 (List.mem_of_getElem? (i := 123) rfl) rfl
theorem qc_J2_checkIndex_2214a : Cond.code yJ2_checkIndex_2214a cJ2_checkIndex_2214a 2 none ∈ ALLW := inT3 (List.mem_of_getElem? (i := 124) rfl) rfl
theorem qm_J2_48 : Cond.methodLink RJ2 48 yJ2_length_9d52b ∈ ALLW := inT3 (List.mem_of_getElem? (i := 125) rfl) rfl
theorem qs_J2_length_9d52b : Cond.static yJ2_length_9d52b ∈ ALLW := inT3 (List.mem_of_getElem? (i := 126) rfl) rfl
theorem qc_J2_length_9d52b : Cond.code yJ2_length_9d52b cJ2_length_9d52b 1 (some .int) ∈ ALLW := inT3 (List.mem_of_getElem? (i := 127) rfl) rfl
theorem qm_J2_414 : Cond.methodLink RJ2 414 yJ0_checkIndex_df160 ∈ ALLW := inT3 (List.mem_of_getElem? (i := 128) rfl) rfl
theorem qm_J2_71 : Cond.methodLink RJ2 71 yJ2_getChar_3b067 ∈ ALLW := inT3 (List.mem_of_getElem? (i := 129) rfl) rfl
theorem qs_J2_getChar_3b067 : Cond.static yJ2_getChar_3b067 ∈ ALLW := inT3 (List.mem_of_getElem? (i := 130) rfl) rfl
theorem qc_J2_getChar_3b067 : Cond.code yJ2_getChar_3b067 cJ2_getChar_3b067 2 (some .char) ∈ ALLW := inT3 (List.mem_of_getElem? (i := 131) rfl) rfl
theorem qf_J2_44 : Cond.fieldLink RJ2 44 "java/lang/StringUTF16" "$assertionsDisabled" "Z" ∈ ALLW := inT3 (List.mem_of_getElem? (i := 132) rfl) rfl
theorem qf_J2_59 : Cond.fieldLink RJ2 59 "java/lang/StringUTF16" "HI_BYTE_SHIFT" "I" ∈ ALLW := inT3 (List.mem_of_getElem? (i := 134) rfl) rfl
theorem qf_J2_63 : Cond.fieldLink RJ2 63 "java/lang/StringUTF16" "LO_BYTE_SHIFT" "I" ∈ ALLW := inT3 (List.mem_of_getElem? (i := 136) rfl) rfl
theorem qm_X3_318 : Cond.methodLink RX3 318 yX3_readCoin ∈ ALLW := inT3 (List.mem_of_getElem? (i := 138) rfl) rfl
theorem qi_X3_readCoin : Cond.instanceMethod yX3_readCoin ∈ ALLW := inT3 (List.mem_of_getElem? (i := 140) rfl) rfl
theorem qc_X3_readCoin : Cond.code yX3_readCoin cX3_readCoin 5 (some .boolean) ∈ ALLW := inT3 (List.mem_of_getElem? (i := 141) rfl) rfl
theorem qm_X3_322 : Cond.methodLink RX3 322 yX3_settingWord ∈ ALLW := inT3 (List.mem_of_getElem? (i := 143) rfl) rfl
theorem qs_X3_settingWord : Cond.static yX3_settingWord ∈ ALLW := inT3 (List.mem_of_getElem? (i := 144) rfl) rfl
theorem qc_X3_settingWord : Cond.code yX3_settingWord cX3_settingWord 1 (some (.object "java/lang/String")) ∈ ALLW := inT3 (List.mem_of_getElem? (i := 145) rfl) rfl
theorem qm_X3_325 : Cond.methodLink RX3 325 yX3_readSetting ∈ ALLW := inT3 (List.mem_of_getElem? (i := 149) rfl) rfl
theorem qi_X3_readSetting : Cond.instanceMethod yX3_readSetting ∈ ALLW := inT3 (List.mem_of_getElem? (i := 151) rfl) rfl
theorem qc_X3_readSetting : Cond.code yX3_readSetting cX3_readSetting 3 (some .boolean) ∈ ALLW := inT3 (List.mem_of_getElem? (i := 152) rfl) rfl
theorem qm_L_171 : Cond.methodLink RL 171 yX3_hold ∈ ALLW := inT3 (List.mem_of_getElem? (i := 154) rfl) rfl
theorem qi_X3_hold : Cond.instanceMethod yX3_hold ∈ ALLW := inT3 (List.mem_of_getElem? (i := 155) rfl) rfl
theorem qs_X3_hold : Cond.selects RX3 yX3_hold yX3_hold ∈ ALLW := inT3 (List.mem_of_getElem? (i := 156) rfl) rfl
theorem qc_X3_hold : Cond.code yX3_hold cX3_hold 3 (some .int) ∈ ALLW := inT3 (List.mem_of_getElem? (i := 157) rfl) rfl
theorem qm_L_175 : Cond.methodLink RL 175 yX3_as ∈ ALLW := inT3 (List.mem_of_getElem? (i := 158) rfl) rfl
theorem qi_X3_as : Cond.instanceMethod yX3_as ∈ ALLW := inT3 (List.mem_of_getElem? (i := 159) rfl) rfl
theorem qs_X3_as : Cond.selects RX3 yX3_as yX3_as ∈ ALLW := inT3 (List.mem_of_getElem? (i := 160) rfl) rfl
theorem qc_X3_as : Cond.code yX3_as cX3_as 4 (some .int) ∈ ALLW := inT3 (List.mem_of_getElem? (i := 161) rfl) rfl
theorem qm_X3_245 : Cond.methodLink RX3 245 yX3_isUnder ∈ ALLW := inT3 (List.mem_of_getElem? (i := 162) rfl) rfl
theorem qs_X3_isUnder : Cond.static yX3_isUnder ∈ ALLW := inT3 (List.mem_of_getElem? (i := 163) rfl) rfl
theorem qc_X3_isUnder : Cond.code yX3_isUnder cX3_isUnder 4 (some .boolean) ∈ ALLW := inT3 (List.mem_of_getElem? (i := 164) rfl) rfl
theorem qf_X3_291 : Cond.fieldLink RX3 291 "PennyLedge" "OVER" "[I" ∈ ALLW := inT3 (List.mem_of_getElem? (i := 165) rfl) rfl
theorem qm_L_179 : Cond.methodLink RL 179 yX3_sheet ∈ ALLW := inT3 (List.mem_of_getElem? (i := 167) rfl) rfl
theorem qi_X3_sheet : Cond.instanceMethod yX3_sheet ∈ ALLW := inT3 (List.mem_of_getElem? (i := 168) rfl) rfl
theorem qs_X3_sheet : Cond.selects RX3 yX3_sheet yX3_sheet ∈ ALLW := inT3 (List.mem_of_getElem? (i := 169) rfl) rfl
theorem qc_X3_sheet : Cond.code yX3_sheet cX3_sheet 4 (some .int) ∈ ALLW := inT3 (List.mem_of_getElem? (i := 170) rfl) rfl
theorem qm_X3_248 : Cond.methodLink RX3 248 yX3_isSheet ∈ ALLW := inT3 (List.mem_of_getElem? (i := 171) rfl) rfl
theorem qs_X3_isSheet : Cond.static yX3_isSheet ∈ ALLW := inT3 (List.mem_of_getElem? (i := 172) rfl) rfl
theorem qc_X3_isSheet : Cond.code yX3_isSheet cX3_isSheet 1 (some .boolean) ∈ ALLW := inT3 (List.mem_of_getElem? (i := 173) rfl) rfl
theorem qm_X3_251 : Cond.methodLink RX3 251 yX3_isWidth ∈ ALLW := inT3 (List.mem_of_getElem? (i := 174) rfl) rfl
theorem qs_X3_isWidth : Cond.static yX3_isWidth ∈ ALLW := inT3 (List.mem_of_getElem? (i := 175) rfl) rfl
theorem qc_X3_isWidth : Cond.code yX3_isWidth cX3_isWidth 1 (some .boolean) ∈ ALLW := inT3 (List.mem_of_getElem? (i := 176) rfl) rfl
theorem qm_X3_254 : Cond.methodLink RX3 254 yX0_renew ∈ ALLW := inT3 (List.mem_of_getElem? (i := 177) rfl) rfl
theorem qi_X0_renew : Cond.instanceMethod yX0_renew ∈ ALLW := inT3 (List.mem_of_getElem? (i := 178) rfl) rfl
theorem qs_X0_renew : Cond.selects RX0 yX0_renew yX0_renew ∈ ALLW := inT3 (List.mem_of_getElem? (i := 179) rfl) rfl
theorem qc_X0_renew : Cond.code yX0_renew cX0_renew 4 none ∈ ALLW := inT3 (List.mem_of_getElem? (i := 180) rfl) rfl
theorem qm_L_183 : Cond.methodLink RL 183 yX3_write ∈ ALLW := inT3 (List.mem_of_getElem? (i := 181) rfl) rfl
theorem qi_X3_write : Cond.instanceMethod yX3_write ∈ ALLW := inT3 (List.mem_of_getElem? (i := 182) rfl) rfl
theorem qs_X3_write : Cond.selects RX3 yX3_write yX3_write ∈ ALLW := inT3 (List.mem_of_getElem? (i := 183) rfl) rfl
theorem qc_X3_write : Cond.code yX3_write cX3_write 4 (some .int) ∈ ALLW := inT3 (List.mem_of_getElem? (i := 184) rfl) rfl
theorem qm_X3_263 : Cond.methodLink RX3 263 yX0_put ∈ ALLW := inT3 (List.mem_of_getElem? (i := 185) rfl) rfl
theorem qi_X0_put : Cond.instanceMethod yX0_put ∈ ALLW := inT3 (List.mem_of_getElem? (i := 186) rfl) rfl
theorem qs_X0_put : Cond.selects RX0 yX0_put yX0_put ∈ ALLW := inT3 (List.mem_of_getElem? (i := 187) rfl) rfl
theorem qc_X0_put : Cond.code yX0_put cX0_put 3 none ∈ ALLW := inT3 (List.mem_of_getElem? (i := 188) rfl) rfl
theorem qm_L_187 : Cond.methodLink RL 187 yX3_copy ∈ ALLW := inT3 (List.mem_of_getElem? (i := 189) rfl) rfl
theorem qi_X3_copy : Cond.instanceMethod yX3_copy ∈ ALLW := inT3 (List.mem_of_getElem? (i := 190) rfl) rfl
theorem qs_X3_copy : Cond.selects RX3 yX3_copy yX3_copy ∈ ALLW := inT3 (List.mem_of_getElem? (i := 191) rfl) rfl
theorem qc_X3_copy : Cond.code yX3_copy cX3_copy 8 (some .int) ∈ ALLW := inT3 (List.mem_of_getElem? (i := 192) rfl) rfl
theorem qm_X3_264 : Cond.methodLink RX3 264 yX0_hasFrom ∈ ALLW := inT3 (List.mem_of_getElem? (i := 193) rfl) rfl
theorem qi_X0_hasFrom : Cond.instanceMethod yX0_hasFrom ∈ ALLW := inT3 (List.mem_of_getElem? (i := 194) rfl) rfl
theorem qs_X0_hasFrom : Cond.selects RX0 yX0_hasFrom yX0_hasFrom ∈ ALLW := inT3 (List.mem_of_getElem? (i := 195) rfl) rfl
theorem qc_X0_hasFrom : Cond.code yX0_hasFrom cX0_hasFrom 3 (some .boolean) ∈ ALLW := inT3 (List.mem_of_getElem? (i := 196) rfl) rfl
theorem qm_X3_270 : Cond.methodLink RX3 270 arraycopyName ∈ ALLW := inT3 (List.mem_of_getElem? (i := 197) rfl) rfl
theorem qm_L_192 : Cond.methodLink RL 192 yX3_load ∈ ALLW := inT3 (List.mem_of_getElem? (i := 198) rfl) rfl
theorem qi_X3_load : Cond.instanceMethod yX3_load ∈ ALLW := inT3 (List.mem_of_getElem? (i := 199) rfl) rfl
theorem qs_X3_load : Cond.selects RX3 yX3_load yX3_load ∈ ALLW := inT3 (List.mem_of_getElem? (i := 200) rfl) rfl
theorem qc_X3_load : Cond.code yX3_load cX3_load 6 (some .int) ∈ ALLW := inT3 (List.mem_of_getElem? (i := 201) rfl) rfl
theorem qm_L_196 : Cond.methodLink RL 196 yX3_judge ∈ ALLW := inT3 (List.mem_of_getElem? (i := 202) rfl) rfl
theorem qi_X3_judge : Cond.instanceMethod yX3_judge ∈ ALLW := inT3 (List.mem_of_getElem? (i := 203) rfl) rfl
theorem qs_X3_judge : Cond.selects RX3 yX3_judge yX3_judge ∈ ALLW := inT3 (List.mem_of_getElem? (i := 204) rfl) rfl
theorem qc_X3_judge : Cond.code yX3_judge cX3_judge 5 (some .int) ∈ ALLW := inT3 (List.mem_of_getElem? (i := 205) rfl) rfl
theorem qm_L_200 : Cond.methodLink RL 200 yX3_image ∈ ALLW := inT3 (List.mem_of_getElem? (i := 206) rfl) rfl
theorem qi_X3_image : Cond.instanceMethod yX3_image ∈ ALLW := inT3 (List.mem_of_getElem? (i := 207) rfl) rfl
theorem qs_X3_image : Cond.selects RX3 yX3_image yX3_image ∈ ALLW := inT3 (List.mem_of_getElem? (i := 208) rfl) rfl
theorem qc_X3_image : Cond.code yX3_image cX3_image 1 (some .int) ∈ ALLW := inT3 (List.mem_of_getElem? (i := 209) rfl) rfl
theorem qm_L_204 : Cond.methodLink RL 204 yX3_undo ∈ ALLW := inT3 (List.mem_of_getElem? (i := 210) rfl) rfl
theorem qi_X3_undo : Cond.instanceMethod yX3_undo ∈ ALLW := inT3 (List.mem_of_getElem? (i := 211) rfl) rfl
theorem qs_X3_undo : Cond.selects RX3 yX3_undo yX3_undo ∈ ALLW := inT3 (List.mem_of_getElem? (i := 212) rfl) rfl
theorem qc_X3_undo : Cond.code yX3_undo cX3_undo 1 (some .int) ∈ ALLW := inT3 (List.mem_of_getElem? (i := 213) rfl) rfl
theorem qm_L_208 : Cond.methodLink RL 208 yX3_tear ∈ ALLW := inT3 (List.mem_of_getElem? (i := 214) rfl) rfl
theorem qi_X3_tear : Cond.instanceMethod yX3_tear ∈ ALLW := inT3 (List.mem_of_getElem? (i := 215) rfl) rfl
theorem qs_X3_tear : Cond.selects RX3 yX3_tear yX3_tear ∈ ALLW := inT3 (List.mem_of_getElem? (i := 216) rfl) rfl
theorem qc_X3_tear : Cond.code yX3_tear cX3_tear 2 (some .int) ∈ ALLW := inT3 (List.mem_of_getElem? (i := 217) rfl) rfl
theorem qm_L_212 : Cond.methodLink RL 212 yX3_count ∈ ALLW := inT3 (List.mem_of_getElem? (i := 218) rfl) rfl
theorem qi_X3_count : Cond.instanceMethod yX3_count ∈ ALLW := inT3 (List.mem_of_getElem? (i := 219) rfl) rfl
theorem qs_X3_count : Cond.selects RX3 yX3_count yX3_count ∈ ALLW := inT3 (List.mem_of_getElem? (i := 220) rfl) rfl
theorem qc_X3_count : Cond.code yX3_count cX3_count 2 (some .int) ∈ ALLW := inT3 (List.mem_of_getElem? (i := 221) rfl) rfl
theorem qm_X3_281 : Cond.methodLink RX3 281 yX1_worthOf ∈ ALLW := inT3 (List.mem_of_getElem? (i := 222) rfl) rfl
theorem qm_X3_284 : Cond.methodLink RX3 284 yX1_manyStacks ∈ ALLW := inT3 (List.mem_of_getElem? (i := 223) rfl) rfl
theorem qi_X1_manyStacks : Cond.instanceMethod yX1_manyStacks ∈ ALLW := inT3 (List.mem_of_getElem? (i := 224) rfl) rfl
theorem qs_X1_manyStacks : Cond.selects RX1 yX1_manyStacks yX1_manyStacks ∈ ALLW := inT3 (List.mem_of_getElem? (i := 225) rfl) rfl
theorem qc_X1_manyStacks : Cond.code yX1_manyStacks cX1_manyStacks 3 (some .int) ∈ ALLW := inT3 (List.mem_of_getElem? (i := 226) rfl) rfl
theorem qm_X3_287 : Cond.methodLink RX3 287 yX1_manySpotsHeld ∈ ALLW := inT3 (List.mem_of_getElem? (i := 227) rfl) rfl
theorem qi_X1_manySpotsHeld : Cond.instanceMethod yX1_manySpotsHeld ∈ ALLW := inT3 (List.mem_of_getElem? (i := 228) rfl) rfl
theorem qs_X1_manySpotsHeld : Cond.selects RX1 yX1_manySpotsHeld yX1_manySpotsHeld ∈ ALLW := inT3 (List.mem_of_getElem? (i := 229) rfl) rfl
theorem qc_X1_manySpotsHeld : Cond.code yX1_manySpotsHeld cX1_manySpotsHeld 3 (some .int) ∈ ALLW := inT3 (List.mem_of_getElem? (i := 230) rfl) rfl
theorem qm_L_216 : Cond.methodLink RL 216 yX3_status ∈ ALLW := inT3 (List.mem_of_getElem? (i := 231) rfl) rfl
theorem qi_X3_status : Cond.instanceMethod yX3_status ∈ ALLW := inT3 (List.mem_of_getElem? (i := 232) rfl) rfl
theorem qs_X3_status : Cond.selects RX3 yX3_status yX3_status ∈ ALLW := inT3 (List.mem_of_getElem? (i := 233) rfl) rfl
theorem qc_X3_status : Cond.code yX3_status cX3_status 4 (some .int) ∈ ALLW := inT3 (List.mem_of_getElem? (i := 234) rfl) rfl
theorem ql_L_10 : Cond.classLink RL 10 RX4 ∈ ALLW := inT3 (List.mem_of_getElem? (i := 235) rfl) rfl
theorem qa_X4 : Cond.instantiable RX4 27 ∈ ALLW := inT3 (List.mem_of_getElem? (i := 236) rfl) rfl
theorem qm_L_12 : Cond.methodLink RL 12 yX4_init ∈ ALLW := inT3 (List.mem_of_getElem? (i := 237) rfl) rfl
theorem qi_X4_init : Cond.instanceMethod yX4_init ∈ ALLW := inT3 (List.mem_of_getElem? (i := 238) rfl) rfl
theorem qc_X4_init : Cond.code yX4_init cX4_init 2 none ∈ ALLW := inT3 (List.mem_of_getElem? (i := 239) rfl) rfl
theorem qm_X4_1 : Cond.methodLink RX4 1 objectInit ∈ ALLW := inT4 (List.mem_of_getElem? (i := 0) rfl) rfl
theorem ql_X4_25 : Cond.classLink RX4 25 RJ0 ∈ ALLW := inT4 (List.mem_of_getElem? (i := 1) rfl) rfl
theorem qf_X4_9 : Cond.fieldLink RX4 9 "PennyLedgeModel" "now" "[I" ∈ ALLW := inT4 (List.mem_of_getElem? (i := 13) rfl) rfl
theorem qf_X4_13 : Cond.fieldLink RX4 13 "PennyLedgeModel" "kept" "[I" ∈ ALLW := inT4 (List.mem_of_getElem? (i := 14) rfl) rfl
theorem qf_X4_16 : Cond.fieldLink RX4 16 "PennyLedgeModel" "aside" "[I" ∈ ALLW := inT4 (List.mem_of_getElem? (i := 15) rfl) rfl
theorem qf_X4_358 : Cond.fieldLink RX4 358 "PennyLedgeModel" "isKept" "Z" ∈ ALLW := inT4 (List.mem_of_getElem? (i := 16) rfl) rfl
theorem qf_X4_19 : Cond.fieldLink RX4 19 "PennyLedgeModel" "found" "[I" ∈ ALLW := inT4 (List.mem_of_getElem? (i := 17) rfl) rfl
theorem qf_X4_146 : Cond.fieldLink RX4 146 "PennyLedgeModel" "overMany" "I" ∈ ALLW := inT4 (List.mem_of_getElem? (i := 18) rfl) rfl
theorem qf_X4_159 : Cond.fieldLink RX4 159 "PennyLedgeModel" "moves" "I" ∈ ALLW := inT4 (List.mem_of_getElem? (i := 19) rfl) rfl
theorem qf_X4_239 : Cond.fieldLink RX4 239 "PennyLedgeModel" "bestThree" "I" ∈ ALLW := inT4 (List.mem_of_getElem? (i := 20) rfl) rfl
theorem qf_X4_245 : Cond.fieldLink RX4 245 "PennyLedgeModel" "mostThree" "I" ∈ ALLW := inT4 (List.mem_of_getElem? (i := 21) rfl) rfl
theorem qf_X4_254 : Cond.fieldLink RX4 254 "PennyLedgeModel" "soonWay" "I" ∈ ALLW := inT4 (List.mem_of_getElem? (i := 22) rfl) rfl
theorem qf_X4_22 : Cond.fieldLink RX4 22 "PennyLedgeModel" "tape" "[I" ∈ ALLW := inT4 (List.mem_of_getElem? (i := 23) rfl) rfl
theorem qf_X4_279 : Cond.fieldLink RX4 279 "PennyLedgeModel" "taped" "I" ∈ ALLW := inT4 (List.mem_of_getElem? (i := 24) rfl) rfl
theorem qf_X4_285 : Cond.fieldLink RX4 285 "PennyLedgeModel" "begins" "I" ∈ ALLW := inT4 (List.mem_of_getElem? (i := 25) rfl) rfl
theorem qf_X4_282 : Cond.fieldLink RX4 282 "PennyLedgeModel" "ends" "I" ∈ ALLW := inT4 (List.mem_of_getElem? (i := 26) rfl) rfl
theorem qf_X4_294 : Cond.fieldLink RX4 294 "PennyLedgeModel" "sort" "I" ∈ ALLW := inT4 (List.mem_of_getElem? (i := 27) rfl) rfl
theorem qf_X4_291 : Cond.fieldLink RX4 291 "PennyLedgeModel" "value" "I" ∈ ALLW := inT4 (List.mem_of_getElem? (i := 28) rfl) rfl
theorem qf_X4_304 : Cond.fieldLink RX4 304 "PennyLedgeModel" "isWrong" "Z" ∈ ALLW := inT4 (List.mem_of_getElem? (i := 29) rfl) rfl
theorem qf_X4_41 : Cond.fieldLink RX4 41 "PennyLedgeModel" "kinds" "[Ljava/lang/String;" ∈ ALLW := inT4 (List.mem_of_getElem? (i := 30) rfl) rfl
theorem qf_X4_51 : Cond.fieldLink RX4 51 "PennyLedgeModel" "sets" "[Ljava/lang/String;" ∈ ALLW := inT4 (List.mem_of_getElem? (i := 31) rfl) rfl
theorem qf_X4_54 : Cond.fieldLink RX4 54 "PennyLedgeModel" "items" "[I" ∈ ALLW := inT4 (List.mem_of_getElem? (i := 32) rfl) rfl
theorem qf_X4_315 : Cond.fieldLink RX4 315 "PennyLedgeModel" "itemMany" "I" ∈ ALLW := inT4 (List.mem_of_getElem? (i := 33) rfl) rfl
theorem qf_X4_326 : Cond.fieldLink RX4 326 "PennyLedgeModel" "coinThen" "I" ∈ ALLW := inT4 (List.mem_of_getElem? (i := 34) rfl) rfl
theorem qf_X4_57 : Cond.fieldLink RX4 57 "PennyLedgeModel" "highThen" "[I" ∈ ALLW := inT4 (List.mem_of_getElem? (i := 35) rfl) rfl
theorem qf_X4_60 : Cond.fieldLink RX4 60 "PennyLedgeModel" "widths" "[I" ∈ ALLW := inT4 (List.mem_of_getElem? (i := 36) rfl) rfl
theorem qf_X4_63 : Cond.fieldLink RX4 63 "PennyLedgeModel" "sizes" "[I" ∈ ALLW := inT4 (List.mem_of_getElem? (i := 37) rfl) rfl
theorem qf_X4_66 : Cond.fieldLink RX4 66 "PennyLedgeModel" "numbers" "[I" ∈ ALLW := inT4 (List.mem_of_getElem? (i := 38) rfl) rfl
theorem qf_X4_69 : Cond.fieldLink RX4 69 "PennyLedgeModel" "moved" "[I" ∈ ALLW := inT4 (List.mem_of_getElem? (i := 39) rfl) rfl
theorem qm_L_17 : Cond.methodLink RL 17 yX4_coin ∈ ALLW := inT4 (List.mem_of_getElem? (i := 95) rfl) rfl
theorem qi_X4_coin : Cond.instanceMethod yX4_coin ∈ ALLW := inT4 (List.mem_of_getElem? (i := 96) rfl) rfl
theorem qs_X4_coin : Cond.selects RX4 yX4_coin yX4_coin ∈ ALLW := inT4 (List.mem_of_getElem? (i := 97) rfl) rfl
theorem qc_X4_coin : Cond.code yX4_coin cX4_coin 2 (some .int) ∈ ALLW := inT4 (List.mem_of_getElem? (i := 98) rfl) rfl
theorem qm_X4_96 : Cond.methodLink RX4 96 yX4_isKind ∈ ALLW := inT4 (List.mem_of_getElem? (i := 99) rfl) rfl
theorem qs_X4_isKind : Cond.static yX4_isKind ∈ ALLW := inT4 (List.mem_of_getElem? (i := 100) rfl) rfl
theorem qc_X4_isKind : Cond.code yX4_isKind cX4_isKind 1 (some .boolean) ∈ ALLW := inT4 (List.mem_of_getElem? (i := 101) rfl) rfl
theorem qm_X4_77 : Cond.methodLink RX4 77 yX4_within ∈ ALLW := inT4 (List.mem_of_getElem? (i := 102) rfl) rfl
theorem qs_X4_within : Cond.static yX4_within ∈ ALLW := inT4 (List.mem_of_getElem? (i := 103) rfl) rfl
theorem qc_X4_within : Cond.code yX4_within cX4_within 3 (some .boolean) ∈ ALLW := inT4 (List.mem_of_getElem? (i := 104) rfl) rfl
theorem qk_X4_72 : Cond.constant RX4 72 (-1000001) ∈ ALLW := inT4 (List.mem_of_getElem? (i := 105) rfl) rfl
theorem qm_X4_99 : Cond.methodLink RX4 99 yX4_finding ∈ ALLW := inT4 (List.mem_of_getElem? (i := 106) rfl) rfl
theorem qi_X4_finding : Cond.instanceMethod yX4_finding ∈ ALLW := inT4 (List.mem_of_getElem? (i := 108) rfl) rfl
theorem qc_X4_finding : Cond.code yX4_finding cX4_finding 2 (some .int) ∈ ALLW := inT4 (List.mem_of_getElem? (i := 109) rfl) rfl
theorem qk_X4_102 : Cond.constant RX4 102 (-1000002) ∈ ALLW := inT4 (List.mem_of_getElem? (i := 110) rfl) rfl
theorem qm_X4_103 : Cond.methodLink RX4 103 yX4_struck ∈ ALLW := inT4 (List.mem_of_getElem? (i := 111) rfl) rfl
theorem qi_X4_struck : Cond.instanceMethod yX4_struck ∈ ALLW := inT4 (List.mem_of_getElem? (i := 113) rfl) rfl
theorem qc_X4_struck : Cond.code yX4_struck cX4_struck 3 (some .int) ∈ ALLW := inT4 (List.mem_of_getElem? (i := 114) rfl) rfl
theorem qm_L_22 : Cond.methodLink RL 22 yX4_of ∈ ALLW := inT4 (List.mem_of_getElem? (i := 115) rfl) rfl
theorem qi_X4_of : Cond.instanceMethod yX4_of ∈ ALLW := inT4 (List.mem_of_getElem? (i := 116) rfl) rfl
theorem qs_X4_of : Cond.selects RX4 yX4_of yX4_of ∈ ALLW := inT4 (List.mem_of_getElem? (i := 117) rfl) rfl
theorem qc_X4_of : Cond.code yX4_of cX4_of 6 (some .int) ∈ ALLW := inT4 (List.mem_of_getElem? (i := 118) rfl) rfl
theorem qm_X4_116 : Cond.methodLink RX4 116 yX4_isCoin ∈ ALLW := inT4 (List.mem_of_getElem? (i := 119) rfl) rfl
theorem qi_X4_isCoin : Cond.instanceMethod yX4_isCoin ∈ ALLW := inT4 (List.mem_of_getElem? (i := 121) rfl) rfl
theorem qc_X4_isCoin : Cond.code yX4_isCoin cX4_isCoin 2 (some .boolean) ∈ ALLW := inT4 (List.mem_of_getElem? (i := 122) rfl) rfl
theorem qm_X4_109 : Cond.methodLink RX4 109 yX4_kindOf ∈ ALLW := inT4 (List.mem_of_getElem? (i := 123) rfl) rfl
theorem qi_X4_kindOf : Cond.instanceMethod yX4_kindOf ∈ ALLW := inT4 (List.mem_of_getElem? (i := 125) rfl) rfl
theorem qc_X4_kindOf : Cond.code yX4_kindOf cX4_kindOf 2 (some .int) ∈ ALLW := inT4 (List.mem_of_getElem? (i := 126) rfl) rfl
theorem qm_X4_119 : Cond.methodLink RX4 119 yX4_cellOf ∈ ALLW := inT4 (List.mem_of_getElem? (i := 127) rfl) rfl
theorem qs_X4_cellOf : Cond.static yX4_cellOf ∈ ALLW := inT4 (List.mem_of_getElem? (i := 128) rfl) rfl
theorem qc_X4_cellOf : Cond.code yX4_cellOf cX4_cellOf 2 (some .int) ∈ ALLW := inT4 (List.mem_of_getElem? (i := 129) rfl) rfl
theorem qm_X4_85 : Cond.methodLink RX4 85 yX4_highOf ∈ ALLW := inT4 (List.mem_of_getElem? (i := 130) rfl) rfl
theorem qi_X4_highOf : Cond.instanceMethod yX4_highOf ∈ ALLW := inT4 (List.mem_of_getElem? (i := 132) rfl) rfl
theorem qc_X4_highOf : Cond.code yX4_highOf cX4_highOf 2 (some .int) ∈ ALLW := inT4 (List.mem_of_getElem? (i := 133) rfl) rfl
theorem qm_X4_89 : Cond.methodLink RX4 89 yX4_coinAt ∈ ALLW := inT4 (List.mem_of_getElem? (i := 134) rfl) rfl
theorem qi_X4_coinAt : Cond.instanceMethod yX4_coinAt ∈ ALLW := inT4 (List.mem_of_getElem? (i := 136) rfl) rfl
theorem qc_X4_coinAt : Cond.code yX4_coinAt cX4_coinAt 3 (some .int) ∈ ALLW := inT4 (List.mem_of_getElem? (i := 137) rfl) rfl
theorem qm_X4_122 : Cond.methodLink RX4 122 yX4_worth ∈ ALLW := inT4 (List.mem_of_getElem? (i := 138) rfl) rfl
theorem qi_X4_worth : Cond.instanceMethod yX4_worth ∈ ALLW := inT4 (List.mem_of_getElem? (i := 140) rfl) rfl
theorem qc_X4_worth : Cond.code yX4_worth cX4_worth 2 (some .int) ∈ ALLW := inT4 (List.mem_of_getElem? (i := 141) rfl) rfl
theorem qm_X4_125 : Cond.methodLink RX4 125 yX4_weighs ∈ ALLW := inT4 (List.mem_of_getElem? (i := 142) rfl) rfl
theorem qi_X4_weighs : Cond.instanceMethod yX4_weighs ∈ ALLW := inT4 (List.mem_of_getElem? (i := 144) rfl) rfl
theorem qc_X4_weighs : Cond.code yX4_weighs cX4_weighs 3 (some .int) ∈ ALLW := inT4 (List.mem_of_getElem? (i := 145) rfl) rfl
theorem qm_X4_112 : Cond.methodLink RX4 112 yX4_isUnder ∈ ALLW := inT4 (List.mem_of_getElem? (i := 146) rfl) rfl
theorem qs_X4_isUnder : Cond.static yX4_isUnder ∈ ALLW := inT4 (List.mem_of_getElem? (i := 147) rfl) rfl
theorem qc_X4_isUnder : Cond.code yX4_isUnder cX4_isUnder 3 (some .boolean) ∈ ALLW := inT4 (List.mem_of_getElem? (i := 148) rfl) rfl
theorem qm_X4_106 : Cond.methodLink RX4 106 yX4_above ∈ ALLW := inT4 (List.mem_of_getElem? (i := 149) rfl) rfl
theorem qs_X4_above : Cond.static yX4_above ∈ ALLW := inT4 (List.mem_of_getElem? (i := 150) rfl) rfl
theorem qc_X4_above : Cond.code yX4_above cX4_above 1 (some .int) ∈ ALLW := inT4 (List.mem_of_getElem? (i := 151) rfl) rfl
theorem qm_X4_128 : Cond.methodLink RX4 128 yX4_slides ∈ ALLW := inT4 (List.mem_of_getElem? (i := 152) rfl) rfl
theorem qi_X4_slides : Cond.instanceMethod yX4_slides ∈ ALLW := inT4 (List.mem_of_getElem? (i := 154) rfl) rfl
theorem qc_X4_slides : Cond.code yX4_slides cX4_slides 2 (some .boolean) ∈ ALLW := inT4 (List.mem_of_getElem? (i := 155) rfl) rfl
theorem qm_L_26 : Cond.methodLink RL 26 yX4_change ∈ ALLW := inT4 (List.mem_of_getElem? (i := 156) rfl) rfl
theorem qi_X4_change : Cond.instanceMethod yX4_change ∈ ALLW := inT4 (List.mem_of_getElem? (i := 157) rfl) rfl
theorem qs_X4_change : Cond.selects RX4 yX4_change yX4_change ∈ ALLW := inT4 (List.mem_of_getElem? (i := 158) rfl) rfl
theorem qc_X4_change : Cond.code yX4_change cX4_change 3 (some .int) ∈ ALLW := inT4 (List.mem_of_getElem? (i := 159) rfl) rfl
theorem qm_X4_131 : Cond.methodLink RX4 131 yX4_become ∈ ALLW := inT4 (List.mem_of_getElem? (i := 160) rfl) rfl
theorem qi_X4_become : Cond.instanceMethod yX4_become ∈ ALLW := inT4 (List.mem_of_getElem? (i := 162) rfl) rfl
theorem qc_X4_become : Cond.code yX4_become cX4_become 4 (some .int) ∈ ALLW := inT4 (List.mem_of_getElem? (i := 163) rfl) rfl
theorem qm_L_31 : Cond.methodLink RL 31 yX4_lay ∈ ALLW := inT4 (List.mem_of_getElem? (i := 164) rfl) rfl
theorem qi_X4_lay : Cond.instanceMethod yX4_lay ∈ ALLW := inT4 (List.mem_of_getElem? (i := 165) rfl) rfl
theorem qs_X4_lay : Cond.selects RX4 yX4_lay yX4_lay ∈ ALLW := inT4 (List.mem_of_getElem? (i := 166) rfl) rfl
theorem qc_X4_lay : Cond.code yX4_lay cX4_lay 5 (some .int) ∈ ALLW := inT4 (List.mem_of_getElem? (i := 167) rfl) rfl
theorem qm_X4_134 : Cond.methodLink RX4 134 yX4_isCell ∈ ALLW := inT4 (List.mem_of_getElem? (i := 168) rfl) rfl
theorem qs_X4_isCell : Cond.static yX4_isCell ∈ ALLW := inT4 (List.mem_of_getElem? (i := 169) rfl) rfl
theorem qc_X4_isCell : Cond.code yX4_isCell cX4_isCell 2 (some .boolean) ∈ ALLW := inT4 (List.mem_of_getElem? (i := 170) rfl) rfl
theorem qm_X4_81 : Cond.methodLink RX4 81 yX4_isColumn ∈ ALLW := inT4 (List.mem_of_getElem? (i := 171) rfl) rfl
theorem qs_X4_isColumn : Cond.static yX4_isColumn ∈ ALLW := inT4 (List.mem_of_getElem? (i := 172) rfl) rfl
theorem qc_X4_isColumn : Cond.code yX4_isColumn cX4_isColumn 1 (some .boolean) ∈ ALLW := inT4 (List.mem_of_getElem? (i := 173) rfl) rfl
theorem qk_X4_137 : Cond.constant RX4 137 (-1000005) ∈ ALLW := inT4 (List.mem_of_getElem? (i := 174) rfl) rfl
theorem qm_X4_138 : Cond.methodLink RX4 138 yX4_comesOn ∈ ALLW := inT4 (List.mem_of_getElem? (i := 175) rfl) rfl
theorem qi_X4_comesOn : Cond.instanceMethod yX4_comesOn ∈ ALLW := inT4 (List.mem_of_getElem? (i := 177) rfl) rfl
theorem qc_X4_comesOn : Cond.code yX4_comesOn cX4_comesOn 3 none ∈ ALLW := inT4 (List.mem_of_getElem? (i := 178) rfl) rfl
theorem qm_L_35 : Cond.methodLink RL 35 yX4_lift ∈ ALLW := inT4 (List.mem_of_getElem? (i := 179) rfl) rfl
theorem qi_X4_lift : Cond.instanceMethod yX4_lift ∈ ALLW := inT4 (List.mem_of_getElem? (i := 180) rfl) rfl
theorem qs_X4_lift : Cond.selects RX4 yX4_lift yX4_lift ∈ ALLW := inT4 (List.mem_of_getElem? (i := 181) rfl) rfl
theorem qc_X4_lift : Cond.code yX4_lift cX4_lift 5 (some .int) ∈ ALLW := inT4 (List.mem_of_getElem? (i := 182) rfl) rfl
theorem qk_X4_142 : Cond.constant RX4 142 (-1000004) ∈ ALLW := inT4 (List.mem_of_getElem? (i := 183) rfl) rfl
theorem qm_X4_143 : Cond.methodLink RX4 143 yX4_taken ∈ ALLW := inT4 (List.mem_of_getElem? (i := 184) rfl) rfl
theorem qi_X4_taken : Cond.instanceMethod yX4_taken ∈ ALLW := inT4 (List.mem_of_getElem? (i := 186) rfl) rfl
theorem qc_X4_taken : Cond.code yX4_taken cX4_taken 3 (some .int) ∈ ALLW := inT4 (List.mem_of_getElem? (i := 187) rfl) rfl
theorem qm_X4_93 : Cond.methodLink RX4 93 yX4_topOf ∈ ALLW := inT4 (List.mem_of_getElem? (i := 188) rfl) rfl
theorem qi_X4_topOf : Cond.instanceMethod yX4_topOf ∈ ALLW := inT4 (List.mem_of_getElem? (i := 190) rfl) rfl
theorem qc_X4_topOf : Cond.code yX4_topOf cX4_topOf 2 (some .int) ∈ ALLW := inT4 (List.mem_of_getElem? (i := 191) rfl) rfl
theorem qm_L_39 : Cond.methodLink RL 39 yX4_height ∈ ALLW := inT4 (List.mem_of_getElem? (i := 192) rfl) rfl
theorem qi_X4_height : Cond.instanceMethod yX4_height ∈ ALLW := inT4 (List.mem_of_getElem? (i := 193) rfl) rfl
theorem qs_X4_height : Cond.selects RX4 yX4_height yX4_height ∈ ALLW := inT4 (List.mem_of_getElem? (i := 194) rfl) rfl
theorem qc_X4_height : Cond.code yX4_height cX4_height 3 (some .int) ∈ ALLW := inT4 (List.mem_of_getElem? (i := 195) rfl) rfl
theorem qm_L_43 : Cond.methodLink RL 43 yX4_seen ∈ ALLW := inT4 (List.mem_of_getElem? (i := 196) rfl) rfl
theorem qi_X4_seen : Cond.instanceMethod yX4_seen ∈ ALLW := inT4 (List.mem_of_getElem? (i := 197) rfl) rfl
theorem qs_X4_seen : Cond.selects RX4 yX4_seen yX4_seen ∈ ALLW := inT4 (List.mem_of_getElem? (i := 198) rfl) rfl
theorem qc_X4_seen : Cond.code yX4_seen cX4_seen 5 (some .int) ∈ ALLW := inT4 (List.mem_of_getElem? (i := 199) rfl) rfl
theorem qm_L_47 : Cond.methodLink RL 47 yX4_set ∈ ALLW := inT4 (List.mem_of_getElem? (i := 200) rfl) rfl
theorem qi_X4_set : Cond.instanceMethod yX4_set ∈ ALLW := inT4 (List.mem_of_getElem? (i := 201) rfl) rfl
theorem qs_X4_set : Cond.selects RX4 yX4_set yX4_set ∈ ALLW := inT4 (List.mem_of_getElem? (i := 202) rfl) rfl
theorem qc_X4_set : Cond.code yX4_set cX4_set 4 (some .int) ∈ ALLW := inT4 (List.mem_of_getElem? (i := 203) rfl) rfl
theorem qm_L_51 : Cond.methodLink RL 51 yX4_drop ∈ ALLW := inT4 (List.mem_of_getElem? (i := 204) rfl) rfl
theorem qi_X4_drop : Cond.instanceMethod yX4_drop ∈ ALLW := inT4 (List.mem_of_getElem? (i := 205) rfl) rfl
theorem qs_X4_drop : Cond.selects RX4 yX4_drop yX4_drop ∈ ALLW := inT4 (List.mem_of_getElem? (i := 206) rfl) rfl
theorem qc_X4_drop : Cond.code yX4_drop cX4_drop 4 (some .int) ∈ ALLW := inT4 (List.mem_of_getElem? (i := 207) rfl) rfl
theorem qm_X4_183 : Cond.methodLink RX4 183 yX4_isInHand ∈ ALLW := inT4 (List.mem_of_getElem? (i := 208) rfl) rfl
theorem qi_X4_isInHand : Cond.instanceMethod yX4_isInHand ∈ ALLW := inT4 (List.mem_of_getElem? (i := 210) rfl) rfl
theorem qc_X4_isInHand : Cond.code yX4_isInHand cX4_isInHand 2 (some .boolean) ∈ ALLW := inT4 (List.mem_of_getElem? (i := 211) rfl) rfl
theorem qm_X4_186 : Cond.methodLink RX4 186 yX4_gain ∈ ALLW := inT4 (List.mem_of_getElem? (i := 212) rfl) rfl
theorem qi_X4_gain : Cond.instanceMethod yX4_gain ∈ ALLW := inT4 (List.mem_of_getElem? (i := 214) rfl) rfl
theorem qc_X4_gain : Cond.code yX4_gain cX4_gain 1 (some .int) ∈ ALLW := inT4 (List.mem_of_getElem? (i := 215) rfl) rfl
theorem qm_X4_177 : Cond.methodLink RX4 177 yX4_setOf ∈ ALLW := inT4 (List.mem_of_getElem? (i := 216) rfl) rfl
theorem qi_X4_setOf : Cond.instanceMethod yX4_setOf ∈ ALLW := inT4 (List.mem_of_getElem? (i := 218) rfl) rfl
theorem qc_X4_setOf : Cond.code yX4_setOf cX4_setOf 4 (some .int) ∈ ALLW := inT4 (List.mem_of_getElem? (i := 219) rfl) rfl
theorem qm_X4_180 : Cond.methodLink RX4 180 yX4_worthOf ∈ ALLW := inT4 (List.mem_of_getElem? (i := 220) rfl) rfl
theorem qi_X4_worthOf : Cond.instanceMethod yX4_worthOf ∈ ALLW := inT4 (List.mem_of_getElem? (i := 222) rfl) rfl
theorem qc_X4_worthOf : Cond.code yX4_worthOf cX4_worthOf 4 (some .int) ∈ ALLW := inT4 (List.mem_of_getElem? (i := 223) rfl) rfl
theorem qm_X4_190 : Cond.methodLink RX4 190 yX4_dropped ∈ ALLW := inT4 (List.mem_of_getElem? (i := 224) rfl) rfl
theorem qi_X4_dropped : Cond.instanceMethod yX4_dropped ∈ ALLW := inT4 (List.mem_of_getElem? (i := 226) rfl) rfl
theorem qc_X4_dropped : Cond.code yX4_dropped cX4_dropped 5 none ∈ ALLW := inT4 (List.mem_of_getElem? (i := 227) rfl) rfl
theorem qm_X4_174 : Cond.methodLink RX4 174 yX4_beat ∈ ALLW := inT4 (List.mem_of_getElem? (i := 228) rfl) rfl
theorem qi_X4_beat : Cond.instanceMethod yX4_beat ∈ ALLW := inT4 (List.mem_of_getElem? (i := 230) rfl) rfl
theorem qc_X4_beat : Cond.code yX4_beat cX4_beat 3 none ∈ ALLW := inT4 (List.mem_of_getElem? (i := 231) rfl) rfl
theorem qm_X4_162 : Cond.methodLink RX4 162 yX4_isMoved ∈ ALLW := inT4 (List.mem_of_getElem? (i := 232) rfl) rfl
theorem qi_X4_isMoved : Cond.instanceMethod yX4_isMoved ∈ ALLW := inT4 (List.mem_of_getElem? (i := 234) rfl) rfl
theorem qc_X4_isMoved : Cond.code yX4_isMoved cX4_isMoved 2 (some .boolean) ∈ ALLW := inT4 (List.mem_of_getElem? (i := 235) rfl) rfl
theorem qm_X4_150 : Cond.methodLink RX4 150 yX4_runOf ∈ ALLW := inT4 (List.mem_of_getElem? (i := 236) rfl) rfl
theorem qi_X4_runOf : Cond.instanceMethod yX4_runOf ∈ ALLW := inT4 (List.mem_of_getElem? (i := 238) rfl) rfl
theorem qc_X4_runOf : Cond.code yX4_runOf cX4_runOf 3 (some .int) ∈ ALLW := inT4 (List.mem_of_getElem? (i := 239) rfl) rfl
theorem qm_X4_153 : Cond.methodLink RX4 153 yX4_weightOf ∈ ALLW := inT5 (List.mem_of_getElem? (i := 0) rfl) rfl
theorem qi_X4_weightOf : Cond.instanceMethod yX4_weightOf ∈ ALLW := inT5 (List.mem_of_getElem? (i := 2) rfl) rfl
theorem qc_X4_weightOf : Cond.code yX4_weightOf cX4_weightOf 6 (some .int) ∈ ALLW := inT5 (List.mem_of_getElem? (i := 3) rfl) rfl
theorem qm_X4_165 : Cond.methodLink RX4 165 yX4_goesOn ∈ ALLW := inT5 (List.mem_of_getElem? (i := 4) rfl) rfl
theorem qi_X4_goesOn : Cond.instanceMethod yX4_goesOn ∈ ALLW := inT5 (List.mem_of_getElem? (i := 6) rfl) rfl
theorem qc_X4_goesOn : Cond.code yX4_goesOn cX4_goesOn 7 none ∈ ALLW := inT5 (List.mem_of_getElem? (i := 7) rfl) rfl
theorem qm_X4_156 : Cond.methodLink RX4 156 yX4_goesOver ∈ ALLW := inT5 (List.mem_of_getElem? (i := 8) rfl) rfl
theorem qi_X4_goesOver : Cond.instanceMethod yX4_goesOver ∈ ALLW := inT5 (List.mem_of_getElem? (i := 10) rfl) rfl
theorem qc_X4_goesOver : Cond.code yX4_goesOver cX4_goesOver 3 none ∈ ALLW := inT5 (List.mem_of_getElem? (i := 11) rfl) rfl
theorem qm_X4_168 : Cond.methodLink RX4 168 yX4_isLeaning ∈ ALLW := inT5 (List.mem_of_getElem? (i := 12) rfl) rfl
theorem qi_X4_isLeaning : Cond.instanceMethod yX4_isLeaning ∈ ALLW := inT5 (List.mem_of_getElem? (i := 14) rfl) rfl
theorem qc_X4_isLeaning : Cond.code yX4_isLeaning cX4_isLeaning 5 (some .boolean) ∈ ALLW := inT5 (List.mem_of_getElem? (i := 15) rfl) rfl
theorem qm_X4_171 : Cond.methodLink RX4 171 yX4_slidesOff ∈ ALLW := inT5 (List.mem_of_getElem? (i := 16) rfl) rfl
theorem qi_X4_slidesOff : Cond.instanceMethod yX4_slidesOff ∈ ALLW := inT5 (List.mem_of_getElem? (i := 18) rfl) rfl
theorem qc_X4_slidesOff : Cond.code yX4_slidesOff cX4_slidesOff 4 none ∈ ALLW := inT5 (List.mem_of_getElem? (i := 19) rfl) rfl
theorem qm_L_55 : Cond.methodLink RL 55 yX4_beats ∈ ALLW := inT5 (List.mem_of_getElem? (i := 20) rfl) rfl
theorem qi_X4_beats : Cond.instanceMethod yX4_beats ∈ ALLW := inT5 (List.mem_of_getElem? (i := 21) rfl) rfl
theorem qs_X4_beats : Cond.selects RX4 yX4_beats yX4_beats ∈ ALLW := inT5 (List.mem_of_getElem? (i := 22) rfl) rfl
theorem qc_X4_beats : Cond.code yX4_beats cX4_beats 2 (some .int) ∈ ALLW := inT5 (List.mem_of_getElem? (i := 23) rfl) rfl
theorem qm_X4_193 : Cond.methodLink RX4 193 yX4_isTooLate ∈ ALLW := inT5 (List.mem_of_getElem? (i := 24) rfl) rfl
theorem qi_X4_isTooLate : Cond.instanceMethod yX4_isTooLate ∈ ALLW := inT5 (List.mem_of_getElem? (i := 26) rfl) rfl
theorem qc_X4_isTooLate : Cond.code yX4_isTooLate cX4_isTooLate 2 (some .boolean) ∈ ALLW := inT5 (List.mem_of_getElem? (i := 27) rfl) rfl
theorem qm_X4_196 : Cond.methodLink RX4 196 yX4_beatsGo ∈ ALLW := inT5 (List.mem_of_getElem? (i := 28) rfl) rfl
theorem qi_X4_beatsGo : Cond.instanceMethod yX4_beatsGo ∈ ALLW := inT5 (List.mem_of_getElem? (i := 30) rfl) rfl
theorem qc_X4_beatsGo : Cond.code yX4_beatsGo cX4_beatsGo 4 (some .int) ∈ ALLW := inT5 (List.mem_of_getElem? (i := 31) rfl) rfl
theorem qm_L_59 : Cond.methodLink RL 59 yX4_now ∈ ALLW := inT5 (List.mem_of_getElem? (i := 32) rfl) rfl
theorem qi_X4_now : Cond.instanceMethod yX4_now ∈ ALLW := inT5 (List.mem_of_getElem? (i := 33) rfl) rfl
theorem qs_X4_now : Cond.selects RX4 yX4_now yX4_now ∈ ALLW := inT5 (List.mem_of_getElem? (i := 34) rfl) rfl
theorem qc_X4_now : Cond.code yX4_now cX4_now 2 (some .int) ∈ ALLW := inT5 (List.mem_of_getElem? (i := 35) rfl) rfl
theorem qm_L_63 : Cond.methodLink RL 63 yX4_run ∈ ALLW := inT5 (List.mem_of_getElem? (i := 36) rfl) rfl
theorem qi_X4_run : Cond.instanceMethod yX4_run ∈ ALLW := inT5 (List.mem_of_getElem? (i := 37) rfl) rfl
theorem qs_X4_run : Cond.selects RX4 yX4_run yX4_run ∈ ALLW := inT5 (List.mem_of_getElem? (i := 38) rfl) rfl
theorem qc_X4_run : Cond.code yX4_run cX4_run 2 (some .int) ∈ ALLW := inT5 (List.mem_of_getElem? (i := 39) rfl) rfl
theorem qm_L_67 : Cond.methodLink RL 67 yX4_weight ∈ ALLW := inT5 (List.mem_of_getElem? (i := 40) rfl) rfl
theorem qi_X4_weight : Cond.instanceMethod yX4_weight ∈ ALLW := inT5 (List.mem_of_getElem? (i := 41) rfl) rfl
theorem qs_X4_weight : Cond.selects RX4 yX4_weight yX4_weight ∈ ALLW := inT5 (List.mem_of_getElem? (i := 42) rfl) rfl
theorem qc_X4_weight : Cond.code yX4_weight cX4_weight 2 (some .int) ∈ ALLW := inT5 (List.mem_of_getElem? (i := 43) rfl) rfl
theorem qm_L_72 : Cond.methodLink RL 72 yX4_moved ∈ ALLW := inT5 (List.mem_of_getElem? (i := 44) rfl) rfl
theorem qi_X4_moved : Cond.instanceMethod yX4_moved ∈ ALLW := inT5 (List.mem_of_getElem? (i := 45) rfl) rfl
theorem qs_X4_moved : Cond.selects RX4 yX4_moved yX4_moved ∈ ALLW := inT5 (List.mem_of_getElem? (i := 46) rfl) rfl
theorem qc_X4_moved : Cond.code yX4_moved cX4_moved 3 (some .int) ∈ ALLW := inT5 (List.mem_of_getElem? (i := 47) rfl) rfl
theorem qm_L_76 : Cond.methodLink RL 76 yX4_leaning ∈ ALLW := inT5 (List.mem_of_getElem? (i := 48) rfl) rfl
theorem qi_X4_leaning : Cond.instanceMethod yX4_leaning ∈ ALLW := inT5 (List.mem_of_getElem? (i := 49) rfl) rfl
theorem qs_X4_leaning : Cond.selects RX4 yX4_leaning yX4_leaning ∈ ALLW := inT5 (List.mem_of_getElem? (i := 50) rfl) rfl
theorem qc_X4_leaning : Cond.code yX4_leaning cX4_leaning 4 (some .int) ∈ ALLW := inT5 (List.mem_of_getElem? (i := 51) rfl) rfl
theorem qm_L_80 : Cond.methodLink RL 80 yX4_ahead ∈ ALLW := inT5 (List.mem_of_getElem? (i := 52) rfl) rfl
theorem qi_X4_ahead : Cond.instanceMethod yX4_ahead ∈ ALLW := inT5 (List.mem_of_getElem? (i := 53) rfl) rfl
theorem qs_X4_ahead : Cond.selects RX4 yX4_ahead yX4_ahead ∈ ALLW := inT5 (List.mem_of_getElem? (i := 54) rfl) rfl
theorem qc_X4_ahead : Cond.code yX4_ahead cX4_ahead 5 (some .int) ∈ ALLW := inT5 (List.mem_of_getElem? (i := 55) rfl) rfl
theorem qm_X4_73 : Cond.methodLink RX4 73 yX4_copyRow ∈ ALLW := inT5 (List.mem_of_getElem? (i := 56) rfl) rfl
theorem qs_X4_copyRow : Cond.static yX4_copyRow ∈ ALLW := inT5 (List.mem_of_getElem? (i := 57) rfl) rfl
theorem qc_X4_copyRow : Cond.code yX4_copyRow cX4_copyRow 3 none ∈ ALLW := inT5 (List.mem_of_getElem? (i := 58) rfl) rfl
theorem qm_X4_204 : Cond.methodLink RX4 204 yX4_shelf ∈ ALLW := inT5 (List.mem_of_getElem? (i := 59) rfl) rfl
theorem qi_X4_shelf : Cond.instanceMethod yX4_shelf ∈ ALLW := inT5 (List.mem_of_getElem? (i := 61) rfl) rfl
theorem qc_X4_shelf : Cond.code yX4_shelf cX4_shelf 1 (some .int) ∈ ALLW := inT5 (List.mem_of_getElem? (i := 62) rfl) rfl
theorem qm_X4_207 : Cond.methodLink RX4 207 yX4_highest ∈ ALLW := inT5 (List.mem_of_getElem? (i := 63) rfl) rfl
theorem qi_X4_highest : Cond.instanceMethod yX4_highest ∈ ALLW := inT5 (List.mem_of_getElem? (i := 65) rfl) rfl
theorem qc_X4_highest : Cond.code yX4_highest cX4_highest 3 (some .int) ∈ ALLW := inT5 (List.mem_of_getElem? (i := 66) rfl) rfl
theorem qm_X4_199 : Cond.methodLink RX4 199 yJ9_max_7cf53 ∈ ALLW := inT5 (List.mem_of_getElem? (i := 67) rfl) rfl
theorem qm_X4_210 : Cond.methodLink RX4 210 yX4_putBack ∈ ALLW := inT5 (List.mem_of_getElem? (i := 68) rfl) rfl
theorem qi_X4_putBack : Cond.instanceMethod yX4_putBack ∈ ALLW := inT5 (List.mem_of_getElem? (i := 70) rfl) rfl
theorem qc_X4_putBack : Cond.code yX4_putBack cX4_putBack 2 (some .int) ∈ ALLW := inT5 (List.mem_of_getElem? (i := 71) rfl) rfl
theorem qm_L_84 : Cond.methodLink RL 84 yX4_falls ∈ ALLW := inT5 (List.mem_of_getElem? (i := 72) rfl) rfl
theorem qi_X4_falls : Cond.instanceMethod yX4_falls ∈ ALLW := inT5 (List.mem_of_getElem? (i := 73) rfl) rfl
theorem qs_X4_falls : Cond.selects RX4 yX4_falls yX4_falls ∈ ALLW := inT5 (List.mem_of_getElem? (i := 74) rfl) rfl
theorem qc_X4_falls : Cond.code yX4_falls cX4_falls 3 (some .int) ∈ ALLW := inT5 (List.mem_of_getElem? (i := 75) rfl) rfl
theorem qm_X4_213 : Cond.methodLink RX4 213 yX4_isOnShelf ∈ ALLW := inT5 (List.mem_of_getElem? (i := 76) rfl) rfl
theorem qi_X4_isOnShelf : Cond.instanceMethod yX4_isOnShelf ∈ ALLW := inT5 (List.mem_of_getElem? (i := 78) rfl) rfl
theorem qc_X4_isOnShelf : Cond.code yX4_isOnShelf cX4_isOnShelf 2 (some .boolean) ∈ ALLW := inT5 (List.mem_of_getElem? (i := 79) rfl) rfl
theorem qm_L_88 : Cond.methodLink RL 88 yX4_rest ∈ ALLW := inT5 (List.mem_of_getElem? (i := 80) rfl) rfl
theorem qi_X4_rest : Cond.instanceMethod yX4_rest ∈ ALLW := inT5 (List.mem_of_getElem? (i := 81) rfl) rfl
theorem qs_X4_rest : Cond.selects RX4 yX4_rest yX4_rest ∈ ALLW := inT5 (List.mem_of_getElem? (i := 82) rfl) rfl
theorem qc_X4_rest : Cond.code yX4_rest cX4_rest 4 (some .int) ∈ ALLW := inT5 (List.mem_of_getElem? (i := 83) rfl) rfl
theorem qm_L_92 : Cond.methodLink RL 92 yX4_brings ∈ ALLW := inT5 (List.mem_of_getElem? (i := 84) rfl) rfl
theorem qi_X4_brings : Cond.instanceMethod yX4_brings ∈ ALLW := inT5 (List.mem_of_getElem? (i := 85) rfl) rfl
theorem qs_X4_brings : Cond.selects RX4 yX4_brings yX4_brings ∈ ALLW := inT5 (List.mem_of_getElem? (i := 86) rfl) rfl
theorem qc_X4_brings : Cond.code yX4_brings cX4_brings 5 (some .int) ∈ ALLW := inT5 (List.mem_of_getElem? (i := 87) rfl) rfl
theorem qm_X4_216 : Cond.methodLink RX4 216 yX4_refuses ∈ ALLW := inT5 (List.mem_of_getElem? (i := 88) rfl) rfl
theorem qi_X4_refuses : Cond.instanceMethod yX4_refuses ∈ ALLW := inT5 (List.mem_of_getElem? (i := 90) rfl) rfl
theorem qc_X4_refuses : Cond.code yX4_refuses cX4_refuses 3 (some .int) ∈ ALLW := inT5 (List.mem_of_getElem? (i := 91) rfl) rfl
theorem qm_X4_219 : Cond.methodLink RX4 219 yX4_gainBy ∈ ALLW := inT5 (List.mem_of_getElem? (i := 92) rfl) rfl
theorem qi_X4_gainBy : Cond.instanceMethod yX4_gainBy ∈ ALLW := inT5 (List.mem_of_getElem? (i := 94) rfl) rfl
theorem qc_X4_gainBy : Cond.code yX4_gainBy cX4_gainBy 6 (some .int) ∈ ALLW := inT5 (List.mem_of_getElem? (i := 95) rfl) rfl
theorem qm_L_96 : Cond.methodLink RL 96 yX4_best ∈ ALLW := inT5 (List.mem_of_getElem? (i := 96) rfl) rfl
theorem qi_X4_best : Cond.instanceMethod yX4_best ∈ ALLW := inT5 (List.mem_of_getElem? (i := 97) rfl) rfl
theorem qs_X4_best : Cond.selects RX4 yX4_best yX4_best ∈ ALLW := inT5 (List.mem_of_getElem? (i := 98) rfl) rfl
theorem qc_X4_best : Cond.code yX4_best cX4_best 4 (some .int) ∈ ALLW := inT5 (List.mem_of_getElem? (i := 99) rfl) rfl
theorem qm_X4_223 : Cond.methodLink RX4 223 yX4_bestWay ∈ ALLW := inT5 (List.mem_of_getElem? (i := 100) rfl) rfl
theorem qi_X4_bestWay : Cond.instanceMethod yX4_bestWay ∈ ALLW := inT5 (List.mem_of_getElem? (i := 102) rfl) rfl
theorem qc_X4_bestWay : Cond.code yX4_bestWay cX4_bestWay 9 (some .int) ∈ ALLW := inT5 (List.mem_of_getElem? (i := 103) rfl) rfl
theorem qm_L_100 : Cond.methodLink RL 100 yX4_wait ∈ ALLW := inT5 (List.mem_of_getElem? (i := 104) rfl) rfl
theorem qi_X4_wait : Cond.instanceMethod yX4_wait ∈ ALLW := inT5 (List.mem_of_getElem? (i := 105) rfl) rfl
theorem qs_X4_wait : Cond.selects RX4 yX4_wait yX4_wait ∈ ALLW := inT5 (List.mem_of_getElem? (i := 106) rfl) rfl
theorem qc_X4_wait : Cond.code yX4_wait cX4_wait 4 (some .int) ∈ ALLW := inT5 (List.mem_of_getElem? (i := 107) rfl) rfl
theorem qm_L_104 : Cond.methodLink RL 104 yX4_three ∈ ALLW := inT5 (List.mem_of_getElem? (i := 108) rfl) rfl
theorem qi_X4_three : Cond.instanceMethod yX4_three ∈ ALLW := inT5 (List.mem_of_getElem? (i := 109) rfl) rfl
theorem qs_X4_three : Cond.selects RX4 yX4_three yX4_three ∈ ALLW := inT5 (List.mem_of_getElem? (i := 110) rfl) rfl
theorem qc_X4_three : Cond.code yX4_three cX4_three 3 (some .int) ∈ ALLW := inT5 (List.mem_of_getElem? (i := 111) rfl) rfl
theorem qm_X4_248 : Cond.methodLink RX4 248 yX4_refusesThree ∈ ALLW := inT5 (List.mem_of_getElem? (i := 112) rfl) rfl
theorem qi_X4_refusesThree : Cond.instanceMethod yX4_refusesThree ∈ ALLW := inT5 (List.mem_of_getElem? (i := 114) rfl) rfl
theorem qc_X4_refusesThree : Cond.code yX4_refusesThree cX4_refusesThree 5 (some .int) ∈ ALLW := inT5 (List.mem_of_getElem? (i := 115) rfl) rfl
theorem qm_X4_236 : Cond.methodLink RX4 236 yX4_bits ∈ ALLW := inT5 (List.mem_of_getElem? (i := 116) rfl) rfl
theorem qs_X4_bits : Cond.static yX4_bits ∈ ALLW := inT5 (List.mem_of_getElem? (i := 117) rfl) rfl
theorem qc_X4_bits : Cond.code yX4_bits cX4_bits 3 (some .int) ∈ ALLW := inT5 (List.mem_of_getElem? (i := 118) rfl) rfl
theorem qm_X4_227 : Cond.methodLink RX4 227 yX4_ways ∈ ALLW := inT5 (List.mem_of_getElem? (i := 119) rfl) rfl
theorem qs_X4_ways : Cond.static yX4_ways ∈ ALLW := inT5 (List.mem_of_getElem? (i := 120) rfl) rfl
theorem qc_X4_ways : Cond.code yX4_ways cX4_ways 1 (some .int) ∈ ALLW := inT5 (List.mem_of_getElem? (i := 121) rfl) rfl
theorem qm_X4_242 : Cond.methodLink RX4 242 yX4_dropsBy ∈ ALLW := inT5 (List.mem_of_getElem? (i := 122) rfl) rfl
theorem qi_X4_dropsBy : Cond.instanceMethod yX4_dropsBy ∈ ALLW := inT5 (List.mem_of_getElem? (i := 124) rfl) rfl
theorem qc_X4_dropsBy : Cond.code yX4_dropsBy cX4_dropsBy 4 none ∈ ALLW := inT5 (List.mem_of_getElem? (i := 125) rfl) rfl
theorem qm_X4_230 : Cond.methodLink RX4 230 yX4_leastInHand ∈ ALLW := inT5 (List.mem_of_getElem? (i := 126) rfl) rfl
theorem qi_X4_leastInHand : Cond.instanceMethod yX4_leastInHand ∈ ALLW := inT5 (List.mem_of_getElem? (i := 128) rfl) rfl
theorem qc_X4_leastInHand : Cond.code yX4_leastInHand cX4_leastInHand 2 (some .int) ∈ ALLW := inT5 (List.mem_of_getElem? (i := 129) rfl) rfl
theorem qm_X4_233 : Cond.methodLink RX4 233 yX4_columnOf ∈ ALLW := inT5 (List.mem_of_getElem? (i := 130) rfl) rfl
theorem qs_X4_columnOf : Cond.static yX4_columnOf ∈ ALLW := inT5 (List.mem_of_getElem? (i := 131) rfl) rfl
theorem qc_X4_columnOf : Cond.code yX4_columnOf cX4_columnOf 3 (some .int) ∈ ALLW := inT5 (List.mem_of_getElem? (i := 132) rfl) rfl
theorem qm_L_108 : Cond.methodLink RL 108 yX4_threeBring ∈ ALLW := inT5 (List.mem_of_getElem? (i := 133) rfl) rfl
theorem qi_X4_threeBring : Cond.instanceMethod yX4_threeBring ∈ ALLW := inT5 (List.mem_of_getElem? (i := 134) rfl) rfl
theorem qs_X4_threeBring : Cond.selects RX4 yX4_threeBring yX4_threeBring ∈ ALLW := inT5 (List.mem_of_getElem? (i := 135) rfl) rfl
theorem qc_X4_threeBring : Cond.code yX4_threeBring cX4_threeBring 3 (some .int) ∈ ALLW := inT5 (List.mem_of_getElem? (i := 136) rfl) rfl
theorem qm_L_112 : Cond.methodLink RL 112 yX4_soonest ∈ ALLW := inT5 (List.mem_of_getElem? (i := 137) rfl) rfl
theorem qi_X4_soonest : Cond.instanceMethod yX4_soonest ∈ ALLW := inT5 (List.mem_of_getElem? (i := 138) rfl) rfl
theorem qs_X4_soonest : Cond.selects RX4 yX4_soonest yX4_soonest ∈ ALLW := inT5 (List.mem_of_getElem? (i := 139) rfl) rfl
theorem qc_X4_soonest : Cond.code yX4_soonest cX4_soonest 4 (some .int) ∈ ALLW := inT5 (List.mem_of_getElem? (i := 140) rfl) rfl
theorem qm_X4_257 : Cond.methodLink RX4 257 yX4_refusesSoon ∈ ALLW := inT5 (List.mem_of_getElem? (i := 141) rfl) rfl
theorem qi_X4_refusesSoon : Cond.instanceMethod yX4_refusesSoon ∈ ALLW := inT5 (List.mem_of_getElem? (i := 143) rfl) rfl
theorem qc_X4_refusesSoon : Cond.code yX4_refusesSoon cX4_refusesSoon 2 (some .int) ∈ ALLW := inT5 (List.mem_of_getElem? (i := 144) rfl) rfl
theorem qm_X4_260 : Cond.methodLink RX4 260 yX4_findSoonest ∈ ALLW := inT5 (List.mem_of_getElem? (i := 145) rfl) rfl
theorem qi_X4_findSoonest : Cond.instanceMethod yX4_findSoonest ∈ ALLW := inT5 (List.mem_of_getElem? (i := 147) rfl) rfl
theorem qc_X4_findSoonest : Cond.code yX4_findSoonest cX4_findSoonest 5 (some .int) ∈ ALLW := inT5 (List.mem_of_getElem? (i := 148) rfl) rfl
theorem qm_X4_251 : Cond.methodLink RX4 251 yJ9_min_7cf53 ∈ ALLW := inT5 (List.mem_of_getElem? (i := 149) rfl) rfl
theorem qm_L_116 : Cond.methodLink RL 116 yX4_firstFor ∈ ALLW := inT5 (List.mem_of_getElem? (i := 150) rfl) rfl
theorem qi_X4_firstFor : Cond.instanceMethod yX4_firstFor ∈ ALLW := inT5 (List.mem_of_getElem? (i := 151) rfl) rfl
theorem qs_X4_firstFor : Cond.selects RX4 yX4_firstFor yX4_firstFor ∈ ALLW := inT5 (List.mem_of_getElem? (i := 152) rfl) rfl
theorem qc_X4_firstFor : Cond.code yX4_firstFor cX4_firstFor 4 (some .int) ∈ ALLW := inT5 (List.mem_of_getElem? (i := 153) rfl) rfl
theorem qm_L_121 : Cond.methodLink RL 121 yX4_ways_ ∈ ALLW := inT5 (List.mem_of_getElem? (i := 154) rfl) rfl
theorem qi_X4_ways_ : Cond.instanceMethod yX4_ways_ ∈ ALLW := inT5 (List.mem_of_getElem? (i := 155) rfl) rfl
theorem qs_X4_ways_ : Cond.selects RX4 yX4_ways_ yX4_ways_ ∈ ALLW := inT5 (List.mem_of_getElem? (i := 156) rfl) rfl
theorem qc_X4_ways_ : Cond.code yX4_ways_ cX4_ways_ 7 (some .long) ∈ ALLW := inT5 (List.mem_of_getElem? (i := 157) rfl) rfl
theorem qm_X4_263 : Cond.methodLink RX4 263 yX4_refusesWays ∈ ALLW := inT5 (List.mem_of_getElem? (i := 158) rfl) rfl
theorem qi_X4_refusesWays : Cond.instanceMethod yX4_refusesWays ∈ ALLW := inT5 (List.mem_of_getElem? (i := 160) rfl) rfl
theorem qc_X4_refusesWays : Cond.code yX4_refusesWays cX4_refusesWays 2 (some .int) ∈ ALLW := inT5 (List.mem_of_getElem? (i := 161) rfl) rfl
theorem qm_L_126 : Cond.methodLink RL 126 yX4_total ∈ ALLW := inT5 (List.mem_of_getElem? (i := 162) rfl) rfl
theorem qi_X4_total : Cond.instanceMethod yX4_total ∈ ALLW := inT5 (List.mem_of_getElem? (i := 163) rfl) rfl
theorem qs_X4_total : Cond.selects RX4 yX4_total yX4_total ∈ ALLW := inT5 (List.mem_of_getElem? (i := 164) rfl) rfl
theorem qc_X4_total : Cond.code yX4_total cX4_total 7 (some .long) ∈ ALLW := inT5 (List.mem_of_getElem? (i := 165) rfl) rfl
theorem qm_L_130 : Cond.methodLink RL 130 yX4_luck ∈ ALLW := inT5 (List.mem_of_getElem? (i := 166) rfl) rfl
theorem qi_X4_luck : Cond.instanceMethod yX4_luck ∈ ALLW := inT5 (List.mem_of_getElem? (i := 167) rfl) rfl
theorem qs_X4_luck : Cond.selects RX4 yX4_luck yX4_luck ∈ ALLW := inT5 (List.mem_of_getElem? (i := 168) rfl) rfl
theorem qc_X4_luck : Cond.code yX4_luck cX4_luck 7 (some .long) ∈ ALLW := inT5 (List.mem_of_getElem? (i := 169) rfl) rfl
theorem qm_L_134 : Cond.methodLink RL 134 yX4_play ∈ ALLW := inT5 (List.mem_of_getElem? (i := 170) rfl) rfl
theorem qi_X4_play : Cond.instanceMethod yX4_play ∈ ALLW := inT5 (List.mem_of_getElem? (i := 171) rfl) rfl
theorem qs_X4_play : Cond.selects RX4 yX4_play yX4_play ∈ ALLW := inT5 (List.mem_of_getElem? (i := 172) rfl) rfl
theorem qc_X4_play : Cond.code yX4_play cX4_play 4 (some .int) ∈ ALLW := inT5 (List.mem_of_getElem? (i := 173) rfl) rfl
theorem qm_X4_267 : Cond.methodLink RX4 267 yX4_drawn ∈ ALLW := inT5 (List.mem_of_getElem? (i := 174) rfl) rfl
theorem qi_X4_drawn : Cond.instanceMethod yX4_drawn ∈ ALLW := inT5 (List.mem_of_getElem? (i := 176) rfl) rfl
theorem qc_X4_drawn : Cond.code yX4_drawn cX4_drawn 2 (some .int) ∈ ALLW := inT5 (List.mem_of_getElem? (i := 177) rfl) rfl
theorem qk_X4_266 : Cond.constant RX4 266 (1103515245) ∈ ALLW := inT5 (List.mem_of_getElem? (i := 178) rfl) rfl
theorem qm_L_138 : Cond.methodLink RL 138 yX4_jolt ∈ ALLW := inT5 (List.mem_of_getElem? (i := 179) rfl) rfl
theorem qi_X4_jolt : Cond.instanceMethod yX4_jolt ∈ ALLW := inT5 (List.mem_of_getElem? (i := 180) rfl) rfl
theorem qs_X4_jolt : Cond.selects RX4 yX4_jolt yX4_jolt ∈ ALLW := inT5 (List.mem_of_getElem? (i := 181) rfl) rfl
theorem qc_X4_jolt : Cond.code yX4_jolt cX4_jolt 6 (some .int) ∈ ALLW := inT5 (List.mem_of_getElem? (i := 182) rfl) rfl
theorem qm_L_142 : Cond.methodLink RL 142 yX4_jolted ∈ ALLW := inT5 (List.mem_of_getElem? (i := 183) rfl) rfl
theorem qi_X4_jolted : Cond.instanceMethod yX4_jolted ∈ ALLW := inT5 (List.mem_of_getElem? (i := 184) rfl) rfl
theorem qs_X4_jolted : Cond.selects RX4 yX4_jolted yX4_jolted ∈ ALLW := inT5 (List.mem_of_getElem? (i := 185) rfl) rfl
theorem qc_X4_jolted : Cond.code yX4_jolted cX4_jolted 3 (some .int) ∈ ALLW := inT5 (List.mem_of_getElem? (i := 186) rfl) rfl
theorem qm_X4_270 : Cond.methodLink RX4 270 yX4_jolt ∈ ALLW := inT5 (List.mem_of_getElem? (i := 187) rfl) rfl
theorem qm_L_146 : Cond.methodLink RL 146 yX4_stroke ∈ ALLW := inT5 (List.mem_of_getElem? (i := 188) rfl) rfl
theorem qi_X4_stroke : Cond.instanceMethod yX4_stroke ∈ ALLW := inT5 (List.mem_of_getElem? (i := 189) rfl) rfl
theorem qs_X4_stroke : Cond.selects RX4 yX4_stroke yX4_stroke ∈ ALLW := inT5 (List.mem_of_getElem? (i := 190) rfl) rfl
theorem qc_X4_stroke : Cond.code yX4_stroke cX4_stroke 7 (some .int) ∈ ALLW := inT5 (List.mem_of_getElem? (i := 191) rfl) rfl
theorem qm_X4_273 : Cond.methodLink RX4 273 yX4_wonIn ∈ ALLW := inT5 (List.mem_of_getElem? (i := 192) rfl) rfl
theorem qi_X4_wonIn : Cond.instanceMethod yX4_wonIn ∈ ALLW := inT5 (List.mem_of_getElem? (i := 194) rfl) rfl
theorem qc_X4_wonIn : Cond.code yX4_wonIn cX4_wonIn 4 (some .int) ∈ ALLW := inT5 (List.mem_of_getElem? (i := 195) rfl) rfl
theorem qm_L_150 : Cond.methodLink RL 150 yX4_force ∈ ALLW := inT5 (List.mem_of_getElem? (i := 196) rfl) rfl
theorem qi_X4_force : Cond.instanceMethod yX4_force ∈ ALLW := inT5 (List.mem_of_getElem? (i := 197) rfl) rfl
theorem qs_X4_force : Cond.selects RX4 yX4_force yX4_force ∈ ALLW := inT5 (List.mem_of_getElem? (i := 198) rfl) rfl
theorem qc_X4_force : Cond.code yX4_force cX4_force 6 (some .int) ∈ ALLW := inT5 (List.mem_of_getElem? (i := 199) rfl) rfl
theorem qm_X4_276 : Cond.methodLink RX4 276 yX4_refusesShelf ∈ ALLW := inT5 (List.mem_of_getElem? (i := 200) rfl) rfl
theorem qi_X4_refusesShelf : Cond.instanceMethod yX4_refusesShelf ∈ ALLW := inT5 (List.mem_of_getElem? (i := 202) rfl) rfl
theorem qc_X4_refusesShelf : Cond.code yX4_refusesShelf cX4_refusesShelf 3 (some .int) ∈ ALLW := inT5 (List.mem_of_getElem? (i := 203) rfl) rfl
theorem qm_L_154 : Cond.methodLink RL 154 yX4_kindFor ∈ ALLW := inT5 (List.mem_of_getElem? (i := 204) rfl) rfl
theorem qi_X4_kindFor : Cond.instanceMethod yX4_kindFor ∈ ALLW := inT5 (List.mem_of_getElem? (i := 205) rfl) rfl
theorem qs_X4_kindFor : Cond.selects RX4 yX4_kindFor yX4_kindFor ∈ ALLW := inT5 (List.mem_of_getElem? (i := 206) rfl) rfl
theorem qc_X4_kindFor : Cond.code yX4_kindFor cX4_kindFor 9 (some .int) ∈ ALLW := inT5 (List.mem_of_getElem? (i := 207) rfl) rfl
theorem qm_L_158 : Cond.methodLink RL 158 yX4_seed ∈ ALLW := inT5 (List.mem_of_getElem? (i := 208) rfl) rfl
theorem qi_X4_seed : Cond.instanceMethod yX4_seed ∈ ALLW := inT5 (List.mem_of_getElem? (i := 209) rfl) rfl
theorem qs_X4_seed : Cond.selects RX4 yX4_seed yX4_seed ∈ ALLW := inT5 (List.mem_of_getElem? (i := 210) rfl) rfl
theorem qc_X4_seed : Cond.code yX4_seed cX4_seed 2 (some .int) ∈ ALLW := inT5 (List.mem_of_getElem? (i := 211) rfl) rfl
theorem qm_L_162 : Cond.methodLink RL 162 yX4_feed ∈ ALLW := inT5 (List.mem_of_getElem? (i := 212) rfl) rfl
theorem qi_X4_feed : Cond.instanceMethod yX4_feed ∈ ALLW := inT5 (List.mem_of_getElem? (i := 213) rfl) rfl
theorem qs_X4_feed : Cond.selects RX4 yX4_feed yX4_feed ∈ ALLW := inT5 (List.mem_of_getElem? (i := 214) rfl) rfl
theorem qc_X4_feed : Cond.code yX4_feed cX4_feed 4 (some .int) ∈ ALLW := inT5 (List.mem_of_getElem? (i := 215) rfl) rfl
theorem qm_L_166 : Cond.methodLink RL 166 yX4_wipe ∈ ALLW := inT5 (List.mem_of_getElem? (i := 216) rfl) rfl
theorem qi_X4_wipe : Cond.instanceMethod yX4_wipe ∈ ALLW := inT5 (List.mem_of_getElem? (i := 217) rfl) rfl
theorem qs_X4_wipe : Cond.selects RX4 yX4_wipe yX4_wipe ∈ ALLW := inT5 (List.mem_of_getElem? (i := 218) rfl) rfl
theorem qc_X4_wipe : Cond.code yX4_wipe cX4_wipe 2 (some .int) ∈ ALLW := inT5 (List.mem_of_getElem? (i := 219) rfl) rfl
theorem qm_L_170 : Cond.methodLink RL 170 yX4_text ∈ ALLW := inT5 (List.mem_of_getElem? (i := 220) rfl) rfl
theorem qi_X4_text : Cond.instanceMethod yX4_text ∈ ALLW := inT5 (List.mem_of_getElem? (i := 221) rfl) rfl
theorem qs_X4_text : Cond.selects RX4 yX4_text yX4_text ∈ ALLW := inT5 (List.mem_of_getElem? (i := 222) rfl) rfl
theorem qc_X4_text : Cond.code yX4_text cX4_text 2 (some .int) ∈ ALLW := inT5 (List.mem_of_getElem? (i := 223) rfl) rfl
theorem qm_X4_308 : Cond.methodLink RX4 308 yX4_next ∈ ALLW := inT5 (List.mem_of_getElem? (i := 224) rfl) rfl
theorem qi_X4_next : Cond.instanceMethod yX4_next ∈ ALLW := inT5 (List.mem_of_getElem? (i := 226) rfl) rfl
theorem qc_X4_next : Cond.code yX4_next cX4_next 2 none ∈ ALLW := inT5 (List.mem_of_getElem? (i := 227) rfl) rfl
theorem qm_X4_288 : Cond.methodLink RX4 288 yX4_byteAt ∈ ALLW := inT5 (List.mem_of_getElem? (i := 228) rfl) rfl
theorem qi_X4_byteAt : Cond.instanceMethod yX4_byteAt ∈ ALLW := inT5 (List.mem_of_getElem? (i := 230) rfl) rfl
theorem qc_X4_byteAt : Cond.code yX4_byteAt cX4_byteAt 2 (some .int) ∈ ALLW := inT5 (List.mem_of_getElem? (i := 231) rfl) rfl
theorem qm_X4_340 : Cond.methodLink RX4 340 yX4_readItem ∈ ALLW := inT5 (List.mem_of_getElem? (i := 232) rfl) rfl
theorem qi_X4_readItem : Cond.instanceMethod yX4_readItem ∈ ALLW := inT5 (List.mem_of_getElem? (i := 234) rfl) rfl
theorem qc_X4_readItem : Cond.code yX4_readItem cX4_readItem 4 none ∈ ALLW := inT5 (List.mem_of_getElem? (i := 235) rfl) rfl
theorem qm_X4_322 : Cond.methodLink RX4 322 yX4_which ∈ ALLW := inT5 (List.mem_of_getElem? (i := 236) rfl) rfl
theorem qi_X4_which : Cond.instanceMethod yX4_which ∈ ALLW := inT5 (List.mem_of_getElem? (i := 238) rfl) rfl
theorem qc_X4_which : Cond.code yX4_which cX4_which 4 (some .int) ∈ ALLW := inT5 (List.mem_of_getElem? (i := 239) rfl) rfl
theorem qm_X4_318 : Cond.methodLink RX4 318 yX4_isWord ∈ ALLW := inT6 (List.mem_of_getElem? (i := 0) rfl) rfl
theorem qi_X4_isWord : Cond.instanceMethod yX4_isWord ∈ ALLW := inT6 (List.mem_of_getElem? (i := 2) rfl) rfl
theorem qc_X4_isWord : Cond.code yX4_isWord cX4_isWord 4 (some .boolean) ∈ ALLW := inT6 (List.mem_of_getElem? (i := 3) rfl) rfl
theorem qm_X4_297 : Cond.methodLink RX4 297 yJ0_length_8abf5 ∈ ALLW := inT6 (List.mem_of_getElem? (i := 4) rfl) rfl
theorem qm_X4_300 : Cond.methodLink RX4 300 yJ0_charAt_5068e ∈ ALLW := inT6 (List.mem_of_getElem? (i := 5) rfl) rfl
theorem qm_X4_311 : Cond.methodLink RX4 311 yX4_must ∈ ALLW := inT6 (List.mem_of_getElem? (i := 6) rfl) rfl
theorem qi_X4_must : Cond.instanceMethod yX4_must ∈ ALLW := inT6 (List.mem_of_getElem? (i := 8) rfl) rfl
theorem qc_X4_must : Cond.code yX4_must cX4_must 2 none ∈ ALLW := inT6 (List.mem_of_getElem? (i := 9) rfl) rfl
theorem qm_X4_331 : Cond.methodLink RX4 331 yX4_readCell ∈ ALLW := inT6 (List.mem_of_getElem? (i := 11) rfl) rfl
theorem qi_X4_readCell : Cond.instanceMethod yX4_readCell ∈ ALLW := inT6 (List.mem_of_getElem? (i := 13) rfl) rfl
theorem qc_X4_readCell : Cond.code yX4_readCell cX4_readCell 4 (some .int) ∈ ALLW := inT6 (List.mem_of_getElem? (i := 14) rfl) rfl
theorem qm_X4_337 : Cond.methodLink RX4 337 yX4_number ∈ ALLW := inT6 (List.mem_of_getElem? (i := 15) rfl) rfl
theorem qi_X4_number : Cond.instanceMethod yX4_number ∈ ALLW := inT6 (List.mem_of_getElem? (i := 17) rfl) rfl
theorem qc_X4_number : Cond.code yX4_number cX4_number 4 (some .int) ∈ ALLW := inT6 (List.mem_of_getElem? (i := 18) rfl) rfl
theorem qm_X4_334 : Cond.methodLink RX4 334 yX4_item ∈ ALLW := inT6 (List.mem_of_getElem? (i := 19) rfl) rfl
theorem qi_X4_item : Cond.instanceMethod yX4_item ∈ ALLW := inT6 (List.mem_of_getElem? (i := 21) rfl) rfl
theorem qc_X4_item : Cond.code yX4_item cX4_item 3 none ∈ ALLW := inT6 (List.mem_of_getElem? (i := 22) rfl) rfl
theorem qm_X4_343 : Cond.methodLink RX4 343 yX4_isSo ∈ ALLW := inT6 (List.mem_of_getElem? (i := 23) rfl) rfl
theorem qi_X4_isSo : Cond.instanceMethod yX4_isSo ∈ ALLW := inT6 (List.mem_of_getElem? (i := 25) rfl) rfl
theorem qc_X4_isSo : Cond.code yX4_isSo cX4_isSo 4 none ∈ ALLW := inT6 (List.mem_of_getElem? (i := 26) rfl) rfl
theorem qm_L_174 : Cond.methodLink RL 174 yX4_hold ∈ ALLW := inT6 (List.mem_of_getElem? (i := 27) rfl) rfl
theorem qi_X4_hold : Cond.instanceMethod yX4_hold ∈ ALLW := inT6 (List.mem_of_getElem? (i := 28) rfl) rfl
theorem qs_X4_hold : Cond.selects RX4 yX4_hold yX4_hold ∈ ALLW := inT6 (List.mem_of_getElem? (i := 29) rfl) rfl
theorem qc_X4_hold : Cond.code yX4_hold cX4_hold 3 (some .int) ∈ ALLW := inT6 (List.mem_of_getElem? (i := 30) rfl) rfl
theorem qm_X4_346 : Cond.methodLink RX4 346 yX4_isSpot ∈ ALLW := inT6 (List.mem_of_getElem? (i := 31) rfl) rfl
theorem qs_X4_isSpot : Cond.static yX4_isSpot ∈ ALLW := inT6 (List.mem_of_getElem? (i := 32) rfl) rfl
theorem qc_X4_isSpot : Cond.code yX4_isSpot cX4_isSpot 1 (some .boolean) ∈ ALLW := inT6 (List.mem_of_getElem? (i := 33) rfl) rfl
theorem qm_L_178 : Cond.methodLink RL 178 yX4_as ∈ ALLW := inT6 (List.mem_of_getElem? (i := 34) rfl) rfl
theorem qi_X4_as : Cond.instanceMethod yX4_as ∈ ALLW := inT6 (List.mem_of_getElem? (i := 35) rfl) rfl
theorem qs_X4_as : Cond.selects RX4 yX4_as yX4_as ∈ ALLW := inT6 (List.mem_of_getElem? (i := 36) rfl) rfl
theorem qc_X4_as : Cond.code yX4_as cX4_as 4 (some .int) ∈ ALLW := inT6 (List.mem_of_getElem? (i := 37) rfl) rfl
theorem qk_X4_349 : Cond.constant RX4 349 (-1000006) ∈ ALLW := inT6 (List.mem_of_getElem? (i := 38) rfl) rfl
theorem qk_X4_350 : Cond.constant RX4 350 (-1000003) ∈ ALLW := inT6 (List.mem_of_getElem? (i := 39) rfl) rfl
theorem qm_L_182 : Cond.methodLink RL 182 yX4_sheet ∈ ALLW := inT6 (List.mem_of_getElem? (i := 40) rfl) rfl
theorem qi_X4_sheet : Cond.instanceMethod yX4_sheet ∈ ALLW := inT6 (List.mem_of_getElem? (i := 41) rfl) rfl
theorem qs_X4_sheet : Cond.selects RX4 yX4_sheet yX4_sheet ∈ ALLW := inT6 (List.mem_of_getElem? (i := 42) rfl) rfl
theorem qc_X4_sheet : Cond.code yX4_sheet cX4_sheet 5 (some .int) ∈ ALLW := inT6 (List.mem_of_getElem? (i := 43) rfl) rfl
theorem qm_X4_351 : Cond.methodLink RX4 351 yX4_isSheet ∈ ALLW := inT6 (List.mem_of_getElem? (i := 44) rfl) rfl
theorem qs_X4_isSheet : Cond.static yX4_isSheet ∈ ALLW := inT6 (List.mem_of_getElem? (i := 45) rfl) rfl
theorem qc_X4_isSheet : Cond.code yX4_isSheet cX4_isSheet 1 (some .boolean) ∈ ALLW := inT6 (List.mem_of_getElem? (i := 46) rfl) rfl
theorem qk_X4_354 : Cond.constant RX4 354 (-1000007) ∈ ALLW := inT6 (List.mem_of_getElem? (i := 47) rfl) rfl
theorem qm_L_186 : Cond.methodLink RL 186 yX4_write ∈ ALLW := inT6 (List.mem_of_getElem? (i := 48) rfl) rfl
theorem qi_X4_write : Cond.instanceMethod yX4_write ∈ ALLW := inT6 (List.mem_of_getElem? (i := 49) rfl) rfl
theorem qs_X4_write : Cond.selects RX4 yX4_write yX4_write ∈ ALLW := inT6 (List.mem_of_getElem? (i := 50) rfl) rfl
theorem qc_X4_write : Cond.code yX4_write cX4_write 4 (some .int) ∈ ALLW := inT6 (List.mem_of_getElem? (i := 51) rfl) rfl
theorem qm_X4_355 : Cond.methodLink RX4 355 yX4_cutTo ∈ ALLW := inT6 (List.mem_of_getElem? (i := 52) rfl) rfl
theorem qs_X4_cutTo : Cond.static yX4_cutTo ∈ ALLW := inT6 (List.mem_of_getElem? (i := 53) rfl) rfl
theorem qc_X4_cutTo : Cond.code yX4_cutTo cX4_cutTo 2 (some .int) ∈ ALLW := inT6 (List.mem_of_getElem? (i := 54) rfl) rfl
theorem qm_L_191 : Cond.methodLink RL 191 yX4_copy ∈ ALLW := inT6 (List.mem_of_getElem? (i := 55) rfl) rfl
theorem qi_X4_copy : Cond.instanceMethod yX4_copy ∈ ALLW := inT6 (List.mem_of_getElem? (i := 56) rfl) rfl
theorem qs_X4_copy : Cond.selects RX4 yX4_copy yX4_copy ∈ ALLW := inT6 (List.mem_of_getElem? (i := 57) rfl) rfl
theorem qc_X4_copy : Cond.code yX4_copy cX4_copy 7 (some .int) ∈ ALLW := inT6 (List.mem_of_getElem? (i := 58) rfl) rfl
theorem qm_L_195 : Cond.methodLink RL 195 yX4_load ∈ ALLW := inT6 (List.mem_of_getElem? (i := 59) rfl) rfl
theorem qi_X4_load : Cond.instanceMethod yX4_load ∈ ALLW := inT6 (List.mem_of_getElem? (i := 60) rfl) rfl
theorem qs_X4_load : Cond.selects RX4 yX4_load yX4_load ∈ ALLW := inT6 (List.mem_of_getElem? (i := 61) rfl) rfl
theorem qc_X4_load : Cond.code yX4_load cX4_load 3 (some .int) ∈ ALLW := inT6 (List.mem_of_getElem? (i := 62) rfl) rfl
theorem qm_L_199 : Cond.methodLink RL 199 yX4_judge ∈ ALLW := inT6 (List.mem_of_getElem? (i := 63) rfl) rfl
theorem qi_X4_judge : Cond.instanceMethod yX4_judge ∈ ALLW := inT6 (List.mem_of_getElem? (i := 64) rfl) rfl
theorem qs_X4_judge : Cond.selects RX4 yX4_judge yX4_judge ∈ ALLW := inT6 (List.mem_of_getElem? (i := 65) rfl) rfl
theorem qc_X4_judge : Cond.code yX4_judge cX4_judge 3 (some .int) ∈ ALLW := inT6 (List.mem_of_getElem? (i := 66) rfl) rfl
theorem qm_L_203 : Cond.methodLink RL 203 yX4_image ∈ ALLW := inT6 (List.mem_of_getElem? (i := 67) rfl) rfl
theorem qi_X4_image : Cond.instanceMethod yX4_image ∈ ALLW := inT6 (List.mem_of_getElem? (i := 68) rfl) rfl
theorem qs_X4_image : Cond.selects RX4 yX4_image yX4_image ∈ ALLW := inT6 (List.mem_of_getElem? (i := 69) rfl) rfl
theorem qc_X4_image : Cond.code yX4_image cX4_image 1 (some .int) ∈ ALLW := inT6 (List.mem_of_getElem? (i := 70) rfl) rfl
theorem qm_L_207 : Cond.methodLink RL 207 yX4_undo ∈ ALLW := inT6 (List.mem_of_getElem? (i := 71) rfl) rfl
theorem qi_X4_undo : Cond.instanceMethod yX4_undo ∈ ALLW := inT6 (List.mem_of_getElem? (i := 72) rfl) rfl
theorem qs_X4_undo : Cond.selects RX4 yX4_undo yX4_undo ∈ ALLW := inT6 (List.mem_of_getElem? (i := 73) rfl) rfl
theorem qc_X4_undo : Cond.code yX4_undo cX4_undo 1 (some .int) ∈ ALLW := inT6 (List.mem_of_getElem? (i := 74) rfl) rfl
theorem qm_L_211 : Cond.methodLink RL 211 yX4_tear ∈ ALLW := inT6 (List.mem_of_getElem? (i := 75) rfl) rfl
theorem qi_X4_tear : Cond.instanceMethod yX4_tear ∈ ALLW := inT6 (List.mem_of_getElem? (i := 76) rfl) rfl
theorem qs_X4_tear : Cond.selects RX4 yX4_tear yX4_tear ∈ ALLW := inT6 (List.mem_of_getElem? (i := 77) rfl) rfl
theorem qc_X4_tear : Cond.code yX4_tear cX4_tear 2 (some .int) ∈ ALLW := inT6 (List.mem_of_getElem? (i := 78) rfl) rfl
theorem qm_L_215 : Cond.methodLink RL 215 yX4_count ∈ ALLW := inT6 (List.mem_of_getElem? (i := 79) rfl) rfl
theorem qi_X4_count : Cond.instanceMethod yX4_count ∈ ALLW := inT6 (List.mem_of_getElem? (i := 80) rfl) rfl
theorem qs_X4_count : Cond.selects RX4 yX4_count yX4_count ∈ ALLW := inT6 (List.mem_of_getElem? (i := 81) rfl) rfl
theorem qc_X4_count : Cond.code yX4_count cX4_count 4 (some .int) ∈ ALLW := inT6 (List.mem_of_getElem? (i := 82) rfl) rfl
theorem qm_L_219 : Cond.methodLink RL 219 yX4_status ∈ ALLW := inT6 (List.mem_of_getElem? (i := 83) rfl) rfl
theorem qi_X4_status : Cond.instanceMethod yX4_status ∈ ALLW := inT6 (List.mem_of_getElem? (i := 84) rfl) rfl
theorem qs_X4_status : Cond.selects RX4 yX4_status yX4_status ∈ ALLW := inT6 (List.mem_of_getElem? (i := 85) rfl) rfl
theorem qc_X4_status : Cond.code yX4_status cX4_status 2 (some .int) ∈ ALLW := inT6 (List.mem_of_getElem? (i := 86) rfl) rfl
theorem qf_J0_9 : Cond.fieldLink RJ0 9 "java/lang/String" "value" "[B" ∈ ALLW := inT6 (List.mem_of_getElem? (i := 87) rfl) rfl
theorem qf_J0_15 : Cond.fieldLink RJ0 15 "java/lang/String" "coder" "B" ∈ ALLW := inT6 (List.mem_of_getElem? (i := 88) rfl) rfl
theorem qs_X3_found : Cond.selects RX3 yX3_found yX3_found ∈ ALLW := inV1 (List.mem_of_getElem? (i := 0) rfl)
theorem qs_X3_isCoin : Cond.selects RX3 yX3_isCoin yX3_isCoin ∈ ALLW := inV1 (List.mem_of_getElem? (i := 1) rfl)
theorem qs_X3_passesEnd : Cond.selects RX3 yX3_passesEnd yX3_passesEnd ∈ ALLW := inV1 (List.mem_of_getElem? (i := 2) rfl)
theorem qs_X3_isSearched : Cond.selects RX3 yX3_isSearched yX3_isSearched ∈ ALLW := inV1 (List.mem_of_getElem? (i := 3) rfl)
theorem qs_X3_gainBy : Cond.selects RX3 yX3_gainBy yX3_gainBy ∈ ALLW := inV1 (List.mem_of_getElem? (i := 4) rfl)
theorem qs_X3_canDrop : Cond.selects RX3 yX3_canDrop yX3_canDrop ∈ ALLW := inV1 (List.mem_of_getElem? (i := 5) rfl)
theorem qs_X3_gainOfThree : Cond.selects RX3 yX3_gainOfThree yX3_gainOfThree ∈ ALLW := inV1 (List.mem_of_getElem? (i := 6) rfl)
theorem qs_X3_walk : Cond.selects RX3 yX3_walk yX3_walk ∈ ALLW := inV1 (List.mem_of_getElem? (i := 7) rfl)
theorem qs_X3_soonestWay : Cond.selects RX3 yX3_soonestWay yX3_soonestWay ∈ ALLW := inV1 (List.mem_of_getElem? (i := 8) rfl)
theorem qs_X3_readText : Cond.selects RX3 yX3_readText yX3_readText ∈ ALLW := inV1 (List.mem_of_getElem? (i := 9) rfl)
theorem qs_X3_readItem : Cond.selects RX3 yX3_readItem yX3_readItem ∈ ALLW := inV1 (List.mem_of_getElem? (i := 10) rfl)
theorem qs_X3_readCoin : Cond.selects RX3 yX3_readCoin yX3_readCoin ∈ ALLW := inV1 (List.mem_of_getElem? (i := 11) rfl)
theorem qs_X3_readSetting : Cond.selects RX3 yX3_readSetting yX3_readSetting ∈ ALLW := inV1 (List.mem_of_getElem? (i := 12) rfl)
theorem qs_X4_finding : Cond.selects RX4 yX4_finding yX4_finding ∈ ALLW := inV1 (List.mem_of_getElem? (i := 13) rfl)
theorem qs_X4_struck : Cond.selects RX4 yX4_struck yX4_struck ∈ ALLW := inV1 (List.mem_of_getElem? (i := 14) rfl)
theorem qs_X4_isCoin : Cond.selects RX4 yX4_isCoin yX4_isCoin ∈ ALLW := inV1 (List.mem_of_getElem? (i := 15) rfl)
theorem qs_X4_kindOf : Cond.selects RX4 yX4_kindOf yX4_kindOf ∈ ALLW := inV2 (List.mem_of_getElem? (i := 0) rfl)
theorem qs_X4_highOf : Cond.selects RX4 yX4_highOf yX4_highOf ∈ ALLW := inV2 (List.mem_of_getElem? (i := 1) rfl)
theorem qs_X4_coinAt : Cond.selects RX4 yX4_coinAt yX4_coinAt ∈ ALLW := inV2 (List.mem_of_getElem? (i := 2) rfl)
theorem qs_X4_worth : Cond.selects RX4 yX4_worth yX4_worth ∈ ALLW := inV2 (List.mem_of_getElem? (i := 3) rfl)
theorem qs_X4_weighs : Cond.selects RX4 yX4_weighs yX4_weighs ∈ ALLW := inV2 (List.mem_of_getElem? (i := 4) rfl)
theorem qs_X4_slides : Cond.selects RX4 yX4_slides yX4_slides ∈ ALLW := inV2 (List.mem_of_getElem? (i := 5) rfl)
theorem qs_X4_become : Cond.selects RX4 yX4_become yX4_become ∈ ALLW := inV2 (List.mem_of_getElem? (i := 6) rfl)
theorem qs_X4_comesOn : Cond.selects RX4 yX4_comesOn yX4_comesOn ∈ ALLW := inV2 (List.mem_of_getElem? (i := 7) rfl)
theorem qs_X4_taken : Cond.selects RX4 yX4_taken yX4_taken ∈ ALLW := inV2 (List.mem_of_getElem? (i := 8) rfl)
theorem qs_X4_topOf : Cond.selects RX4 yX4_topOf yX4_topOf ∈ ALLW := inV2 (List.mem_of_getElem? (i := 9) rfl)
theorem qs_X4_isInHand : Cond.selects RX4 yX4_isInHand yX4_isInHand ∈ ALLW := inV2 (List.mem_of_getElem? (i := 10) rfl)
theorem qs_X4_gain : Cond.selects RX4 yX4_gain yX4_gain ∈ ALLW := inV2 (List.mem_of_getElem? (i := 11) rfl)
theorem qs_X4_setOf : Cond.selects RX4 yX4_setOf yX4_setOf ∈ ALLW := inV2 (List.mem_of_getElem? (i := 12) rfl)
theorem qs_X4_worthOf : Cond.selects RX4 yX4_worthOf yX4_worthOf ∈ ALLW := inV2 (List.mem_of_getElem? (i := 13) rfl)
theorem qs_X4_dropped : Cond.selects RX4 yX4_dropped yX4_dropped ∈ ALLW := inV2 (List.mem_of_getElem? (i := 14) rfl)
theorem qs_X4_beat : Cond.selects RX4 yX4_beat yX4_beat ∈ ALLW := inV2 (List.mem_of_getElem? (i := 15) rfl)
theorem qs_X4_isMoved : Cond.selects RX4 yX4_isMoved yX4_isMoved ∈ ALLW := inV3 (List.mem_of_getElem? (i := 0) rfl)
theorem qs_X4_runOf : Cond.selects RX4 yX4_runOf yX4_runOf ∈ ALLW := inV3 (List.mem_of_getElem? (i := 1) rfl)
theorem qs_X4_weightOf : Cond.selects RX4 yX4_weightOf yX4_weightOf ∈ ALLW := inV3 (List.mem_of_getElem? (i := 2) rfl)
theorem qs_X4_goesOn : Cond.selects RX4 yX4_goesOn yX4_goesOn ∈ ALLW := inV3 (List.mem_of_getElem? (i := 3) rfl)
theorem qs_X4_goesOver : Cond.selects RX4 yX4_goesOver yX4_goesOver ∈ ALLW := inV3 (List.mem_of_getElem? (i := 4) rfl)
theorem qs_X4_isLeaning : Cond.selects RX4 yX4_isLeaning yX4_isLeaning ∈ ALLW := inV3 (List.mem_of_getElem? (i := 5) rfl)
theorem qs_X4_slidesOff : Cond.selects RX4 yX4_slidesOff yX4_slidesOff ∈ ALLW := inV3 (List.mem_of_getElem? (i := 6) rfl)
theorem qs_X4_isTooLate : Cond.selects RX4 yX4_isTooLate yX4_isTooLate ∈ ALLW := inV3 (List.mem_of_getElem? (i := 7) rfl)
theorem qs_X4_beatsGo : Cond.selects RX4 yX4_beatsGo yX4_beatsGo ∈ ALLW := inV3 (List.mem_of_getElem? (i := 8) rfl)
theorem qs_X4_shelf : Cond.selects RX4 yX4_shelf yX4_shelf ∈ ALLW := inV3 (List.mem_of_getElem? (i := 9) rfl)
theorem qs_X4_highest : Cond.selects RX4 yX4_highest yX4_highest ∈ ALLW := inV3 (List.mem_of_getElem? (i := 10) rfl)
theorem qs_X4_putBack : Cond.selects RX4 yX4_putBack yX4_putBack ∈ ALLW := inV3 (List.mem_of_getElem? (i := 11) rfl)
theorem qs_X4_isOnShelf : Cond.selects RX4 yX4_isOnShelf yX4_isOnShelf ∈ ALLW := inV3 (List.mem_of_getElem? (i := 12) rfl)
theorem qs_X4_refuses : Cond.selects RX4 yX4_refuses yX4_refuses ∈ ALLW := inV3 (List.mem_of_getElem? (i := 13) rfl)
theorem qs_X4_gainBy : Cond.selects RX4 yX4_gainBy yX4_gainBy ∈ ALLW := inV3 (List.mem_of_getElem? (i := 14) rfl)
theorem qs_X4_bestWay : Cond.selects RX4 yX4_bestWay yX4_bestWay ∈ ALLW := inV3 (List.mem_of_getElem? (i := 15) rfl)
theorem qs_X4_refusesThree : Cond.selects RX4 yX4_refusesThree yX4_refusesThree ∈ ALLW := inV4 (List.mem_of_getElem? (i := 0) rfl)
theorem qs_X4_dropsBy : Cond.selects RX4 yX4_dropsBy yX4_dropsBy ∈ ALLW := inV4 (List.mem_of_getElem? (i := 1) rfl)
theorem qs_X4_leastInHand : Cond.selects RX4 yX4_leastInHand yX4_leastInHand ∈ ALLW := inV4 (List.mem_of_getElem? (i := 2) rfl)
theorem qs_X4_refusesSoon : Cond.selects RX4 yX4_refusesSoon yX4_refusesSoon ∈ ALLW := inV4 (List.mem_of_getElem? (i := 3) rfl)
theorem qs_X4_findSoonest : Cond.selects RX4 yX4_findSoonest yX4_findSoonest ∈ ALLW := inV4 (List.mem_of_getElem? (i := 4) rfl)
theorem qs_X4_refusesWays : Cond.selects RX4 yX4_refusesWays yX4_refusesWays ∈ ALLW := inV4 (List.mem_of_getElem? (i := 5) rfl)
theorem qs_X4_drawn : Cond.selects RX4 yX4_drawn yX4_drawn ∈ ALLW := inV4 (List.mem_of_getElem? (i := 6) rfl)
theorem qs_X4_wonIn : Cond.selects RX4 yX4_wonIn yX4_wonIn ∈ ALLW := inV4 (List.mem_of_getElem? (i := 7) rfl)
theorem qs_X4_refusesShelf : Cond.selects RX4 yX4_refusesShelf yX4_refusesShelf ∈ ALLW := inV4 (List.mem_of_getElem? (i := 8) rfl)
theorem qs_X4_next : Cond.selects RX4 yX4_next yX4_next ∈ ALLW := inV4 (List.mem_of_getElem? (i := 9) rfl)
theorem qs_X4_byteAt : Cond.selects RX4 yX4_byteAt yX4_byteAt ∈ ALLW := inV4 (List.mem_of_getElem? (i := 10) rfl)
theorem qs_X4_readItem : Cond.selects RX4 yX4_readItem yX4_readItem ∈ ALLW := inV4 (List.mem_of_getElem? (i := 11) rfl)
theorem qs_X4_which : Cond.selects RX4 yX4_which yX4_which ∈ ALLW := inV4 (List.mem_of_getElem? (i := 12) rfl)
theorem qs_X4_isWord : Cond.selects RX4 yX4_isWord yX4_isWord ∈ ALLW := inV4 (List.mem_of_getElem? (i := 13) rfl)
theorem qs_X4_must : Cond.selects RX4 yX4_must yX4_must ∈ ALLW := inV4 (List.mem_of_getElem? (i := 14) rfl)
theorem qs_X4_readCell : Cond.selects RX4 yX4_readCell yX4_readCell ∈ ALLW := inV4 (List.mem_of_getElem? (i := 15) rfl)
theorem qs_X4_number : Cond.selects RX4 yX4_number yX4_number ∈ ALLW := inV5 (List.mem_of_getElem? (i := 0) rfl)
theorem qs_X4_item : Cond.selects RX4 yX4_item yX4_item ∈ ALLW := inV5 (List.mem_of_getElem? (i := 1) rfl)
theorem qs_X4_isSo : Cond.selects RX4 yX4_isSo yX4_isSo ∈ ALLW := inV5 (List.mem_of_getElem? (i := 2) rfl)
theorem inX0 : ∀ w ∈ u_ws RX0 TX0 3, w ∈ ALLW := by
  intro w h
  obtain ⟨k, hk, rfl⟩ := List.mem_map.mp h
  replace hk := List.mem_range.mp hk
  clear h
  match k, hk with
  | 0, _ => exact inT1 (List.mem_of_getElem? (i := 112) rfl) rfl
  | 1, _ => exact inT1 (List.mem_of_getElem? (i := 114) rfl) rfl
  | 2, _ => exact inT1 (List.mem_of_getElem? (i := 116) rfl) rfl
  | k + 3, hk => exact absurd hk (by omega)
theorem inX1 : ∀ w ∈ u_ws RX1 TX1 10, w ∈ ALLW := by
  intro w h
  obtain ⟨k, hk, rfl⟩ := List.mem_map.mp h
  replace hk := List.mem_range.mp hk
  clear h
  match k, hk with
  | 0, _ => exact inT1 (List.mem_of_getElem? (i := 47) rfl) rfl
  | 1, _ => exact inT1 (List.mem_of_getElem? (i := 49) rfl) rfl
  | 2, _ => exact inT1 (List.mem_of_getElem? (i := 51) rfl) rfl
  | 3, _ => exact inT1 (List.mem_of_getElem? (i := 53) rfl) rfl
  | 4, _ => exact inT1 (List.mem_of_getElem? (i := 55) rfl) rfl
  | 5, _ => exact inT1 (List.mem_of_getElem? (i := 57) rfl) rfl
  | 6, _ => exact inT1 (List.mem_of_getElem? (i := 59) rfl) rfl
  | 7, _ => exact inT1 (List.mem_of_getElem? (i := 61) rfl) rfl
  | 8, _ => exact inT1 (List.mem_of_getElem? (i := 63) rfl) rfl
  | 9, _ => exact inT1 (List.mem_of_getElem? (i := 65) rfl) rfl
  | k + 10, hk => exact absurd hk (by omega)
theorem inX2 : ∀ w ∈ u_ws RX2 TX2 6, w ∈ ALLW := by
  intro w h
  obtain ⟨k, hk, rfl⟩ := List.mem_map.mp h
  replace hk := List.mem_range.mp hk
  clear h
  match k, hk with
  | 0, _ => exact inT1 (List.mem_of_getElem? (i := 86) rfl) rfl
  | 1, _ => exact inT1 (List.mem_of_getElem? (i := 88) rfl) rfl
  | 2, _ => exact inT1 (List.mem_of_getElem? (i := 90) rfl) rfl
  | 3, _ => exact inT1 (List.mem_of_getElem? (i := 92) rfl) rfl
  | 4, _ => exact inT1 (List.mem_of_getElem? (i := 94) rfl) rfl
  | 5, _ => exact inT1 (List.mem_of_getElem? (i := 96) rfl) rfl
  | k + 6, hk => exact absurd hk (by omega)
theorem inX3 : ∀ w ∈ u_ws RX3 TX3 8, w ∈ ALLW := by
  intro w h
  obtain ⟨k, hk, rfl⟩ := List.mem_map.mp h
  replace hk := List.mem_range.mp hk
  clear h
  match k, hk with
  | 0, _ => exact inT1 (List.mem_of_getElem? (i := 127) rfl) rfl
  | 1, _ => exact inT1 (List.mem_of_getElem? (i := 129) rfl) rfl
  | 2, _ => exact inT1 (List.mem_of_getElem? (i := 131) rfl) rfl
  | 3, _ => exact inT1 (List.mem_of_getElem? (i := 133) rfl) rfl
  | 4, _ => exact inT1 (List.mem_of_getElem? (i := 135) rfl) rfl
  | 5, _ => exact inT1 (List.mem_of_getElem? (i := 137) rfl) rfl
  | 6, _ => exact inT1 (List.mem_of_getElem? (i := 139) rfl) rfl
  | 7, _ => exact inT1 (List.mem_of_getElem? (i := 141) rfl) rfl
  | k + 8, hk => exact absurd hk (by omega)
theorem inX4 : ∀ w ∈ u_ws RX4 TX4 27, w ∈ ALLW := by
  intro w h
  obtain ⟨k, hk, rfl⟩ := List.mem_map.mp h
  replace hk := List.mem_range.mp hk
  clear h
  match k, hk with
  | 0, _ => exact inT4 (List.mem_of_getElem? (i := 40) rfl) rfl
  | 1, _ => exact inT4 (List.mem_of_getElem? (i := 42) rfl) rfl
  | 2, _ => exact inT4 (List.mem_of_getElem? (i := 44) rfl) rfl
  | 3, _ => exact inT4 (List.mem_of_getElem? (i := 46) rfl) rfl
  | 4, _ => exact inT4 (List.mem_of_getElem? (i := 48) rfl) rfl
  | 5, _ => exact inT4 (List.mem_of_getElem? (i := 50) rfl) rfl
  | 6, _ => exact inT4 (List.mem_of_getElem? (i := 52) rfl) rfl
  | 7, _ => exact inT4 (List.mem_of_getElem? (i := 54) rfl) rfl
  | 8, _ => exact inT4 (List.mem_of_getElem? (i := 56) rfl) rfl
  | 9, _ => exact inT4 (List.mem_of_getElem? (i := 58) rfl) rfl
  | 10, _ => exact inT4 (List.mem_of_getElem? (i := 60) rfl) rfl
  | 11, _ => exact inT4 (List.mem_of_getElem? (i := 62) rfl) rfl
  | 12, _ => exact inT4 (List.mem_of_getElem? (i := 64) rfl) rfl
  | 13, _ => exact inT4 (List.mem_of_getElem? (i := 66) rfl) rfl
  | 14, _ => exact inT4 (List.mem_of_getElem? (i := 68) rfl) rfl
  | 15, _ => exact inT4 (List.mem_of_getElem? (i := 70) rfl) rfl
  | 16, _ => exact inT4 (List.mem_of_getElem? (i := 72) rfl) rfl
  | 17, _ => exact inT4 (List.mem_of_getElem? (i := 74) rfl) rfl
  | 18, _ => exact inT4 (List.mem_of_getElem? (i := 76) rfl) rfl
  | 19, _ => exact inT4 (List.mem_of_getElem? (i := 78) rfl) rfl
  | 20, _ => exact inT4 (List.mem_of_getElem? (i := 80) rfl) rfl
  | 21, _ => exact inT4 (List.mem_of_getElem? (i := 82) rfl) rfl
  | 22, _ => exact inT4 (List.mem_of_getElem? (i := 84) rfl) rfl
  | 23, _ => exact inT4 (List.mem_of_getElem? (i := 86) rfl) rfl
  | 24, _ => exact inT4 (List.mem_of_getElem? (i := 88) rfl) rfl
  | 25, _ => exact inT4 (List.mem_of_getElem? (i := 90) rfl) rfl
  | 26, _ => exact inT4 (List.mem_of_getElem? (i := 92) rfl) rfl
  | k + 27, hk => exact absurd hk (by omega)
end
section
/-! THE J LAYER: one world for both sides (70 objects at addresses ad 0 .. ad 69), its mutable ints as two functions x, mm (object, slot -> int). -/
abbrev St : Type := Nat → Nat → Int32
abbrev GG : Type := va_G × (Nat → ClassId) × (Nat → Nat) × (Nat → Nat) × (Nat → Nat) × (Nat → Nat)
abbrev ad (g : GG) (k : Nat) : Nat := g.2.2.1 k
abbrev adS (g : GG) (k : Nat) : Nat := g.2.2.2.1 k
abbrev adK (g : GG) (k : Nat) : Nat := g.2.2.2.2.1 k
abbrev adV (g : GG) (k : Nat) : Nat := g.2.2.2.2.2 k
def ups (x : St) (k j : Nat) (v : Int32) : St := fun a b => if a = k then (if b = j then v else x a b) else x a b
def setr (x : St) (k : Nat) (f : Nat → Int32) : St := fun a => if a = k then f else x a
def blk (x : St) (k : Nat) : St := fun j => x (k + j)
def put (x : St) (k n : Nat) (S : St) : St := fun a => if k ≤ a then (if a < k + n then S (a - k) else x a) else x a
def rd (x : St) (k n : Nat) (i : Int32) : Option Int32 := if i < 0 ∨ n ≤ i.toNatClampNeg then none else some (x k i.toNatClampNeg)
def wr (x : St) (k n : Nat) (i v : Int32) : Option St := if i < 0 ∨ n ≤ i.toNatClampNeg then none else some (ups x k i.toNatClampNeg v)
def rdc (n : Nat) (f : Nat → Int32) (i : Int32) : Option Int32 := if i < 0 ∨ n ≤ i.toNatClampNeg then none else some (f i.toNatClampNeg)
def rdn (n : Nat) (f : Nat → Nat) (i : Int32) : Option Nat := if i < 0 ∨ n ≤ i.toNatClampNeg then none else some (f i.toNatClampNeg)
def dvn (a b : Int32) : Option Int32 := if b = 0 then none else some (a / b)
def rmn (a b : Int32) : Option Int32 := if b = 0 then none else some (a - a / b * b)
def bl (v : Int32) : Option Int32 := if v = 0 ∨ v = 1 then some v else none
theorem bnd {α β : Type} {o : Option α} {f : α → Option β} {r : β} (h : o.bind f = some r) : ∃ v, o = some v ∧ f v = some r := by
  cases o with
  | none => cases h
  | some v => exact ⟨v, rfl, h⟩
theorem rd_ok {x : St} {k n : Nat} {i v : Int32} (h : rd x k n i = some v) : vp_in i n ∧ x k i.toNatClampNeg = v := by
  unfold rd at h
  split at h
  · cases h
  · rename_i q
    exact ⟨q, Option.some.inj h⟩
theorem wr_ok {x y : St} {k n : Nat} {i v : Int32} (h : wr x k n i v = some y) : vp_in i n ∧ ups x k i.toNatClampNeg v = y := by
  unfold wr at h
  split at h
  · cases h
  · rename_i q
    exact ⟨q, Option.some.inj h⟩
theorem rdc_ok {n : Nat} {f : Nat → Int32} {i v : Int32} (h : rdc n f i = some v) : vp_in i n ∧ f i.toNatClampNeg = v := by
  unfold rdc at h
  split at h
  · cases h
  · rename_i q
    exact ⟨q, Option.some.inj h⟩
theorem rdn_ok {n : Nat} {f : Nat → Nat} {i : Int32} {v : Nat} (h : rdn n f i = some v) : vp_in i n ∧ f i.toNatClampNeg = v := by
  unfold rdn at h
  split at h
  · cases h
  · rename_i q
    exact ⟨q, Option.some.inj h⟩
theorem dvn_ok {a b v : Int32} (h : dvn a b = some v) : ¬ b = 0 ∧ a / b = v := by
  unfold dvn at h
  split at h
  · cases h
  · rename_i q
    exact ⟨q, Option.some.inj h⟩
theorem rmn_ok {a b v : Int32} (h : rmn a b = some v) : ¬ b = 0 ∧ a - a / b * b = v := by
  unfold rmn at h
  split at h
  · cases h
  · rename_i q
    exact ⟨q, Option.some.inj h⟩
theorem bl_ok {v w : Int32} (h : bl v = some w) : v = w ∧ (v = 0 ∨ v = 1) := by
  unfold bl at h
  split at h
  · rename_i q
    rcases q with rfl | rfl
    · exact ⟨Option.some.inj h, Or.inl rfl⟩
    · exact ⟨Option.some.inj h, Or.inr rfl⟩
  · cases h
theorem put_blk (x : St) (k n : Nat) : put x k n (blk x k) = x := by
  funext a
  unfold put blk
  split
  · split
    · rename_i h _
      rw [Nat.add_sub_cancel' h]
    · rfl
  · rfl
theorem put_in {x S : St} {k n j : Nat} (h : j < n) : put x k n S (k + j) = S j := by
  unfold put
  rw [if_pos (Nat.le_add_right k j), if_pos (Nat.add_lt_add_left h k), Nat.add_sub_cancel_left]
theorem put_0 {x S : St} {k n : Nat} (h : 0 < n) : put x k n S k = S 0 := put_in (j := 0) h
theorem put_put (x S S' : St) (k n : Nat) : put (put x k n S) k n S' = put x k n S' := by
  funext a
  unfold put
  split
  · split
    · rfl
    · rfl
  · rfl
theorem ups_put {x S : St} {k n j i : Nat} {v : Int32} (h : j < n) : ups (put x k n S) (k + j) i v = put x k n (ups S j i v) := by
  funext a b
  unfold ups put
  by_cases h1 : k ≤ a
  · by_cases h2 : a < k + n
    · simp only [h1, h2, if_true]
      by_cases h3 : a = k + j
      · have h4 : a - k = j := by omega
        simp only [h3, h4, if_true, Nat.add_sub_cancel_left]
      · have h4 : ¬ a - k = j := by omega
        simp only [h3, h4, if_false]
    · have h3 : ¬ a = k + j := by omega
      simp only [h1, h2, h3, if_true, if_false]
  · have h3 : ¬ a = k + j := by omega
    simp only [h1, h3, if_false]
theorem setr_put {x S : St} {k n j : Nat} {f : Nat → Int32} (h : j < n) : setr (put x k n S) (k + j) f = put x k n (setr S j f) := by
  funext a
  unfold setr put
  by_cases h1 : k ≤ a
  · by_cases h2 : a < k + n
    · simp only [h1, h2, if_true]
      by_cases h3 : a = k + j
      · have h4 : a - k = j := by omega
        simp only [h3, h4, if_true, Nat.add_sub_cancel_left]
      · have h4 : ¬ a - k = j := by omega
        simp only [h3, h4, if_false]
    · have h3 : ¬ a = k + j := by omega
      simp only [h1, h2, h3, if_true, if_false]
  · have h3 : ¬ a = k + j := by omega
    simp only [h1, h3, if_false]
/-! the layout -/
def isSh (k : Nat) : Bool := k == 1 || (k == 8 || (k == 15 || (k == 27 || (k == 34 || k == 41))))
def isSt (k : Nat) : Bool := k == 48 || (k == 50 || (k == 52 || k == 54))
def shl (j : Nat) : Nat := [0, 24, 24, 42, 168, 3, 10].getD j 0
def lvl (i : Nat) : Nat := [1, 27, 34, 41].getD i 0
def sht (i : Nat) : Nat := [48, 50, 52, 54].getD i 0
def alX (k : Nat) : Nat := if isSh (k - 1) then 24 else if isSh (k - 2) then 24 else if isSh (k - 3) then 42 else if isSh (k - 4) then 168 else if isSh (k - 5) then 3 else if isSh (k - 6) then 10 else if k = 24 then 120 else if k = 26 then 7 else 40
def alM (j : Nat) : Nat := [0, 275, 275, 275, 8, 120, 7, 3, 240, 42, 4, 4, 160, 40].getD j 0
def fsS (g : GG) (k : Nat) (F : Nat → Int32) : List Value := [.ref (ad g (k + 1)), .ref (ad g (k + 2)), .ref (ad g (k + 3)), .ref (ad g (k + 4)), .ref (ad g (k + 5)), .ref (ad g (k + 6)), .int (F 6), .int (F 7), .int (F 8), .int (F 9)]
def fsT (g : GG) (k : Nat) (F : Nat → Int32) : List Value := [.ref (ad g (k + 1)), .int (F 1), .int (F 2), .int (F 3), .int (F 4), .int (F 5)]
def fsH (g : GG) (k : Nat) (F : Nat → Int32) : List Value := [.ref (ad g (k + 1)), .int (F 1), .int (F 2)]
def fsP (g : GG) (F : Nat → Int32) : List Value := [.ref (ad g 1), .ref (ad g 8), .int (F 2), .ref (ad g 15), .ref (ad g 22), .ref (ad g 23), .ref (ad g 25), .ref (ad g 26)]
def fsM (g : GG) (F : Nat → Int32) : List Value := [.ref (ad g 57), .ref (ad g 58), .ref (ad g 59), .int (F 3), .ref (ad g 60), .int (F 5), .int (F 6), .int (F 7), .int (F 8), .int (F 9), .ref (ad g 61), .int (F 11), .int (F 12), .int (F 13), .int (F 14), .int (F 15), .int (F 16), .ref (ad g 62), .ref (ad g 63), .ref (ad g 64), .int (F 20), .int (F 21), .ref (ad g 65), .ref (ad g 66), .ref (ad g 67), .ref (ad g 68), .ref (ad g 69)]
def entX (g : GG) (k : Nat) (F : Nat → Int32) : va_E := if isSh k then .inr (1, fsS g k F) else if isSt k then .inr (0, fsH g k F) else if k = 0 then .inr (3, fsP g F) else if k = 23 then .inr (2, fsT g k F) else if k = 22 then .inl (g.2.1 1, 4, .inr (.inr (.inr (.inr (fun i => some (ad g (lvl i))))))) else if k = 25 then .inl (g.2.1 2, 4, .inr (.inr (.inr (.inr (fun i => some (ad g (sht i))))))) else .inl (g.2.1 0, alX k, .inl F)
def entM (g : GG) (j : Nat) (F : Nat → Int32) : va_E := if j = 0 then .inr (4, fsM g F) else if j = 6 then .inl (g.2.1 3, 7, .inr (.inr (.inr (.inr (fun i => some (adK g i)))))) else if j = 7 then .inl (g.2.1 3, 3, .inr (.inr (.inr (.inr (fun i => some (adK g (7 + i))))))) else .inl (g.2.1 0, alM j, .inl F)
def ent (g : GG) (x mm : St) (k : Nat) : va_E := if k < 56 then entX g k (x k) else entM g (k - 56) (mm (k - 56))
def wl (g : GG) (f : Nat → va_E) : va_W := (List.range 70).map (fun k => (ad g k, f k))
theorem wl_get {g : GG} {f : Nat → va_E} {k : Nat} (h : k < 70) : (wl g f)[k]? = some (ad g k, f k) := by
  unfold wl
  rw [List.getElem?_map, List.getElem?_range h]
  rfl
theorem wl_set {g : GG} {f f' : Nat → va_E} {k : Nat} {e : va_E} (he : f' k = e) (ho : ∀ q, q ≠ k → f' q = f q) : (wl g f).set k (ad g k, e) = wl g f' := by
  apply List.ext_getElem?
  intro i
  rw [List.getElem?_set]
  unfold wl
  by_cases h : k = i
  · subst h
    simp only [if_true, List.length_map, List.length_range, List.getElem?_map]
    by_cases h2 : k < 70
    · rw [if_pos h2, List.getElem?_range h2]
      simp [he]
    · rw [if_neg h2, List.getElem?_eq_none (by simpa using h2)]
      rfl
  · rw [if_neg h, List.getElem?_map, List.getElem?_map]
    by_cases h2 : i < 70
    · rw [List.getElem?_range h2]
      simp [ho i (fun e => h e.symm)]
    · rw [List.getElem?_eq_none (by simpa using h2)]
      rfl
def tysJ (g : GG) : List (ClassId × FieldType) := [(g.2.1 0, .int), (g.2.1 1, .object "PennyLedge$Shelf"), (g.2.1 2, .object "PennyLedge$Sheet"), (g.2.1 3, .object "java/lang/String")]
def Ag (sz : Nat) : Nat → Prop := fun q => sz ≤ q
def stN (i : Nat) : String := ["OVER", "WORTH", "WEIGHS", "SLIDES", "LEAST_SETTING", "MOST_SETTING", "WAYS"].getD i ""
def stL (i : Nat) : Nat := [7, 7, 7, 7, 3, 3, 4].getD i 0
def stC (i : Nat) : Nat → Int32 := fun j => ([[-1, 0, 0, 1, 2, 0, 5], [1, 2, 50, 5, 25, 0, 0], [1, 2, 5, 3, 5, 1, 3], [1, 1, 0, 1, 1, 1, 0], [0, 1, 0], [60, 6, 3], [1, 7, 49, 343]].getD i []).getD j 0
def skL : List Nat := [4, 3, 5, 5, 4, 5, 4, 5, 6, 5, 2]
def skB : List (List Int32) := [[99, 111, 105, 110], [98, 105, 103], [119, 97, 116, 99, 104], [99, 114, 111, 119, 110], [98, 101, 110, 116], [116, 111, 107, 101, 110], [108, 101, 97, 100], [102, 111, 114, 99, 101], [115, 116, 114, 111, 107, 101], [115, 105, 100, 101, 115], [97, 116]]
def skT (i : Nat) : String := ["coin", "big", "watch", "crown", "bent", "token", "lead", "force", "stroke", "sides", "at"].getD i ""
def skX (i : Nat) : Nat := [333, 335, 337, 339, 341, 343, 344, 346, 348, 350, 328].getD i 0
def skM (i : Nat) : Nat := [27, 29, 31, 33, 35, 37, 39, 45, 47, 49, 329].getD i 0
/-- what stands fast: classes, static arrays, strings, addresses -/
def Bs (g : GG) (sz : Nat) (U : State) (H : Heap) : Prop :=
  (va_K g.1 vwCl (tysJ g) U ∧ (∀ i j, i < 70 → j < 70 → ad g i = ad g j → i = j) ∧ ∀ i, i < 70 → sz ≤ ad g i) ∧
  (∀ i, i < 7 → va_Z "PennyLedge" (stN i) "[I" (.ref (adS g i)) (Ag sz) U H ∧ va_T .int (adS g i) (stL i) (fun j => .int (stC i j)) (Ag sz) U H) ∧
  vk_S 11 skL skB (adK g) (adV g) (Ag sz) U H ∧ (∀ i, i < 11 → vk_R "PennyLedge" (skX i) (skT i) (adK g i) U ∧ vk_R "PennyLedgeModel" (skM i) (skT i) (adK g i) U) ∧
  (va_Nw (.fieldLinkNest RX1 60 "PennyLedge" "WORTH" "[I" "PennyLedge") U ∧ va_Nw (.fieldLinkNest RX1 77 "PennyLedge" "WEIGHS" "[I" "PennyLedge") U ∧ va_Nw (.fieldLinkNest RX1 86 "PennyLedge" "SLIDES" "[I" "PennyLedge") U) ∧
  (va_Z "java/lang/String" "COMPACT_STRINGS" "Z" (.int 1) (Ag sz) U H ∧ ∃ v : Value, (v = .null ∨ ∃ t, v = .ref t) ∧ va_Z "jdk/internal/util/Preconditions" "SIOOBE_FORMATTER" "Ljava/util/function/BiFunction;" v (Ag sz) U H)
def Wd (g : GG) (x mm : St) (H : Heap) : Prop := va_P g.1 vwCl (wl g (ent g x mm)) H
theorem Bs.D {g : GG} {sz : Nat} {U : State} {H : Heap} (h : Bs g sz U H) (f : Nat → va_E) : va_D (Ag sz) (wl g f) := by
  have key : ∀ (k : Nat) (q : Nat × va_E), (wl g f)[k]? = some q → k < 70 ∧ q.1 = ad g k := by
    intro k q hq
    by_cases h2 : k < 70
    · rw [wl_get h2] at hq
      cases hq
      exact ⟨h2, rfl⟩
    · unfold wl at hq
      rw [List.getElem?_map, List.getElem?_eq_none (by simpa using h2)] at hq
      cases hq
  refine ⟨fun i j p q hp hq hpq => ?_, fun k q hq => ?_⟩
  · obtain ⟨h1, e1⟩ := key i p hp
    obtain ⟨h2, e2⟩ := key j q hq
    exact h.1.2.1 i j h1 h2 (by rw [← e1, ← e2]; exact hpq)
  · obtain ⟨h1, e1⟩ := key k q hq
    show sz ≤ q.1
    rw [e1]
    exact h.1.2.2 k h1
theorem Bs.blind {g : GG} {sz : Nat} {U : State} {fr : JFrame} {mk : MethodId} {a : Array Value} (h : Bs g sz U U.heap) : Bs g sz (U.calling fr mk a) (U.calling fr mk a).heap := by
  obtain ⟨⟨h1, h2, h3⟩, h4, h5, h6, ⟨n1, n2, n3⟩, z1, v, hv, z2⟩ := h
  have hv2 : U.vm.Alike (U.calling fr mk a).vm := Vm.Alike.refl U.vm
  exact ⟨⟨va_K.moved hv2 h1, h2, h3⟩, fun i hi => ⟨va_Z.moved hv2 (h4 i hi).1, va_T.moved hv2 (h4 i hi).2⟩, vk_S.moved hv2 h5, fun i hi => ⟨vk_R.same rfl (h6 i hi).1, vk_R.same rfl (h6 i hi).2⟩, ⟨n1.same rfl rfl, n2.same rfl rfl, n3.same rfl rfl⟩, va_Z.moved hv2 z1, v, hv, va_Z.moved hv2 z2⟩
theorem Bs.go {g : GG} {sz : Nat} {s U : State} {H : Heap} {locs : List Loc} (h : Bs g sz s s.heap) (hS : va_S (Ag sz) s.heap H locs) (hW : s.WarmedH U.vm) : Bs g sz U H := by
  obtain ⟨⟨h1, h2, h3⟩, h4, h5, h6, ⟨n1, n2, n3⟩, z1, v, hv, z2⟩ := h
  have hv2 : s.vm.Alike U.vm := hW.alike
  exact ⟨⟨va_K.moved hv2 h1, h2, h3⟩, fun i hi => ⟨va_Z.moved hv2 ((h4 i hi).1.kept hS.2.1), va_T.moved hv2 ((h4 i hi).2.kept hS.2.1)⟩, vk_S.moved hv2 (h5.kept hS.2.1), fun i hi => ⟨vk_R.warm hW (h6 i hi).1, vk_R.warm hW (h6 i hi).2⟩, ⟨n1.warmF hW, n2.warmF hW, n3.warmF hW⟩, va_Z.moved hv2 (z1.kept hS.2.1), v, hv, va_Z.moved hv2 (z2.kept hS.2.1)⟩
/-! contracts -/
def PcJ (g : GG) (sz : Nat) (x mm : St) (av : List Value) : Array Value → State → Prop := va_Pc av (fun U => Bs g sz U U.heap ∧ Wd g x mm U.heap)
abbrev QvJ (g : GG) (sz : Nat) (x mm : St) : Array Value → State → Outcome → State → Prop := va_Qv (fun _ : Unit => True) (fun _ t => Wd g x mm t.heap) (Ag sz)
abbrev QiJ (g : GG) (sz : Nat) (r : Int32) (x mm : St) : Array Value → State → Outcome → State → Prop := va_Qi (fun (v : Int32) (_ : Unit) => v = r) (fun _ t => Wd g x mm t.heap) (Ag sz)
abbrev QlJ (g : GG) (sz : Nat) (r : Int64) (x mm : St) : Array Value → State → Outcome → State → Prop := va_Ql (fun (v : Int64) (_ : Unit) => v = r) (fun _ t => Wd g x mm t.heap) (Ag sz)
abbrev QrJ (g : GG) (sz : Nat) (r : Nat) (x mm : St) : Array Value → State → Outcome → State → Prop := va_Qr (fun _ : Unit => True) (fun _ a t => a = r ∧ Wd g x mm t.heap) (Ag sz)
def rmJ (f l : Nat) : Room := { frames := f, cells := 0, slots := 0, locals := l }
theorem PcJ.blind (g : GG) (sz : Nat) (x mm : St) (av : List Value) : FrameBlind (PcJ g sz x mm av) := fun _ _ _ _ q => ⟨q.1, q.2.1.blind, q.2.2⟩
theorem goodAll : ∀ w ∈ ALLW, goodWord w = true := fun w h => List.all_eq_true.mp (by decide +kernel : ALLW.all goodWord = true) w h
theorem gAll {c c' : Cond} (h : c' ∈ ALLW) : GoodIn (c :: ALLW) (c' :: ALLW) := fun w hw => by
  rcases List.mem_cons.mp hw with rfl | hw
  · exact ⟨List.mem_cons_of_mem _ h, good_of_word (goodAll _ h)⟩
  · exact ⟨List.mem_cons_of_mem _ hw, good_of_word (goodAll _ hw)⟩
theorem gLaw {c' : Cond} (h : c' ∈ ALLW) : GoodIn ALLW (c' :: ALLW) := fun w hw => by
  rcases List.mem_cons.mp hw with rfl | hw
  · exact ⟨h, good_of_word (goodAll _ h)⟩
  · exact ⟨hw, good_of_word (goodAll _ hw)⟩
end
section
/-! THE J ROWS: one instruction each, over Wj -/
def Wj (p : Program) (l : Launch) (e : Env) (R : Room) (s : State) (m : MethodId) (args : Array Value) (below : List Frame) (meth : Method) (c : Code) (Q : State → Prop) (nL : Nat) (g : GG) (sz : Nat) (x mm : St) (pc : Nat) (lv : List (Nat × Value)) (st : List Value) : Prop :=
  ∀ (H : Heap) (locs : List Loc) (ls : Array Slot), Wd g x mm H → va_S (Ag sz) s.heap H locs → lv_has ls nL lv → W p l e R s m args below meth c H locs 0 0 Q (F0 m pc ls st)
abbrev Cx (p : Program) (m : MethodId) (c : Code) (cc : ByteArray) (nL : Nat) (s : State) (args : Array Value) (own : String) (g : GG) (sz : Nat) : Prop := CallFix p m c cc nL s args ALLW own ∧ Bs g sz s s.heap
def shl32 (x y : Int32) : Int32 := x <<< (y &&& 31)
def shr32 (x y : Int32) : Int32 := x >>> (y &&& 31)
def ush32 (x y : Int32) : Int32 := (x.toUInt32 >>> (y.toUInt32 &&& Int32.toUInt32 31)).toInt32
section JR
variable {p : Program} {l : Launch} {e : Env} {R : Room} {s : State} {m : MethodId} {args : Array Value} {below : List Frame} {meth : Method} {c : Code} {Q : State → Prop} {cc : ByteArray} {nL : Nat} {own : String} {g : GG} {sz : Nat} {x mm x' m' : St} {pc : Nat} {lv : List (Nat × Value)} {st : List Value}
theorem j_iconst (C : Cx p m c cc nL s args own g sz) {k : Int} {v : Int32} (hd : decode cc pc = .ok (.iconst k, 1)) (hv : Int32.ofInt k = v) (n : Nat) (hn : pc + 1 = n) (kk : Wj p l e R s m args below meth c Q nL g sz x mm n lv (.int v :: st)) : Wj p l e R s m args below meth c Q nL g sz x mm pc lv (st) := fun H locs ls hW hS hl => by
  subst hn
  exact lv_iconst C.1.1 C.1.2.1 hd hv (kk H locs ls hW hS hl)
theorem j_bipush (C : Cx p m c cc nL s args own g sz) {k : Int} {v : Int32} (hd : decode cc pc = .ok (.bipush k, 2)) (hv : (Int8.ofInt k).toInt32 = v) (n : Nat) (hn : pc + 2 = n) (kk : Wj p l e R s m args below meth c Q nL g sz x mm n lv (.int v :: st)) : Wj p l e R s m args below meth c Q nL g sz x mm pc lv (st) := fun H locs ls hW hS hl => by
  subst hn
  exact lv_bipush C.1.1 C.1.2.1 hd hv (kk H locs ls hW hS hl)
theorem j_sipush (C : Cx p m c cc nL s args own g sz) {k : Int} {v : Int32} (hd : decode cc pc = .ok (.sipush k, 3)) (hv : (Int16.ofInt k).toInt32 = v) (n : Nat) (hn : pc + 3 = n) (kk : Wj p l e R s m args below meth c Q nL g sz x mm n lv (.int v :: st)) : Wj p l e R s m args below meth c Q nL g sz x mm pc lv (st) := fun H locs ls hW hS hl => by
  subst hn
  exact lv_sipush C.1.1 C.1.2.1 hd hv (kk H locs ls hW hS hl)
theorem j_ldc (C : Cx p m c cc nL s args own g sz) {k : Nat} {v : Int32} (hd : decode cc pc = .ok (.ldc k, 2)) (hv : Cond.constant own k v ∈ ALLW) (n : Nat) (hn : pc + 2 = n) (kk : Wj p l e R s m args below meth c Q nL g sz x mm n lv (.int v :: st)) : Wj p l e R s m args below meth c Q nL g sz x mm pc lv (st) := fun H locs ls hW hS hl => by
  subst hn
  exact lv_ldc C.1.1 C.1.2.1 C.1.2.2.2.1 (C.1.2.2.2.2 _ hv) hd (kk H locs ls hW hS hl)
theorem j_ldcw (C : Cx p m c cc nL s args own g sz) {k : Nat} {v : Int32} (hd : decode cc pc = .ok (.ldc_w k, 3)) (hv : Cond.constant own k v ∈ ALLW) (n : Nat) (hn : pc + 3 = n) (kk : Wj p l e R s m args below meth c Q nL g sz x mm n lv (.int v :: st)) : Wj p l e R s m args below meth c Q nL g sz x mm pc lv (st) := fun H locs ls hW hS hl => by
  subst hn
  exact lv_ldcw C.1.1 C.1.2.1 C.1.2.2.2.1 (C.1.2.2.2.2 _ hv) hd (kk H locs ls hW hS hl)
theorem j_lconst (C : Cx p m c cc nL s args own g sz) {k : Fin 2} {v : Int64} (hd : decode cc pc = .ok (.lconst k, 1)) (hv : Int64.ofNat (k : Nat) = v) (n : Nat) (hn : pc + 1 = n) (kk : Wj p l e R s m args below meth c Q nL g sz x mm n lv (.long v :: st)) : Wj p l e R s m args below meth c Q nL g sz x mm pc lv (st) := fun H locs ls hW hS hl => by
  subst hn
  exact lv_lconst C.1.1 C.1.2.1 hd hv (kk H locs ls hW hS hl)
theorem j_iload_n (C : Cx p m c cc nL s args own g sz) {k : Fin 4} {i : Nat} {v : Int32} (hd : decode cc pc = .ok (.iload_n k, 1)) (hi : (k : Nat) = i) (q : Nat) (hq : lv[q]? = some (i, .int v)) (n : Nat) (hn : pc + 1 = n) (kk : Wj p l e R s m args below meth c Q nL g sz x mm n lv (.int v :: st)) : Wj p l e R s m args below meth c Q nL g sz x mm pc lv (st) := fun H locs ls hW hS hl => by
  subst hn
  exact lv_iload_n C.1.1 C.1.2.1 hd hi (lv_at hl q hq) (kk H locs ls hW hS hl)
theorem j_iload (C : Cx p m c cc nL s args own g sz) {i : Nat} {v : Int32} (hd : decode cc pc = .ok (.iload i, 2)) (q : Nat) (hq : lv[q]? = some (i, .int v)) (n : Nat) (hn : pc + 2 = n) (kk : Wj p l e R s m args below meth c Q nL g sz x mm n lv (.int v :: st)) : Wj p l e R s m args below meth c Q nL g sz x mm pc lv (st) := fun H locs ls hW hS hl => by
  subst hn
  exact lv_iload C.1.1 C.1.2.1 hd (lv_at hl q hq) (kk H locs ls hW hS hl)
theorem j_lload_n (C : Cx p m c cc nL s args own g sz) {k : Fin 4} {i : Nat} {v : Int64} (hd : decode cc pc = .ok (.lload_n k, 1)) (hi : (k : Nat) = i) (q : Nat) (hq : lv[q]? = some (i, .long v)) (n : Nat) (hn : pc + 1 = n) (kk : Wj p l e R s m args below meth c Q nL g sz x mm n lv (.long v :: st)) : Wj p l e R s m args below meth c Q nL g sz x mm pc lv (st) := fun H locs ls hW hS hl => by
  subst hn
  exact lv_lload_n C.1.1 C.1.2.1 hd hi (lv_at hl q hq) (kk H locs ls hW hS hl)
theorem j_lload (C : Cx p m c cc nL s args own g sz) {i : Nat} {v : Int64} (hd : decode cc pc = .ok (.lload i, 2)) (q : Nat) (hq : lv[q]? = some (i, .long v)) (n : Nat) (hn : pc + 2 = n) (kk : Wj p l e R s m args below meth c Q nL g sz x mm n lv (.long v :: st)) : Wj p l e R s m args below meth c Q nL g sz x mm pc lv (st) := fun H locs ls hW hS hl => by
  subst hn
  exact lv_lload C.1.1 C.1.2.1 hd (lv_at hl q hq) (kk H locs ls hW hS hl)
theorem j_aload_n (C : Cx p m c cc nL s args own g sz) {k : Fin 4} {i : Nat} {a : Nat} (hd : decode cc pc = .ok (.aload_n k, 1)) (hi : (k : Nat) = i) (q : Nat) (hq : lv[q]? = some (i, .ref a)) (n : Nat) (hn : pc + 1 = n) (kk : Wj p l e R s m args below meth c Q nL g sz x mm n lv (.ref a :: st)) : Wj p l e R s m args below meth c Q nL g sz x mm pc lv (st) := fun H locs ls hW hS hl => by
  subst hn
  exact lv_aload_n C.1.1 C.1.2.1 hd hi (lv_at hl q hq) (kk H locs ls hW hS hl)
theorem j_aload (C : Cx p m c cc nL s args own g sz) {i : Nat} {a : Nat} (hd : decode cc pc = .ok (.aload i, 2)) (q : Nat) (hq : lv[q]? = some (i, .ref a)) (n : Nat) (hn : pc + 2 = n) (kk : Wj p l e R s m args below meth c Q nL g sz x mm n lv (.ref a :: st)) : Wj p l e R s m args below meth c Q nL g sz x mm pc lv (st) := fun H locs ls hW hS hl => by
  subst hn
  exact lv_aload C.1.1 C.1.2.1 hd (lv_at hl q hq) (kk H locs ls hW hS hl)
theorem j_istore_n (C : Cx p m c cc nL s args own g sz) {k : Fin 4} {i : Nat} {v : Int32} {lv2 : List (Nat × Value)} (hd : decode cc pc = .ok (.istore_n k, 1)) (hi : (k : Nat) = i) (hb : i < nL) (hl2 : (i, Value.int v) :: lv.filter (fun q => !(q.1 == i) && !(q.1 + 1 == i && q.2.category == 2)) = lv2) (n : Nat) (hn : pc + 1 = n) (kk : Wj p l e R s m args below meth c Q nL g sz x mm n lv2 st) : Wj p l e R s m args below meth c Q nL g sz x mm pc lv (.int v :: st) := fun H locs ls hW hS hl => by
  subst hn
  exact lv_istore_n C.1.1 C.1.2.1 hd hi hl hb hl2 (fun ls2 hl3 => kk H locs ls2 hW hS hl3)
theorem j_istore (C : Cx p m c cc nL s args own g sz) {i : Nat} {v : Int32} {lv2 : List (Nat × Value)} (hd : decode cc pc = .ok (.istore i, 2)) (hb : i < nL) (hl2 : (i, Value.int v) :: lv.filter (fun q => !(q.1 == i) && !(q.1 + 1 == i && q.2.category == 2)) = lv2) (n : Nat) (hn : pc + 2 = n) (kk : Wj p l e R s m args below meth c Q nL g sz x mm n lv2 st) : Wj p l e R s m args below meth c Q nL g sz x mm pc lv (.int v :: st) := fun H locs ls hW hS hl => by
  subst hn
  exact lv_istore C.1.1 C.1.2.1 hd hl hb hl2 (fun ls2 hl3 => kk H locs ls2 hW hS hl3)
theorem j_lstore_n (C : Cx p m c cc nL s args own g sz) {k : Fin 4} {i : Nat} {v : Int64} {lv2 : List (Nat × Value)} (hd : decode cc pc = .ok (.lstore_n k, 1)) (hi : (k : Nat) = i) (hb : i + 1 < nL) (hl2 : (i, Value.long v) :: lv.filter (fun q => !(q.1 == i) && (!(q.1 == i + 1) && !(q.1 + 1 == i && q.2.category == 2))) = lv2) (n : Nat) (hn : pc + 1 = n) (kk : Wj p l e R s m args below meth c Q nL g sz x mm n lv2 st) : Wj p l e R s m args below meth c Q nL g sz x mm pc lv (.long v :: st) := fun H locs ls hW hS hl => by
  subst hn
  exact lv_lstore_n C.1.1 C.1.2.1 hd hi hl hb hl2 (fun ls2 hl3 => kk H locs ls2 hW hS hl3)
theorem j_lstore (C : Cx p m c cc nL s args own g sz) {i : Nat} {v : Int64} {lv2 : List (Nat × Value)} (hd : decode cc pc = .ok (.lstore i, 2)) (hb : i + 1 < nL) (hl2 : (i, Value.long v) :: lv.filter (fun q => !(q.1 == i) && (!(q.1 == i + 1) && !(q.1 + 1 == i && q.2.category == 2))) = lv2) (n : Nat) (hn : pc + 2 = n) (kk : Wj p l e R s m args below meth c Q nL g sz x mm n lv2 st) : Wj p l e R s m args below meth c Q nL g sz x mm pc lv (.long v :: st) := fun H locs ls hW hS hl => by
  subst hn
  exact lv_lstore C.1.1 C.1.2.1 hd hl hb hl2 (fun ls2 hl3 => kk H locs ls2 hW hS hl3)
theorem j_astore_n (C : Cx p m c cc nL s args own g sz) {k : Fin 4} {i : Nat} {v : Nat} {lv2 : List (Nat × Value)} (hd : decode cc pc = .ok (.astore_n k, 1)) (hi : (k : Nat) = i) (hb : i < nL) (hl2 : (i, Value.ref v) :: lv.filter (fun q => !(q.1 == i) && !(q.1 + 1 == i && q.2.category == 2)) = lv2) (n : Nat) (hn : pc + 1 = n) (kk : Wj p l e R s m args below meth c Q nL g sz x mm n lv2 st) : Wj p l e R s m args below meth c Q nL g sz x mm pc lv (.ref v :: st) := fun H locs ls hW hS hl => by
  subst hn
  exact lv_astore_n C.1.1 C.1.2.1 hd hi hl hb hl2 (fun ls2 hl3 => kk H locs ls2 hW hS hl3)
theorem j_astore (C : Cx p m c cc nL s args own g sz) {i : Nat} {v : Nat} {lv2 : List (Nat × Value)} (hd : decode cc pc = .ok (.astore i, 2)) (hb : i < nL) (hl2 : (i, Value.ref v) :: lv.filter (fun q => !(q.1 == i) && !(q.1 + 1 == i && q.2.category == 2)) = lv2) (n : Nat) (hn : pc + 2 = n) (kk : Wj p l e R s m args below meth c Q nL g sz x mm n lv2 st) : Wj p l e R s m args below meth c Q nL g sz x mm pc lv (.ref v :: st) := fun H locs ls hW hS hl => by
  subst hn
  exact lv_astore C.1.1 C.1.2.1 hd hl hb hl2 (fun ls2 hl3 => kk H locs ls2 hW hS hl3)
theorem j_iinc (C : Cx p m c cc nL s args own g sz) {i k : Nat} {d : Int} {u v : Int32} {lv2 : List (Nat × Value)} (hd : decode cc pc = .ok (.iinc i d, 3)) (hk : lv[k]? = some (i, .int u)) (hv : u + Int32.ofInt d = v) (hb : i < nL) (hl2 : (i, Value.int v) :: lv.filter (fun q => !(q.1 == i) && !(q.1 + 1 == i && q.2.category == 2)) = lv2) (n : Nat) (hn : pc + 3 = n) (kk : Wj p l e R s m args below meth c Q nL g sz x mm n lv2 st) : Wj p l e R s m args below meth c Q nL g sz x mm pc lv (st) := fun H locs ls hW hS hl => by
  subst hn
  exact lv_iinc C.1.1 C.1.2.1 hd hl hk hv hb hl2 (fun ls2 hl3 => kk H locs ls2 hW hS hl3)
theorem j_iadd (C : Cx p m c cc nL s args own g sz) {a b : Int32} (hd : decode cc pc = .ok (.iadd, 1)) (n : Nat) (hn : pc + 1 = n) (kk : Wj p l e R s m args below meth c Q nL g sz x mm n lv (.int (a + b) :: st)) : Wj p l e R s m args below meth c Q nL g sz x mm pc lv (.int b :: .int a :: st) := fun H locs ls hW hS hl => by
  subst hn
  exact lv_iadd C.1.1 C.1.2.1 hd (kk H locs ls hW hS hl)
theorem j_isub (C : Cx p m c cc nL s args own g sz) {a b : Int32} (hd : decode cc pc = .ok (.isub, 1)) (n : Nat) (hn : pc + 1 = n) (kk : Wj p l e R s m args below meth c Q nL g sz x mm n lv (.int (a - b) :: st)) : Wj p l e R s m args below meth c Q nL g sz x mm pc lv (.int b :: .int a :: st) := fun H locs ls hW hS hl => by
  subst hn
  exact lv_isub C.1.1 C.1.2.1 hd (kk H locs ls hW hS hl)
theorem j_imul (C : Cx p m c cc nL s args own g sz) {a b : Int32} (hd : decode cc pc = .ok (.imul, 1)) (n : Nat) (hn : pc + 1 = n) (kk : Wj p l e R s m args below meth c Q nL g sz x mm n lv (.int (a * b) :: st)) : Wj p l e R s m args below meth c Q nL g sz x mm pc lv (.int b :: .int a :: st) := fun H locs ls hW hS hl => by
  subst hn
  exact lv_imul C.1.1 C.1.2.1 hd (kk H locs ls hW hS hl)
theorem j_iand (C : Cx p m c cc nL s args own g sz) {a b : Int32} (hd : decode cc pc = .ok (.iand, 1)) (n : Nat) (hn : pc + 1 = n) (kk : Wj p l e R s m args below meth c Q nL g sz x mm n lv (.int (a &&& b) :: st)) : Wj p l e R s m args below meth c Q nL g sz x mm pc lv (.int b :: .int a :: st) := fun H locs ls hW hS hl => by
  subst hn
  exact lv_iand C.1.1 C.1.2.1 hd (kk H locs ls hW hS hl)
theorem j_ior (C : Cx p m c cc nL s args own g sz) {a b : Int32} (hd : decode cc pc = .ok (.ior, 1)) (n : Nat) (hn : pc + 1 = n) (kk : Wj p l e R s m args below meth c Q nL g sz x mm n lv (.int (a ||| b) :: st)) : Wj p l e R s m args below meth c Q nL g sz x mm pc lv (.int b :: .int a :: st) := fun H locs ls hW hS hl => by
  subst hn
  exact lv_ior C.1.1 C.1.2.1 hd (kk H locs ls hW hS hl)
theorem j_ixor (C : Cx p m c cc nL s args own g sz) {a b : Int32} (hd : decode cc pc = .ok (.ixor, 1)) (n : Nat) (hn : pc + 1 = n) (kk : Wj p l e R s m args below meth c Q nL g sz x mm n lv (.int (a ^^^ b) :: st)) : Wj p l e R s m args below meth c Q nL g sz x mm pc lv (.int b :: .int a :: st) := fun H locs ls hW hS hl => by
  subst hn
  exact lv_ixor C.1.1 C.1.2.1 hd (kk H locs ls hW hS hl)
theorem j_ishl (C : Cx p m c cc nL s args own g sz) {a b : Int32} (hd : decode cc pc = .ok (.ishl, 1)) (n : Nat) (hn : pc + 1 = n) (kk : Wj p l e R s m args below meth c Q nL g sz x mm n lv (.int (shl32 a b) :: st)) : Wj p l e R s m args below meth c Q nL g sz x mm pc lv (.int b :: .int a :: st) := fun H locs ls hW hS hl => by
  subst hn
  exact lv_ishl C.1.1 C.1.2.1 hd (kk H locs ls hW hS hl)
theorem j_ishr (C : Cx p m c cc nL s args own g sz) {a b : Int32} (hd : decode cc pc = .ok (.ishr, 1)) (n : Nat) (hn : pc + 1 = n) (kk : Wj p l e R s m args below meth c Q nL g sz x mm n lv (.int (shr32 a b) :: st)) : Wj p l e R s m args below meth c Q nL g sz x mm pc lv (.int b :: .int a :: st) := fun H locs ls hW hS hl => by
  subst hn
  exact lv_ishr C.1.1 C.1.2.1 hd (kk H locs ls hW hS hl)
theorem j_iushr (C : Cx p m c cc nL s args own g sz) {a b : Int32} (hd : decode cc pc = .ok (.iushr, 1)) (n : Nat) (hn : pc + 1 = n) (kk : Wj p l e R s m args below meth c Q nL g sz x mm n lv (.int (ush32 a b) :: st)) : Wj p l e R s m args below meth c Q nL g sz x mm pc lv (.int b :: .int a :: st) := fun H locs ls hW hS hl => by
  subst hn
  exact lv_iushr C.1.1 C.1.2.1 hd rfl (kk H locs ls hW hS hl)
theorem j_idiv (C : Cx p m c cc nL s args own g sz) {a b v : Int32} (hd : decode cc pc = .ok (.idiv, 1)) (hv : dvn a b = some v) (n : Nat) (hn : pc + 1 = n) (kk : Wj p l e R s m args below meth c Q nL g sz x mm n lv (.int v :: st)) : Wj p l e R s m args below meth c Q nL g sz x mm pc lv (.int b :: .int a :: st) := fun H locs ls hW hS hl => by
  subst hn
  exact lv_idiv C.1.1 C.1.2.1 hd (dvn_ok hv).1 (by rw [(dvn_ok hv).2]; exact kk H locs ls hW hS hl)
theorem j_irem (C : Cx p m c cc nL s args own g sz) {a b v : Int32} (hd : decode cc pc = .ok (.irem, 1)) (hv : rmn a b = some v) (n : Nat) (hn : pc + 1 = n) (kk : Wj p l e R s m args below meth c Q nL g sz x mm n lv (.int v :: st)) : Wj p l e R s m args below meth c Q nL g sz x mm pc lv (.int b :: .int a :: st) := fun H locs ls hW hS hl => by
  subst hn
  exact lv_irem C.1.1 C.1.2.1 hd (rmn_ok hv).1 (by rw [(rmn_ok hv).2]; exact kk H locs ls hW hS hl)
theorem j_i2l (C : Cx p m c cc nL s args own g sz) {a : Int32} (hd : decode cc pc = .ok (.i2l, 1)) (n : Nat) (hn : pc + 1 = n) (kk : Wj p l e R s m args below meth c Q nL g sz x mm n lv (.long a.toInt64 :: st)) : Wj p l e R s m args below meth c Q nL g sz x mm pc lv (.int a :: st) := fun H locs ls hW hS hl => by
  subst hn
  exact lv_i2l C.1.1 C.1.2.1 hd rfl (kk H locs ls hW hS hl)
theorem j_i2b (C : Cx p m c cc nL s args own g sz) {a : Int32} (hd : decode cc pc = .ok (.i2b, 1)) (n : Nat) (hn : pc + 1 = n) (kk : Wj p l e R s m args below meth c Q nL g sz x mm n lv (.int a.toInt8.toInt32 :: st)) : Wj p l e R s m args below meth c Q nL g sz x mm pc lv (.int a :: st) := fun H locs ls hW hS hl => by
  subst hn
  exact lv_i2b C.1.1 C.1.2.1 hd rfl (kk H locs ls hW hS hl)
theorem j_i2s (C : Cx p m c cc nL s args own g sz) {a : Int32} (hd : decode cc pc = .ok (.i2s, 1)) (n : Nat) (hn : pc + 1 = n) (kk : Wj p l e R s m args below meth c Q nL g sz x mm n lv (.int a.toInt16.toInt32 :: st)) : Wj p l e R s m args below meth c Q nL g sz x mm pc lv (.int a :: st) := fun H locs ls hW hS hl => by
  subst hn
  exact lv_i2s C.1.1 C.1.2.1 hd rfl (kk H locs ls hW hS hl)
theorem j_ladd (C : Cx p m c cc nL s args own g sz) {a b : Int64} (hd : decode cc pc = .ok (.ladd, 1)) (n : Nat) (hn : pc + 1 = n) (kk : Wj p l e R s m args below meth c Q nL g sz x mm n lv (.long (a + b) :: st)) : Wj p l e R s m args below meth c Q nL g sz x mm pc lv (.long b :: .long a :: st) := fun H locs ls hW hS hl => by
  subst hn
  exact lv_ladd C.1.1 C.1.2.1 hd (kk H locs ls hW hS hl)
theorem j_lcmp (C : Cx p m c cc nL s args own g sz) {a b : Int64} (hd : decode cc pc = .ok (.lcmp, 1)) (n : Nat) (hn : pc + 1 = n) (kk : Wj p l e R s m args below meth c Q nL g sz x mm n lv (.int (lg_cmp a b) :: st)) : Wj p l e R s m args below meth c Q nL g sz x mm pc lv (.long b :: .long a :: st) := fun H locs ls hW hS hl => by
  subst hn
  exact W.lcmp C.1.1 C.1.2.1 hd (kk H locs ls hW hS hl)
theorem j_dup (C : Cx p m c cc nL s args own g sz) {v : Value} (hd : decode cc pc = .ok (.dup, 1)) (hv : v.category = 1) (n : Nat) (hn : pc + 1 = n) (kk : Wj p l e R s m args below meth c Q nL g sz x mm n lv (v :: v :: st)) : Wj p l e R s m args below meth c Q nL g sz x mm pc lv (v :: st) := fun H locs ls hW hS hl => by
  subst hn
  exact lv_dup C.1.1 C.1.2.1 hd hv (kk H locs ls hW hS hl)
theorem j_dup2 (C : Cx p m c cc nL s args own g sz) {v w : Value} (hd : decode cc pc = .ok (.dup2, 1)) (hv : v.category = 1) (hw : w.category = 1) (n : Nat) (hn : pc + 1 = n) (kk : Wj p l e R s m args below meth c Q nL g sz x mm n lv (v :: w :: v :: w :: st)) : Wj p l e R s m args below meth c Q nL g sz x mm pc lv (v :: w :: st) := fun H locs ls hW hS hl => by
  subst hn
  exact lv_dup2_11 C.1.1 C.1.2.1 hd hv hw (kk H locs ls hW hS hl)
theorem j_pop (C : Cx p m c cc nL s args own g sz) {v : Value} (hd : decode cc pc = .ok (.pop, 1)) (hv : v.category = 1) (n : Nat) (hn : pc + 1 = n) (kk : Wj p l e R s m args below meth c Q nL g sz x mm n lv st) : Wj p l e R s m args below meth c Q nL g sz x mm pc lv (v :: st) := fun H locs ls hW hS hl => by
  subst hn
  exact lv_pop C.1.1 C.1.2.1 hd hv (kk H locs ls hW hS hl)
theorem j_if_eq (C : Cx p m c cc nL s args own g sz) {a : Int32} {off : Int} (hd : decode cc pc = .ok (.ifCond .eq off, 3)) (tgt : Nat) (ht : (pc : Int) + off = (tgt : Int)) (n : Nat) (hn : pc + 3 = n) (kt : a = 0 → Wj p l e R s m args below meth c Q nL g sz x mm tgt lv st) (kf : ¬ a = 0 → Wj p l e R s m args below meth c Q nL g sz x mm n lv st) : Wj p l e R s m args below meth c Q nL g sz x mm pc lv (.int a :: st) := fun H locs ls hW hS hl => by
  subst hn
  exact lv_if_eq C.1.1 C.1.2.1 hd ht (fun q => kt q H locs ls hW hS hl) (fun q => kf q H locs ls hW hS hl)
theorem j_icmp_eq (C : Cx p m c cc nL s args own g sz) {a b : Int32} {off : Int} (hd : decode cc pc = .ok (.if_icmp .eq off, 3)) (tgt : Nat) (ht : (pc : Int) + off = (tgt : Int)) (n : Nat) (hn : pc + 3 = n) (kt : a = b → Wj p l e R s m args below meth c Q nL g sz x mm tgt lv st) (kf : ¬ a = b → Wj p l e R s m args below meth c Q nL g sz x mm n lv st) : Wj p l e R s m args below meth c Q nL g sz x mm pc lv (.int b :: .int a :: st) := fun H locs ls hW hS hl => by
  subst hn
  exact lv_icmp_eq C.1.1 C.1.2.1 hd ht (fun q => kt q H locs ls hW hS hl) (fun q => kf q H locs ls hW hS hl)
theorem j_if_ne (C : Cx p m c cc nL s args own g sz) {a : Int32} {off : Int} (hd : decode cc pc = .ok (.ifCond .ne off, 3)) (tgt : Nat) (ht : (pc : Int) + off = (tgt : Int)) (n : Nat) (hn : pc + 3 = n) (kt : ¬ a = 0 → Wj p l e R s m args below meth c Q nL g sz x mm tgt lv st) (kf : a = 0 → Wj p l e R s m args below meth c Q nL g sz x mm n lv st) : Wj p l e R s m args below meth c Q nL g sz x mm pc lv (.int a :: st) := fun H locs ls hW hS hl => by
  subst hn
  exact lv_if_ne C.1.1 C.1.2.1 hd ht (fun q => kt q H locs ls hW hS hl) (fun q => kf q H locs ls hW hS hl)
theorem j_icmp_ne (C : Cx p m c cc nL s args own g sz) {a b : Int32} {off : Int} (hd : decode cc pc = .ok (.if_icmp .ne off, 3)) (tgt : Nat) (ht : (pc : Int) + off = (tgt : Int)) (n : Nat) (hn : pc + 3 = n) (kt : ¬ a = b → Wj p l e R s m args below meth c Q nL g sz x mm tgt lv st) (kf : a = b → Wj p l e R s m args below meth c Q nL g sz x mm n lv st) : Wj p l e R s m args below meth c Q nL g sz x mm pc lv (.int b :: .int a :: st) := fun H locs ls hW hS hl => by
  subst hn
  exact lv_icmp_ne C.1.1 C.1.2.1 hd ht (fun q => kt q H locs ls hW hS hl) (fun q => kf q H locs ls hW hS hl)
theorem j_if_lt (C : Cx p m c cc nL s args own g sz) {a : Int32} {off : Int} (hd : decode cc pc = .ok (.ifCond .lt off, 3)) (tgt : Nat) (ht : (pc : Int) + off = (tgt : Int)) (n : Nat) (hn : pc + 3 = n) (kt : a < 0 → Wj p l e R s m args below meth c Q nL g sz x mm tgt lv st) (kf : ¬ a < 0 → Wj p l e R s m args below meth c Q nL g sz x mm n lv st) : Wj p l e R s m args below meth c Q nL g sz x mm pc lv (.int a :: st) := fun H locs ls hW hS hl => by
  subst hn
  exact lv_if_lt C.1.1 C.1.2.1 hd ht (fun q => kt q H locs ls hW hS hl) (fun q => kf q H locs ls hW hS hl)
theorem j_icmp_lt (C : Cx p m c cc nL s args own g sz) {a b : Int32} {off : Int} (hd : decode cc pc = .ok (.if_icmp .lt off, 3)) (tgt : Nat) (ht : (pc : Int) + off = (tgt : Int)) (n : Nat) (hn : pc + 3 = n) (kt : a < b → Wj p l e R s m args below meth c Q nL g sz x mm tgt lv st) (kf : ¬ a < b → Wj p l e R s m args below meth c Q nL g sz x mm n lv st) : Wj p l e R s m args below meth c Q nL g sz x mm pc lv (.int b :: .int a :: st) := fun H locs ls hW hS hl => by
  subst hn
  exact lv_icmp_lt C.1.1 C.1.2.1 hd ht (fun q => kt q H locs ls hW hS hl) (fun q => kf q H locs ls hW hS hl)
theorem j_if_ge (C : Cx p m c cc nL s args own g sz) {a : Int32} {off : Int} (hd : decode cc pc = .ok (.ifCond .ge off, 3)) (tgt : Nat) (ht : (pc : Int) + off = (tgt : Int)) (n : Nat) (hn : pc + 3 = n) (kt : 0 ≤ a → Wj p l e R s m args below meth c Q nL g sz x mm tgt lv st) (kf : ¬ 0 ≤ a → Wj p l e R s m args below meth c Q nL g sz x mm n lv st) : Wj p l e R s m args below meth c Q nL g sz x mm pc lv (.int a :: st) := fun H locs ls hW hS hl => by
  subst hn
  exact lv_if_ge C.1.1 C.1.2.1 hd ht (fun q => kt q H locs ls hW hS hl) (fun q => kf q H locs ls hW hS hl)
theorem j_icmp_ge (C : Cx p m c cc nL s args own g sz) {a b : Int32} {off : Int} (hd : decode cc pc = .ok (.if_icmp .ge off, 3)) (tgt : Nat) (ht : (pc : Int) + off = (tgt : Int)) (n : Nat) (hn : pc + 3 = n) (kt : b ≤ a → Wj p l e R s m args below meth c Q nL g sz x mm tgt lv st) (kf : ¬ b ≤ a → Wj p l e R s m args below meth c Q nL g sz x mm n lv st) : Wj p l e R s m args below meth c Q nL g sz x mm pc lv (.int b :: .int a :: st) := fun H locs ls hW hS hl => by
  subst hn
  exact lv_icmp_ge C.1.1 C.1.2.1 hd ht (fun q => kt q H locs ls hW hS hl) (fun q => kf q H locs ls hW hS hl)
theorem j_if_gt (C : Cx p m c cc nL s args own g sz) {a : Int32} {off : Int} (hd : decode cc pc = .ok (.ifCond .gt off, 3)) (tgt : Nat) (ht : (pc : Int) + off = (tgt : Int)) (n : Nat) (hn : pc + 3 = n) (kt : 0 < a → Wj p l e R s m args below meth c Q nL g sz x mm tgt lv st) (kf : ¬ 0 < a → Wj p l e R s m args below meth c Q nL g sz x mm n lv st) : Wj p l e R s m args below meth c Q nL g sz x mm pc lv (.int a :: st) := fun H locs ls hW hS hl => by
  subst hn
  exact lv_if_gt C.1.1 C.1.2.1 hd ht (fun q => kt q H locs ls hW hS hl) (fun q => kf q H locs ls hW hS hl)
theorem j_icmp_gt (C : Cx p m c cc nL s args own g sz) {a b : Int32} {off : Int} (hd : decode cc pc = .ok (.if_icmp .gt off, 3)) (tgt : Nat) (ht : (pc : Int) + off = (tgt : Int)) (n : Nat) (hn : pc + 3 = n) (kt : b < a → Wj p l e R s m args below meth c Q nL g sz x mm tgt lv st) (kf : ¬ b < a → Wj p l e R s m args below meth c Q nL g sz x mm n lv st) : Wj p l e R s m args below meth c Q nL g sz x mm pc lv (.int b :: .int a :: st) := fun H locs ls hW hS hl => by
  subst hn
  exact lv_icmp_gt C.1.1 C.1.2.1 hd ht (fun q => kt q H locs ls hW hS hl) (fun q => kf q H locs ls hW hS hl)
theorem j_if_le (C : Cx p m c cc nL s args own g sz) {a : Int32} {off : Int} (hd : decode cc pc = .ok (.ifCond .le off, 3)) (tgt : Nat) (ht : (pc : Int) + off = (tgt : Int)) (n : Nat) (hn : pc + 3 = n) (kt : a ≤ 0 → Wj p l e R s m args below meth c Q nL g sz x mm tgt lv st) (kf : ¬ a ≤ 0 → Wj p l e R s m args below meth c Q nL g sz x mm n lv st) : Wj p l e R s m args below meth c Q nL g sz x mm pc lv (.int a :: st) := fun H locs ls hW hS hl => by
  subst hn
  exact lv_if_le C.1.1 C.1.2.1 hd ht (fun q => kt q H locs ls hW hS hl) (fun q => kf q H locs ls hW hS hl)
theorem j_icmp_le (C : Cx p m c cc nL s args own g sz) {a b : Int32} {off : Int} (hd : decode cc pc = .ok (.if_icmp .le off, 3)) (tgt : Nat) (ht : (pc : Int) + off = (tgt : Int)) (n : Nat) (hn : pc + 3 = n) (kt : a ≤ b → Wj p l e R s m args below meth c Q nL g sz x mm tgt lv st) (kf : ¬ a ≤ b → Wj p l e R s m args below meth c Q nL g sz x mm n lv st) : Wj p l e R s m args below meth c Q nL g sz x mm pc lv (.int b :: .int a :: st) := fun H locs ls hW hS hl => by
  subst hn
  exact lv_icmp_le C.1.1 C.1.2.1 hd ht (fun q => kt q H locs ls hW hS hl) (fun q => kf q H locs ls hW hS hl)
theorem j_goto (C : Cx p m c cc nL s args own g sz) {off : Int} (hd : decode cc pc = .ok (.goto off, 3)) (tgt : Nat) (ht : (pc : Int) + off = (tgt : Int)) (kk : Wj p l e R s m args below meth c Q nL g sz x mm tgt lv st) : Wj p l e R s m args below meth c Q nL g sz x mm pc lv st := fun H locs ls hW hS hl => lv_goto C.1.1 C.1.2.1 hd ht (kk H locs ls hW hS hl)
theorem j_tableOut (C : Cx p m c cc nL s args own g sz) {dflt lo hi : Int} {offs : Array Int} {len : Nat} {a : Int32} (hd : decode cc pc = .ok (.tableswitch dflt lo hi offs, len)) (h : a.toInt < lo ∨ hi < a.toInt) (tgt : Nat) (ht : (pc : Int) + dflt = (tgt : Int)) (kk : Wj p l e R s m args below meth c Q nL g sz x mm tgt lv st) : Wj p l e R s m args below meth c Q nL g sz x mm pc lv (.int a :: st) := fun H locs ls hW hS hl => lv_tableOut C.1.1 C.1.2.1 hd h ht (kk H locs ls hW hS hl)
theorem j_tableIn (C : Cx p m c cc nL s args own g sz) {dflt lo hi : Int} {offs : Array Int} {len : Nat} {a : Int32} {off : Int} (hd : decode cc pc = .ok (.tableswitch dflt lo hi offs, len)) (h1 : ¬ a.toInt < lo) (h2 : ¬ hi < a.toInt) (ho : offs[(a.toInt - lo).toNat]? = some off) (tgt : Nat) (ht : (pc : Int) + off = (tgt : Int)) (kk : Wj p l e R s m args below meth c Q nL g sz x mm tgt lv st) : Wj p l e R s m args below meth c Q nL g sz x mm pc lv (.int a :: st) := fun H locs ls hW hS hl => lv_tableIn C.1.1 C.1.2.1 hd h1 h2 ho ht (kk H locs ls hW hS hl)
theorem j_lookup (C : Cx p m c cc nL s args own g sz) {dflt : Int} {ps : Array (Int × Int)} {len : Nat} {a : Int32} {off : Int} (hd : decode cc pc = .ok (.lookupswitch dflt ps, len)) (hp : (ps.toList.zip (ps.toList.drop 1)).all (fun (a, next) => a.1 < next.1) = true) (ho : Op.lookupswitch.offset ps.toList dflt a.toInt = off) (tgt : Nat) (ht : (pc : Int) + off = (tgt : Int)) (kk : Wj p l e R s m args below meth c Q nL g sz x mm tgt lv st) : Wj p l e R s m args below meth c Q nL g sz x mm pc lv (.int a :: st) := fun H locs ls hW hS hl => lv_lookup C.1.1 C.1.2.1 hd hp ho ht (kk H locs ls hW hS hl)
theorem j_sub {lv2 : List (Nat × Value)} (ks : List Nat) (hl2 : lv_pick lv ks = lv2) (kk : Wj p l e R s m args below meth c Q nL g sz x mm pc lv2 st) : Wj p l e R s m args below meth c Q nL g sz x mm pc lv st := fun H locs ls hW hS hl => kk H locs ls hW hS (lv_sub hl ks hl2)
theorem j_x {y : St} (h : x = y) (kk : Wj p l e R s m args below meth c Q nL g sz y mm pc lv st) : Wj p l e R s m args below meth c Q nL g sz x mm pc lv st := h ▸ kk
theorem j_m {y : St} (h : mm = y) (kk : Wj p l e R s m args below meth c Q nL g sz x y pc lv st) : Wj p l e R s m args below meth c Q nL g sz x mm pc lv st := h ▸ kk
theorem j_get (C : Cx p m c cc nL s args own g sz) (k : Nat) (hk : k < 70) {ci : Nat} {fs : List Value} (he : ent g x mm k = .inr (ci, fs)) {C0 : String} {T : u_T} {N : Nat} (hc : vwCl[ci]? = some (C0, T, N)) (hin : ∀ w ∈ u_ws C0 T N, w ∈ ALLW) (j : Nat) (hj : j < N) {idx : Nat} (hlink : Cond.fieldLink own idx (T j).1 (T j).2.1 (T j).2.2.1 ∈ ALLW) {v : Value} (hv : fs[j]? = some v) (hd : decode cc pc = .ok (.getfield idx, 3)) (n : Nat) (hn : pc + 3 = n) (kk : Wj p l e R s m args below meth c Q nL g sz x mm n lv (v :: st)) : Wj p l e R s m args below meth c Q nL g sz x mm pc lv (.ref (ad g k) :: st) := fun H locs ls hW hS hl => by
  subst hn
  exact va_get C.1.1 C.1.2.1 C.1.2.2.2.2 hin C.1.2.2.2.1 C.2.1.1 hW k (by rw [wl_get hk, he]) hc j hj (C.1.2.2.2.2 _ hlink) (fun _ h9 => h9) hv hd (kk H locs ls hW hS hl)
theorem j_put {x2 m2 : St} (C : Cx p m c cc nL s args own g sz) (k : Nat) (hk : k < 70) {ci : Nat} {fs : List Value} (he : ent g x mm k = .inr (ci, fs)) {C0 : String} {T : u_T} {N : Nat} (hc : vwCl[ci]? = some (C0, T, N)) (hin : ∀ w ∈ u_ws C0 T N, w ∈ ALLW) (ty0 : Nat → FieldType) (hty : ∀ k, k < N → parseFieldDescriptor (T k).2.2.1 = some (ty0 k)) (hnm : ∀ a, a < N → ∀ b, b < N → a ≠ b → (T a).2.1 ≠ (T b).2.1) (j : Nat) (hj : j < N) {idx : Nat} (hlink : Cond.fieldLink own idx (T j).1 (T j).2.1 (T j).2.2.1 ∈ ALLW) (hfin : (T j).2.2.2 = false) {ty : FieldType} {v : Value} (htj : ty0 j = ty) (hnv : narrow ty v = v) (hfit : fits ty v = true) (hlen : j < fs.length) (he2 : ent g x2 m2 k = .inr (ci, fs.set j v)) (ho : ∀ q, q ≠ k → ent g x2 m2 q = ent g x mm q) (hd : decode cc pc = .ok (.putfield idx, 3)) (n : Nat) (hn : pc + 3 = n) (kk : Wj p l e R s m args below meth c Q nL g sz x2 m2 n lv st) : Wj p l e R s m args below meth c Q nL g sz x mm pc lv (v :: .ref (ad g k) :: st) := fun H locs ls hW hS hl => by
  subst hn
  refine va_put C.1.1 C.1.2.1 C.1.2.2.2.2 hin ty0 hty hnm C.1.2.2.2.1 C.2.1.1 hW (C.2.D _) hS k (by rw [wl_get hk, he]) hc j hj (C.1.2.2.2.2 _ hlink) (fun _ h9 => h9) hfin (by rw [hty j hj, htj]) hnv hfit hlen hd (fun H1 locs1 hP1 hD1 hS1 => ?_)
  rw [wl_set he2 ho] at hP1
  exact kk H1 locs1 ls hP1 hS1 hl
theorem j_iald (C : Cx p m c cc nL s args own g sz) (k : Nat) (hk : k < 70) {n0 : Nat} {f : Nat → Int32} (he : ent g x mm k = .inl (g.2.1 0, n0, .inl f)) {i v : Int32} (hin : vp_in i n0) (hv : f i.toNatClampNeg = v) (hd : decode cc pc = .ok (.iaload, 1)) (n : Nat) (hn : pc + 1 = n) (kk : Wj p l e R s m args below meth c Q nL g sz x mm n lv (.int v :: st)) : Wj p l e R s m args below meth c Q nL g sz x mm pc lv (.int i :: .ref (ad g k) :: st) := fun H locs ls hW hS hl => by
  subst hn; subst hv
  exact va_iald C.1.1 C.1.2.1 C.2.1.1 hW k 0 (by rw [wl_get hk, he]) rfl hin hd (kk H locs ls hW hS hl)
theorem j_iast {x2 m2 : St} (C : Cx p m c cc nL s args own g sz) (k : Nat) (hk : k < 70) {n0 : Nat} {f : Nat → Int32} (he : ent g x mm k = .inl (g.2.1 0, n0, .inl f)) {i v : Int32} (hin : vp_in i n0) (he2 : ent g x2 m2 k = .inl (g.2.1 0, n0, .inl (upd f i.toNatClampNeg v))) (ho : ∀ q, q ≠ k → ent g x2 m2 q = ent g x mm q) (hd : decode cc pc = .ok (.iastore, 1)) (n : Nat) (hn : pc + 1 = n) (kk : Wj p l e R s m args below meth c Q nL g sz x2 m2 n lv st) : Wj p l e R s m args below meth c Q nL g sz x mm pc lv (.int v :: .int i :: .ref (ad g k) :: st) := fun H locs ls hW hS hl => by
  subst hn
  refine va_iast C.1.1 C.1.2.1 C.2.1.1 hW (C.2.D _) hS k 0 (by rw [wl_get hk, he]) rfl hin hd (fun H1 locs1 hP1 hD1 hS1 => ?_)
  rw [wl_set he2 ho] at hP1
  exact kk H1 locs1 ls hP1 hS1 hl
theorem j_aald (C : Cx p m c cc nL s args own g sz) (k : Nat) (hk : k < 70) (t0 : Nat) {cA : ClassId} {C0 : String} {n0 : Nat} {f : Nat → Option Nat} (he : ent g x mm k = .inl (cA, n0, .inr (.inr (.inr (.inr f))))) (ht : (tysJ g)[t0]? = some (cA, .object C0)) {i : Int32} {a : Nat} (hin : vp_in i n0) (hv : f i.toNatClampNeg = some a) (hd : decode cc pc = .ok (.aaload, 1)) (n : Nat) (hn : pc + 1 = n) (kk : Wj p l e R s m args below meth c Q nL g sz x mm n lv (.ref a :: st)) : Wj p l e R s m args below meth c Q nL g sz x mm pc lv (.int i :: .ref (ad g k) :: st) := fun H locs ls hW hS hl => by
  subst hn
  refine va_aldq C.1.1 C.1.2.1 C.2.1.1 hW k t0 (by rw [wl_get hk, he]) ht hin hd ?_
  rw [hv]
  exact kk H locs ls hW hS hl
theorem j_alen (C : Cx p m c cc nL s args own g sz) (k : Nat) (hk : k < 70) (t0 : Nat) {cA : ClassId} {a : vp_A} (he : ent g x mm k = .inl (cA, a)) {ty : FieldType} (ht : (tysJ g)[t0]? = some (cA, ty)) {v : Int32} (hv : Int32.ofNat a.1 = v) (hd : decode cc pc = .ok (.arraylength, 1)) (n : Nat) (hn : pc + 1 = n) (kk : Wj p l e R s m args below meth c Q nL g sz x mm n lv (.int v :: st)) : Wj p l e R s m args below meth c Q nL g sz x mm pc lv (.ref (ad g k) :: st) := fun H locs ls hW hS hl => by
  subst hn
  exact va_alen C.1.1 C.1.2.1 C.2.1.1 hW k t0 (by rw [wl_get hk, he]) ht hv hd (kk H locs ls hW hS hl)
theorem j_gets (C : Cx p m c cc nL s args own g sz) (i : Nat) (hi : i < 7) {idx : Nat} (hlink : Cond.fieldLink own idx "PennyLedge" (stN i) "[I" ∈ ALLW) (hd : decode cc pc = .ok (.getstatic idx, 3)) (n : Nat) (hn : pc + 3 = n) (kk : Wj p l e R s m args below meth c Q nL g sz x mm n lv (.ref (adS g i) :: st)) : Wj p l e R s m args below meth c Q nL g sz x mm pc lv st := fun H locs ls hW hS hl => by
  subst hn
  exact va_gets C.1.1 C.1.2.1 (C.2.2.1 i hi).1 hS C.1.2.2.2.1 (C.1.2.2.2.2 _ hlink) (fun _ h9 => h9) hd (kk H locs ls hW hS hl)
theorem j_getsN (C : Cx p m c cc nL s args own g sz) (i : Nat) (hi : i < 7) {idx : Nat} (hlink : va_Nw (.fieldLinkNest own idx "PennyLedge" (stN i) "[I" "PennyLedge") s) (hd : decode cc pc = .ok (.getstatic idx, 3)) (n : Nat) (hn : pc + 3 = n) (kk : Wj p l e R s m args below meth c Q nL g sz x mm n lv (.ref (adS g i) :: st)) : Wj p l e R s m args below meth c Q nL g sz x mm pc lv st := fun H locs ls hW hS hl => by
  subst hn
  exact va_getsN C.1.1 C.1.2.1 (C.2.2.1 i hi).1 hS C.1.2.2.2.1 (hlink.use rfl) (fun _ h9 => h9) hd (kk H locs ls hW hS hl)
theorem j_sald (C : Cx p m c cc nL s args own g sz) (t : Nat) (ht : t < 7) {i v : Int32} (hv : rdc (stL t) (stC t) i = some v) (hd : decode cc pc = .ok (.iaload, 1)) (n : Nat) (hn : pc + 1 = n) (kk : Wj p l e R s m args below meth c Q nL g sz x mm n lv (.int v :: st)) : Wj p l e R s m args below meth c Q nL g sz x mm pc lv (.int i :: .ref (adS g t) :: st) := fun H locs ls hW hS hl => by
  subst hn
  exact va_ti C.1.1 C.1.2.1 (C.2.2.1 t ht).2 hS (rdc_ok hv).1 (by rw [(rdc_ok hv).2]) hd (kk H locs ls hW hS hl)
theorem j_ldcS (C : Cx p m c cc nL s args own g sz) {tx : String} {idx q : Nat} (hZ : vk_R own idx tx q s) (hd : decode cc pc = .ok (.ldc idx, 2)) (n : Nat) (hn : pc + 2 = n) (kk : Wj p l e R s m args below meth c Q nL g sz x mm n lv (.ref q :: st)) : Wj p l e R s m args below meth c Q nL g sz x mm pc lv st := fun H locs ls hW hS hl => by
  subst hn
  exact va_ldcS C.1.1 C.1.2.1 C.1.2.2.2.1 hZ hd (kk H locs ls hW hS hl)
theorem j_iret {r : Int32} (C : Cx p m c cc nL s args own g sz) (hr : meth.sig.returnType = some .int) (hk : meth.locks = false) (hd : decode cc pc = .ok (.ireturn, 1)) : Wj p l e R s m args below meth c (MQ below (QiJ g sz r x mm) args s 0 0 (Ag sz)) nL g sz x mm pc lv [.int r] := fun H locs ls hW hS hl => W.iret C.1.1 C.1.2.1 hr (fun t ht hWm => ⟨⟨r, (), rfl, rfl, by show Wd g x mm t.heap; rw [ht]; exact hW⟩, hS.F ht⟩) hS.2.2 hd hk
theorem j_zret {r : Int32} (C : Cx p m c cc nL s args own g sz) (hr : meth.sig.returnType = some .boolean) (hk : meth.locks = false) (hv : r = 0 ∨ r = 1) (hd : decode cc pc = .ok (.ireturn, 1)) : Wj p l e R s m args below meth c (MQ below (QiJ g sz r x mm) args s 0 0 (Ag sz)) nL g sz x mm pc lv [.int r] := fun H locs ls hW hS hl => W.zret C.1.1 C.1.2.1 hr (by rcases hv with rfl | rfl <;> rfl) (fun t ht hWm => ⟨⟨r, (), rfl, rfl, by show Wd g x mm t.heap; rw [ht]; exact hW⟩, hS.F ht⟩) hS.2.2 hd hk
theorem j_vret (C : Cx p m c cc nL s args own g sz) (hr : meth.sig.returnType = none) (hk : meth.locks = false) (hd : decode cc pc = .ok (.return_, 1)) : Wj p l e R s m args below meth c (MQ below (QvJ g sz x mm) args s 0 0 (Ag sz)) nL g sz x mm pc lv [] := fun H locs ls hW hS hl => W.vret C.1.1 C.1.2.1 hr (fun t ht hWm => ⟨⟨(), rfl, trivial, by show Wd g x mm t.heap; rw [ht]; exact hW⟩, hS.F ht⟩) hS.2.2 hd hk
theorem j_lret {r : Int64} (C : Cx p m c cc nL s args own g sz) (hr : meth.sig.returnType = some .long) (hk : meth.locks = false) (hd : decode cc pc = .ok (.lreturn, 1)) : Wj p l e R s m args below meth c (MQ below (QlJ g sz r x mm) args s 0 0 (Ag sz)) nL g sz x mm pc lv [.long r] := fun H locs ls hW hS hl => W.lret C.1.1 C.1.2.1 hr (fun t ht hWm => ⟨⟨r, (), rfl, rfl, by show Wd g x mm t.heap; rw [ht]; exact hW⟩, hS.F ht⟩) hS.2.2 hd hk
theorem j_aret {r : Nat} {nm : String} (C : Cx p m c cc nL s args own g sz) (hr : meth.sig.returnType = some (.object nm)) (hk : meth.locks = false) (hd : decode cc pc = .ok (.areturn, 1)) : Wj p l e R s m args below meth c (MQ below (QrJ g sz r x mm) args s 0 0 (Ag sz)) nL g sz x mm pc lv [.ref r] := fun H locs ls hW hS hl => W.aret C.1.1 C.1.2.1 hr (Or.inl ⟨nm, rfl⟩) (Or.inr ⟨r, rfl⟩) (fun t ht hWm => ⟨⟨(), r, rfl, trivial, rfl, by show Wd g x mm t.heap; rw [ht]; exact hW⟩, hS.F ht⟩) hS.2.2 hd hk
theorem j_met {y : MethodName} {maxL : Nat} {ret : Option FieldType} {rm : Room} {av : List Value} {Qc : Array Value → State → Outcome → State → Prop} {lv0 : List (Nat × Value)} (hy : plainName y.cls = true) (ho : y.cls = own) (hav : (lg_sl av).length ≤ maxL) (hlv : lv_args 0 av = lv0)
    (body : ∀ (p : Program) (e : Env) (s : State) (m : MethodId) (args : Array Value) (below : List Frame) (meth : Method) (c : Code), Cx p m c cc maxL s args own g sz → meth.sig.returnType = ret → meth.locks = false → Wj p l e rm s m args below meth c (MQ below Qc args s 0 0 (Ag sz)) maxL g sz x mm 0 lv0 []) :
    Met l y (.code y cc maxL ret :: ALLW) rm (PcJ g sz x mm av) Qc 0 0 (Ag sz) := by
  refine Met.ofW (cc := cc) (maxL := maxL) (ret := ret) hy rfl ?_
  intro p e s m args below meth c s₁ B hml hv
  obtain ⟨rfl, hB, hW⟩ := hv
  have hts := atoms_spec (ws := Cond.code y cc maxL ret :: ALLW) B.pre
  have hown : s.vm.findClass y.cls = some m.cls := findClass_of_methodNamed B.named
  rw [lg_entry_eq]
  exact body p e s m _ below meth c ⟨⟨B.exec, B.bytes, hml, ho ▸ hown, fun w hw => hts w (List.mem_cons_of_mem _ hw)⟩, hB⟩ B.returns B.notSynchronized s.heap [] _ hW va_S.rf (hlv ▸ lv_entry av hav)
abbrev HdJ (y : MethodName) (C0 : String) (n : Nat) : Prop := y.cls = C0 ∧ y.cls ≠ "java/lang/invoke/MethodHandle" ∧ y.cls ≠ "java/lang/invoke/VarHandle" ∧ (parseMethodDescriptor y.desc).map (fun d => d.parameters.length) = some n
theorem j_cwV {y : MethodName} {C0 : String} {idx n maxY : Nat} {bytes : ByteArray} {ret : Option FieldType} {rm : Room} (C : Cx p m c cc nL s args own g sz) (hcode : Cond.code y bytes maxY ret ∈ ALLW) (hlink : Cond.methodLink own idx y ∈ ALLW) (hinst : Cond.instanceMethod y ∈ ALLW) (hsel : Cond.selects C0 y y ∈ ALLW) (hini : Cond.initialized C0 ∈ ALLW) (hd : HdJ y C0 n) (hz : rm.cells = 0 ∧ rm.slots = 0) (hR : rm.frames + 1 ≤ R.frames ∧ 8 + (maxY + 11) + rm.locals ≤ R.locals) : CallW R s args own C0 idx y bytes maxY ret (.code y bytes maxY ret :: ALLW) rm 0 0 n := by
  refine cwV n C.1.2.2.2.2 ?_ rfl hz.1 hz.2 hd hR
  intro w hw
  have hm : w ∈ ALLW := by
    rcases List.mem_append.mp hw with h | h
    · simp only [List.mem_cons, List.not_mem_nil, or_false] at h
      rcases h with rfl | rfl | rfl | rfl <;> assumption
    · rcases List.mem_cons.mp h with rfl | h
      · exact hcode
      · exact h
  exact ⟨hm, good_of_word (goodAll _ hm)⟩
theorem j_cwS {y : MethodName} {idx n maxY : Nat} {bytes : ByteArray} {ret : Option FieldType} {rm : Room} (C : Cx p m c cc nL s args own g sz) (hcode : Cond.code y bytes maxY ret ∈ ALLW) (hlink : Cond.methodLink own idx y ∈ ALLW) (hinst : Cond.static y ∈ ALLW) (hini : Cond.initialized own ∈ ALLW) (hd : HdJ y own n) (hz : rm.cells = 0 ∧ rm.slots = 0) (hR : rm.frames + 1 ≤ R.frames ∧ 8 + (maxY + 11) + rm.locals ≤ R.locals) : CallB R s args own idx y bytes maxY ret (.code y bytes maxY ret :: ALLW) rm 0 0 n ∧ (Cond.static y).before args s = true := by
  refine cwS n C.1.2.2.2.2 ?_ rfl hz.1 hz.2 hd hR
  intro w hw
  have hm : w ∈ ALLW := by
    rcases List.mem_append.mp hw with h | h
    · simp only [List.mem_cons, List.not_mem_nil, or_false] at h
      rcases h with rfl | rfl | rfl <;> assumption
    · rcases List.mem_cons.mp h with rfl | h
      · exact hcode
      · exact h
  exact ⟨hm, good_of_word (goodAll _ hm)⟩
/-- a static of another class -/
theorem j_cwO {y : MethodName} {C0 : String} {idx n maxY : Nat} {bytes : ByteArray} {ret : Option FieldType} {rm : Room} (C : Cx p m c cc nL s args own g sz) (hcode : Cond.code y bytes maxY ret ∈ ALLW) (hlink : Cond.methodLink own idx y ∈ ALLW) (hinst : Cond.static y ∈ ALLW) (hini : Cond.initialized C0 ∈ ALLW) (hd : HdJ y C0 n) (hz : rm.cells = 0 ∧ rm.slots = 0) (hR : rm.frames + 1 ≤ R.frames ∧ 8 + (maxY + 11) + rm.locals ≤ R.locals) : CallB R s args own idx y bytes maxY ret (.code y bytes maxY ret :: ALLW) rm 0 0 n ∧ (Cond.static y).before args s = true := by
  refine ⟨callB_of n C.1.2.2.2.2 ?_ rfl hz.1 hz.2 (by rw [hd.1]; exact C.1.2.2.2.2 _ hini) (C.1.2.2.2.2 _ hlink) ⟨hd.2.1, hd.2.2.1, hd.2.2.2⟩ hR, C.1.2.2.2.2 _ hinst⟩
  intro w hw
  have hm : w ∈ ALLW := by
    rcases List.mem_cons.mp hw with rfl | h
    · exact hcode
    · exact h
  exact ⟨hm, good_of_word (goodAll _ hm)⟩
def RecvJ (g : GG) (x mm : St) (b : Nat) (C0 : String) : Prop := ∃ (k ci : Nat) (fs : List Value) (T : u_T) (N : Nat), b = ad g k ∧ k < 70 ∧ ent g x mm k = .inr (ci, fs) ∧ vwCl[ci]? = some (C0, T, N)
theorem RecvJ.cell {b : Nat} {C0 : String} (h : RecvJ g x mm b C0) (hB : Bs g sz s s.heap) (H : Heap) (locs : List Loc) (hW : Wd g x mm H) (_ : va_S (Ag sz) s.heap H locs) : ∃ cellB : Cell, H[b]? = some cellB ∧ cellB.vm.isStatics = false ∧ s.vm.findClass C0 = some cellB.cls := by
  obtain ⟨k, ci, fs, T, N, rfl, hk, he, hc⟩ := h
  exact va_recv hB.1.1 hW hc (q0 := k) (by rw [wl_get hk, he])
theorem j_callVi {y : MethodName} {C0 : String} {b : Nat} {idx na maxY : Nat} {bytes : ByteArray} {ret : Option FieldType} {rm : Room} {r : Int32} {As rest : List Value} (C : Cx p m c cc nL s args own g sz) (hM : Met l y (.code y bytes maxY ret :: ALLW) rm (PcJ g sz x mm (.ref b :: As)) (QiJ g sz r x' m') 0 0 (Ag sz)) (cw : CallW R s args own C0 idx y bytes maxY ret (.code y bytes maxY ret :: ALLW) rm 0 0 na) (hrec : ∀ (H : Heap) (locs : List Loc), Wd g x mm H → va_S (Ag sz) s.heap H locs → ∃ cellB : Cell, H[b]? = some cellB ∧ cellB.vm.isStatics = false ∧ s.vm.findClass C0 = some cellB.cls) (hna : As.length = na) (hcat : (rest.map fun v => v.category).sum ≤ 8) (hd : decode cc pc = .ok (.invokevirtual idx, 3)) (n : Nat) (hn : pc + 3 = n) (kk : Wj p l e R s m args below meth c Q nL g sz x' m' n lv (.int r :: rest)) : Wj p l e R s m args below meth c Q nL g sz x mm pc lv (As.reverse ++ .ref b :: rest) := fun H locs ls hW hS hl => by
  subst hn
  exact va_calli (va_runV C.1 hM cw ⟨PcJ.blind g sz x mm _, hrec H locs hW hS, fun U hU hWm => ⟨rfl, by rw [hU]; exact C.2.go hS hWm, by rw [hU]; exact hW⟩⟩ rfl hna hl.1 rfl (lv_room hcat) hd ⟨Nat.zero_le _, Nat.zero_le _⟩) hS (fun _ _ h => h) (fun _ h => h) (fun r2 u t H1 locs1 ht _ hr hB _ _ hS1 => by subst hr; rw [ht] at hB; exact kk H1 locs1 ls hB hS1 hl)
theorem j_callVl {y : MethodName} {C0 : String} {b : Nat} {idx na maxY : Nat} {bytes : ByteArray} {ret : Option FieldType} {rm : Room} {r : Int64} {As rest : List Value} (C : Cx p m c cc nL s args own g sz) (hM : Met l y (.code y bytes maxY ret :: ALLW) rm (PcJ g sz x mm (.ref b :: As)) (QlJ g sz r x' m') 0 0 (Ag sz)) (cw : CallW R s args own C0 idx y bytes maxY ret (.code y bytes maxY ret :: ALLW) rm 0 0 na) (hrec : ∀ (H : Heap) (locs : List Loc), Wd g x mm H → va_S (Ag sz) s.heap H locs → ∃ cellB : Cell, H[b]? = some cellB ∧ cellB.vm.isStatics = false ∧ s.vm.findClass C0 = some cellB.cls) (hna : As.length = na) (hcat : (rest.map fun v => v.category).sum ≤ 8) (hd : decode cc pc = .ok (.invokevirtual idx, 3)) (n : Nat) (hn : pc + 3 = n) (kk : Wj p l e R s m args below meth c Q nL g sz x' m' n lv (.long r :: rest)) : Wj p l e R s m args below meth c Q nL g sz x mm pc lv (As.reverse ++ .ref b :: rest) := fun H locs ls hW hS hl => by
  subst hn
  exact va_calll (va_runV C.1 hM cw ⟨PcJ.blind g sz x mm _, hrec H locs hW hS, fun U hU hWm => ⟨rfl, by rw [hU]; exact C.2.go hS hWm, by rw [hU]; exact hW⟩⟩ rfl hna hl.1 rfl (lv_room hcat) hd ⟨Nat.zero_le _, Nat.zero_le _⟩) hS (fun _ _ h => h) (fun _ h => h) (fun r2 u t H1 locs1 ht _ hr hB _ _ hS1 => by subst hr; rw [ht] at hB; exact kk H1 locs1 ls hB hS1 hl)
theorem j_callVv {y : MethodName} {C0 : String} {b : Nat} {idx na maxY : Nat} {bytes : ByteArray} {ret : Option FieldType} {rm : Room} {As rest : List Value} (C : Cx p m c cc nL s args own g sz) (hM : Met l y (.code y bytes maxY ret :: ALLW) rm (PcJ g sz x mm (.ref b :: As)) (QvJ g sz x' m') 0 0 (Ag sz)) (cw : CallW R s args own C0 idx y bytes maxY ret (.code y bytes maxY ret :: ALLW) rm 0 0 na) (hrec : ∀ (H : Heap) (locs : List Loc), Wd g x mm H → va_S (Ag sz) s.heap H locs → ∃ cellB : Cell, H[b]? = some cellB ∧ cellB.vm.isStatics = false ∧ s.vm.findClass C0 = some cellB.cls) (hna : As.length = na) (hcat : (rest.map fun v => v.category).sum ≤ 8) (hd : decode cc pc = .ok (.invokevirtual idx, 3)) (n : Nat) (hn : pc + 3 = n) (kk : Wj p l e R s m args below meth c Q nL g sz x' m' n lv rest) : Wj p l e R s m args below meth c Q nL g sz x mm pc lv (As.reverse ++ .ref b :: rest) := fun H locs ls hW hS hl => by
  subst hn
  exact va_callv (va_runV C.1 hM cw ⟨PcJ.blind g sz x mm _, hrec H locs hW hS, fun U hU hWm => ⟨rfl, by rw [hU]; exact C.2.go hS hWm, by rw [hU]; exact hW⟩⟩ rfl hna hl.1 rfl (lv_room hcat) hd ⟨Nat.zero_le _, Nat.zero_le _⟩) hS (fun _ _ h => h) (fun _ h => h) (fun u t H1 locs1 ht _ _ hB _ _ hS1 => by rw [ht] at hB; exact kk H1 locs1 ls hB hS1 hl)
theorem j_callVr {y : MethodName} {C0 : String} {b : Nat} {idx na maxY : Nat} {bytes : ByteArray} {ret : Option FieldType} {rm : Room} {r : Nat} {As rest : List Value} (C : Cx p m c cc nL s args own g sz) (hM : Met l y (.code y bytes maxY ret :: ALLW) rm (PcJ g sz x mm (.ref b :: As)) (QrJ g sz r x' m') 0 0 (Ag sz)) (cw : CallW R s args own C0 idx y bytes maxY ret (.code y bytes maxY ret :: ALLW) rm 0 0 na) (hrec : ∀ (H : Heap) (locs : List Loc), Wd g x mm H → va_S (Ag sz) s.heap H locs → ∃ cellB : Cell, H[b]? = some cellB ∧ cellB.vm.isStatics = false ∧ s.vm.findClass C0 = some cellB.cls) (hna : As.length = na) (hcat : (rest.map fun v => v.category).sum ≤ 8) (hd : decode cc pc = .ok (.invokevirtual idx, 3)) (n : Nat) (hn : pc + 3 = n) (kk : Wj p l e R s m args below meth c Q nL g sz x' m' n lv (.ref r :: rest)) : Wj p l e R s m args below meth c Q nL g sz x mm pc lv (As.reverse ++ .ref b :: rest) := fun H locs ls hW hS hl => by
  subst hn
  exact va_callr (va_runV C.1 hM cw ⟨PcJ.blind g sz x mm _, hrec H locs hW hS, fun U hU hWm => ⟨rfl, by rw [hU]; exact C.2.go hS hWm, by rw [hU]; exact hW⟩⟩ rfl hna hl.1 rfl (lv_room hcat) hd ⟨Nat.zero_le _, Nat.zero_le _⟩) hS (fun _ _ h => h) (fun _ h => h) (fun u a t H1 locs1 ht _ _ hB _ _ hS1 => by obtain ⟨rfl, hB⟩ := hB; rw [ht] at hB; exact kk H1 locs1 ls hB hS1 hl)
theorem j_callSi {y : MethodName} {idx na maxY : Nat} {bytes : ByteArray} {ret : Option FieldType} {rm : Room} {r : Int32} {As rest : List Value} (C : Cx p m c cc nL s args own g sz) (hM : Met l y (.code y bytes maxY ret :: ALLW) rm (PcJ g sz x mm As) (QiJ g sz r x' m') 0 0 (Ag sz)) (cw : CallB R s args own idx y bytes maxY ret (.code y bytes maxY ret :: ALLW) rm 0 0 na ∧ (Cond.static y).before args s = true) (hna : As.length = na) (hcat : (rest.map fun v => v.category).sum ≤ 8) (hd : decode cc pc = .ok (.invokestatic idx, 3)) (n : Nat) (hn : pc + 3 = n) (kk : Wj p l e R s m args below meth c Q nL g sz x' m' n lv (.int r :: rest)) : Wj p l e R s m args below meth c Q nL g sz x mm pc lv (As.reverse ++ rest) := fun H locs ls hW hS hl => by
  subst hn
  exact va_calli (va_runS C.1 hM cw ⟨PcJ.blind g sz x mm _, fun U hU hWm => ⟨rfl, by rw [hU]; exact C.2.go hS hWm, by rw [hU]; exact hW⟩⟩ rfl hna hl.1 rfl (lv_room hcat) hd ⟨Nat.zero_le _, Nat.zero_le _⟩) hS (fun _ _ h => h) (fun _ h => h) (fun r2 u t H1 locs1 ht _ hr hB _ _ hS1 => by subst hr; rw [ht] at hB; exact kk H1 locs1 ls hB hS1 hl)
theorem j_callSl {y : MethodName} {idx na maxY : Nat} {bytes : ByteArray} {ret : Option FieldType} {rm : Room} {r : Int64} {As rest : List Value} (C : Cx p m c cc nL s args own g sz) (hM : Met l y (.code y bytes maxY ret :: ALLW) rm (PcJ g sz x mm As) (QlJ g sz r x' m') 0 0 (Ag sz)) (cw : CallB R s args own idx y bytes maxY ret (.code y bytes maxY ret :: ALLW) rm 0 0 na ∧ (Cond.static y).before args s = true) (hna : As.length = na) (hcat : (rest.map fun v => v.category).sum ≤ 8) (hd : decode cc pc = .ok (.invokestatic idx, 3)) (n : Nat) (hn : pc + 3 = n) (kk : Wj p l e R s m args below meth c Q nL g sz x' m' n lv (.long r :: rest)) : Wj p l e R s m args below meth c Q nL g sz x mm pc lv (As.reverse ++ rest) := fun H locs ls hW hS hl => by
  subst hn
  exact va_calll (va_runS C.1 hM cw ⟨PcJ.blind g sz x mm _, fun U hU hWm => ⟨rfl, by rw [hU]; exact C.2.go hS hWm, by rw [hU]; exact hW⟩⟩ rfl hna hl.1 rfl (lv_room hcat) hd ⟨Nat.zero_le _, Nat.zero_le _⟩) hS (fun _ _ h => h) (fun _ h => h) (fun r2 u t H1 locs1 ht _ hr hB _ _ hS1 => by subst hr; rw [ht] at hB; exact kk H1 locs1 ls hB hS1 hl)
theorem j_callSv {y : MethodName} {idx na maxY : Nat} {bytes : ByteArray} {ret : Option FieldType} {rm : Room} {As rest : List Value} (C : Cx p m c cc nL s args own g sz) (hM : Met l y (.code y bytes maxY ret :: ALLW) rm (PcJ g sz x mm As) (QvJ g sz x' m') 0 0 (Ag sz)) (cw : CallB R s args own idx y bytes maxY ret (.code y bytes maxY ret :: ALLW) rm 0 0 na ∧ (Cond.static y).before args s = true) (hna : As.length = na) (hcat : (rest.map fun v => v.category).sum ≤ 8) (hd : decode cc pc = .ok (.invokestatic idx, 3)) (n : Nat) (hn : pc + 3 = n) (kk : Wj p l e R s m args below meth c Q nL g sz x' m' n lv rest) : Wj p l e R s m args below meth c Q nL g sz x mm pc lv (As.reverse ++ rest) := fun H locs ls hW hS hl => by
  subst hn
  exact va_callv (va_runS C.1 hM cw ⟨PcJ.blind g sz x mm _, fun U hU hWm => ⟨rfl, by rw [hU]; exact C.2.go hS hWm, by rw [hU]; exact hW⟩⟩ rfl hna hl.1 rfl (lv_room hcat) hd ⟨Nat.zero_le _, Nat.zero_le _⟩) hS (fun _ _ h => h) (fun _ h => h) (fun u t H1 locs1 ht _ _ hB _ _ hS1 => by rw [ht] at hB; exact kk H1 locs1 ls hB hS1 hl)
theorem j_callSr {y : MethodName} {idx na maxY : Nat} {bytes : ByteArray} {ret : Option FieldType} {rm : Room} {r : Nat} {As rest : List Value} (C : Cx p m c cc nL s args own g sz) (hM : Met l y (.code y bytes maxY ret :: ALLW) rm (PcJ g sz x mm As) (QrJ g sz r x' m') 0 0 (Ag sz)) (cw : CallB R s args own idx y bytes maxY ret (.code y bytes maxY ret :: ALLW) rm 0 0 na ∧ (Cond.static y).before args s = true) (hna : As.length = na) (hcat : (rest.map fun v => v.category).sum ≤ 8) (hd : decode cc pc = .ok (.invokestatic idx, 3)) (n : Nat) (hn : pc + 3 = n) (kk : Wj p l e R s m args below meth c Q nL g sz x' m' n lv (.ref r :: rest)) : Wj p l e R s m args below meth c Q nL g sz x mm pc lv (As.reverse ++ rest) := fun H locs ls hW hS hl => by
  subst hn
  exact va_callr (va_runS C.1 hM cw ⟨PcJ.blind g sz x mm _, fun U hU hWm => ⟨rfl, by rw [hU]; exact C.2.go hS hWm, by rw [hU]; exact hW⟩⟩ rfl hna hl.1 rfl (lv_room hcat) hd ⟨Nat.zero_le _, Nat.zero_le _⟩) hS (fun _ _ h => h) (fun _ h => h) (fun u a t H1 locs1 ht _ _ hB _ _ hS1 => by obtain ⟨rfl, hB⟩ := hB; rw [ht] at hB; exact kk H1 locs1 ls hB hS1 hl)
end JR
end
section
/-! THE LAYOUT'S ROWS: fields and arrays of each class, in the words of its block -/
theorem ups_same (x : St) (k j : Nat) (v : Int32) : ups x k j v k = upd (x k) j v := by
  funext b
  simp only [ups, upd, if_true]
theorem ups_other (x : St) {k q : Nat} (j : Nat) (v : Int32) (h : q ≠ k) : ups x k j v q = x q := by
  funext b
  simp only [ups, if_neg h]
theorem setr_same (x : St) (k : Nat) (f : Nat → Int32) : setr x k f k = f := by simp only [setr, if_true]
theorem setr_other (x : St) {k q : Nat} (f : Nat → Int32) (h : q ≠ k) : setr x k f q = x q := by simp only [setr, if_neg h]
theorem put_other {x S : St} {k n q : Nat} (h : q < k ∨ k + n ≤ q) : put x k n S q = x q := by
  unfold put
  rcases h with h | h
  · rw [if_neg (by omega)]
  · by_cases h1 : k ≤ q
    · rw [if_pos h1, if_neg (by omega)]
    · rw [if_neg h1]
theorem ent_x {g : GG} {x x2 mm : St} {q : Nat} (h : x2 q = x q) : ent g x2 mm q = ent g x mm q := by
  unfold ent
  rw [h]
theorem ent_m {g : GG} {x mm m2 : St} {q : Nat} (h : m2 (q - 56) = mm (q - 56)) : ent g x m2 q = ent g x mm q := by
  unfold ent
  rw [h]
theorem isSh_c {k : Nat} (h : isSh k = true) : k = 1 ∨ k = 8 ∨ k = 15 ∨ k = 27 ∨ k = 34 ∨ k = 41 := by
  simpa [isSh] using h
theorem isSt_c {k : Nat} (h : isSt k = true) : k = 48 ∨ k = 50 ∨ k = 52 ∨ k = 54 := by
  simpa [isSt] using h
theorem isSh_lt {k : Nat} (h : isSh k = true) : k < 70 := by
  rcases isSh_c h with rfl | rfl | rfl | rfl | rfl | rfl <;> decide
theorem isSt_lt {k : Nat} (h : isSt k = true) : k < 70 := by
  rcases isSt_c h with rfl | rfl | rfl | rfl <;> decide
theorem ent_sh {g : GG} {x mm : St} {k : Nat} (h : isSh k = true) : ent g x mm k = .inr (1, fsS g k (x k)) := by
  rcases isSh_c h with rfl | rfl | rfl | rfl | rfl | rfl <;> rfl
theorem ent_st {g : GG} {x mm : St} {k : Nat} (h : isSt k = true) : ent g x mm k = .inr (0, fsH g k (x k)) := by
  rcases isSt_c h with rfl | rfl | rfl | rfl <;> rfl
theorem ent_sha {g : GG} {x mm : St} {k j : Nat} (h : isSh k = true) (h1 : 1 ≤ j) (h2 : j < 7) : k + j < 70 ∧ ent g x mm (k + j) = .inl (g.2.1 0, shl j, .inl (x (k + j))) := by
  rcases isSh_c h with rfl | rfl | rfl | rfl | rfl | rfl <;>
    rcases (show j = 1 ∨ j = 2 ∨ j = 3 ∨ j = 4 ∨ j = 5 ∨ j = 6 by omega) with rfl | rfl | rfl | rfl | rfl | rfl <;> exact ⟨by decide, rfl⟩
theorem ent_sta {g : GG} {x mm : St} {k : Nat} (h : isSt k = true) : k + 1 < 70 ∧ ent g x mm (k + 1) = .inl (g.2.1 0, 40, .inl (x (k + 1))) := by
  rcases isSt_c h with rfl | rfl | rfl | rfl <;> exact ⟨by decide, rfl⟩
def isMA (j : Nat) : Bool := j == 1 || (j == 2 || (j == 3 || (j == 4 || (j == 5 || (j == 8 || (j == 9 || (j == 10 || (j == 11 || (j == 12 || j == 13)))))))))
theorem isMA_c {j : Nat} (h : isMA j = true) : j = 1 ∨ j = 2 ∨ j = 3 ∨ j = 4 ∨ j = 5 ∨ j = 8 ∨ j = 9 ∨ j = 10 ∨ j = 11 ∨ j = 12 ∨ j = 13 := by
  simpa [isMA] using h
theorem ent_ma {g : GG} {x mm : St} {j : Nat} (h : isMA j = true) : 56 + j < 70 ∧ ent g x mm (56 + j) = .inl (g.2.1 0, alM j, .inl (mm j)) := by
  rcases isMA_c h with rfl | rfl | rfl | rfl | rfl | rfl | rfl | rfl | rfl | rfl | rfl <;> exact ⟨by decide, rfl⟩
theorem fsS_set (g : GG) (k : Nat) (F : Nat → Int32) (v : Int32) {j : Nat} (h1 : 6 ≤ j) (h2 : j < 10) : (fsS g k F).set j (.int v) = fsS g k (upd F j v) := by
  rcases (show j = 6 ∨ j = 7 ∨ j = 8 ∨ j = 9 by omega) with rfl | rfl | rfl | rfl <;> rfl
theorem fsT_set (g : GG) (k : Nat) (F : Nat → Int32) (v : Int32) {j : Nat} (h1 : 1 ≤ j) (h2 : j < 6) : (fsT g k F).set j (.int v) = fsT g k (upd F j v) := by
  rcases (show j = 1 ∨ j = 2 ∨ j = 3 ∨ j = 4 ∨ j = 5 by omega) with rfl | rfl | rfl | rfl | rfl <;> rfl
theorem fsH_set (g : GG) (k : Nat) (F : Nat → Int32) (v : Int32) {j : Nat} (h1 : 1 ≤ j) (h2 : j < 3) : (fsH g k F).set j (.int v) = fsH g k (upd F j v) := by
  rcases (show j = 1 ∨ j = 2 by omega) with rfl | rfl <;> rfl
theorem sht_ok {i : Int32} {k : Nat} (h : rdn 4 sht i = some k) : isSt k = true := by
  obtain ⟨h1, h2⟩ := rdn_ok h
  have h3 : i.toNatClampNeg < 4 := Nat.not_le.mp fun q => h1 (Or.inr q)
  rw [← h2]
  rcases (show i.toNatClampNeg = 0 ∨ i.toNatClampNeg = 1 ∨ i.toNatClampNeg = 2 ∨ i.toNatClampNeg = 3 by omega) with e | e | e | e <;> rw [e] <;> rfl
theorem lvl_ok {i : Int32} {k : Nat} (h : rdn 4 lvl i = some k) : isSh k = true := by
  obtain ⟨h1, h2⟩ := rdn_ok h
  have h3 : i.toNatClampNeg < 4 := Nat.not_le.mp fun q => h1 (Or.inr q)
  rw [← h2]
  rcases (show i.toNatClampNeg = 0 ∨ i.toNatClampNeg = 1 ∨ i.toNatClampNeg = 2 ∨ i.toNatClampNeg = 3 by omega) with e | e | e | e <;> rw [e] <;> rfl
theorem bool_nf {v : Int32} (h : v = 0 ∨ v = 1) : narrow .boolean (.int v) = .int v ∧ fits .boolean (.int v) = true := by
  rcases h with rfl | rfl <;> exact ⟨rfl, rfl⟩
section LR
variable {p : Program} {l : Launch} {e : Env} {R : Room} {s : State} {m : MethodId} {args : Array Value} {below : List Frame} {meth : Method} {c : Code} {Q : State → Prop} {cc : ByteArray} {nL : Nat} {own : String} {g : GG} {sz : Nat} {x mm S : St} {pc : Nat} {lv : List (Nat × Value)} {st : List Value}
theorem j1_get {k : Nat} (hk : isSh k = true) (C : Cx p m c cc nL s args own g sz) (j : Nat) (hj : j < 10) {idx : Nat} (hlink : Cond.fieldLink own idx (TX1 j).1 (TX1 j).2.1 (TX1 j).2.2.1 ∈ ALLW) {v : Value} (hv : (fsS g k (S 0))[j]? = some v) (hd : decode cc pc = .ok (.getfield idx, 3)) (n : Nat) (hn : pc + 3 = n) (kk : Wj p l e R s m args below meth c Q nL g sz (put x k 7 S) mm n lv (v :: st)) : Wj p l e R s m args below meth c Q nL g sz (put x k 7 S) mm pc lv (.ref (ad g k) :: st) :=
  j_get C k (isSh_lt hk) (by rw [ent_sh hk, put_0 (by decide)]) (C0 := RX1) (T := TX1) (N := 10) rfl inX1 j hj hlink hv hd n hn kk
theorem j3s_get {k : Nat} (hk : isSh k = true) (C : Cx p m c cc nL s args own g sz) (j : Nat) (hj : j < 10) {idx : Nat} (hlink : Cond.fieldLink own idx (TX1 j).1 (TX1 j).2.1 (TX1 j).2.2.1 ∈ ALLW) {v : Value} (hv : (fsS g k (x k))[j]? = some v) (hd : decode cc pc = .ok (.getfield idx, 3)) (n : Nat) (hn : pc + 3 = n) (kk : Wj p l e R s m args below meth c Q nL g sz x mm n lv (v :: st)) : Wj p l e R s m args below meth c Q nL g sz x mm pc lv (.ref (ad g k) :: st) :=
  j_get C k (isSh_lt hk) (ent_sh hk) (C0 := RX1) (T := TX1) (N := 10) rfl inX1 j hj hlink hv hd n hn kk
theorem j1_put {k : Nat} (hk : isSh k = true) (C : Cx p m c cc nL s args own g sz) (j : Nat) (h1 : 6 ≤ j) (h2 : j < 10) (hty : tyX1 j = .int) (hfin : (TX1 j).2.2.2 = false) {idx : Nat} (hlink : Cond.fieldLink own idx (TX1 j).1 (TX1 j).2.1 (TX1 j).2.2.1 ∈ ALLW) {v : Int32} (hd : decode cc pc = .ok (.putfield idx, 3)) (n : Nat) (hn : pc + 3 = n) (kk : Wj p l e R s m args below meth c Q nL g sz (put x k 7 (ups S 0 j v)) mm n lv st) : Wj p l e R s m args below meth c Q nL g sz (put x k 7 S) mm pc lv (.int v :: .ref (ad g k) :: st) :=
  j_put C k (isSh_lt hk) (ent_sh hk) (C0 := RX1) (T := TX1) (N := 10) rfl inX1 tyX1 tyX1_ok nmX1 j (by omega) hlink hfin hty (vp_nar_int _) rfl (by simp only [fsS, List.length_cons, List.length_nil]; omega) (by rw [← ups_put (by decide), Nat.add_zero, ent_sh hk, ups_same, fsS_set _ _ _ _ h1 h2]) (fun q hq => ent_x (by rw [← ups_put (by decide), Nat.add_zero, ups_other _ _ _ hq])) hd n hn kk
theorem j3s_put {k : Nat} (hk : isSh k = true) (C : Cx p m c cc nL s args own g sz) (j : Nat) (h1 : 6 ≤ j) (h2 : j < 10) (hty : tyX1 j = .int) (hfin : (TX1 j).2.2.2 = false) {idx : Nat} (hlink : Cond.fieldLink own idx (TX1 j).1 (TX1 j).2.1 (TX1 j).2.2.1 ∈ ALLW) {v : Int32} (hd : decode cc pc = .ok (.putfield idx, 3)) (n : Nat) (hn : pc + 3 = n) (kk : Wj p l e R s m args below meth c Q nL g sz (ups x k j v) mm n lv st) : Wj p l e R s m args below meth c Q nL g sz x mm pc lv (.int v :: .ref (ad g k) :: st) :=
  j_put C k (isSh_lt hk) (ent_sh hk) (C0 := RX1) (T := TX1) (N := 10) rfl inX1 tyX1 tyX1_ok nmX1 j (by omega) hlink hfin hty (vp_nar_int _) rfl (by simp only [fsS, List.length_cons, List.length_nil]; omega) (by rw [ent_sh hk, ups_same, fsS_set _ _ _ _ h1 h2]) (fun q hq => ent_x (ups_other _ _ _ hq)) hd n hn kk
theorem j2_get (C : Cx p m c cc nL s args own g sz) (j : Nat) (hj : j < 6) {idx : Nat} (hlink : Cond.fieldLink own idx (TX2 j).1 (TX2 j).2.1 (TX2 j).2.2.1 ∈ ALLW) {v : Value} (hv : (fsT g 23 (S 0))[j]? = some v) (hd : decode cc pc = .ok (.getfield idx, 3)) (n : Nat) (hn : pc + 3 = n) (kk : Wj p l e R s m args below meth c Q nL g sz (put x 23 2 S) mm n lv (v :: st)) : Wj p l e R s m args below meth c Q nL g sz (put x 23 2 S) mm pc lv (.ref (ad g 23) :: st) :=
  j_get C 23 (by decide) (by show Sum.inr (2, fsT g 23 (put x 23 2 S 23)) = _; rw [put_0 (by decide)]) (C0 := RX2) (T := TX2) (N := 6) rfl inX2 j hj hlink hv hd n hn kk
theorem j3t_get (C : Cx p m c cc nL s args own g sz) (j : Nat) (hj : j < 6) {idx : Nat} (hlink : Cond.fieldLink own idx (TX2 j).1 (TX2 j).2.1 (TX2 j).2.2.1 ∈ ALLW) {v : Value} (hv : (fsT g 23 (x 23))[j]? = some v) (hd : decode cc pc = .ok (.getfield idx, 3)) (n : Nat) (hn : pc + 3 = n) (kk : Wj p l e R s m args below meth c Q nL g sz x mm n lv (v :: st)) : Wj p l e R s m args below meth c Q nL g sz x mm pc lv (.ref (ad g 23) :: st) :=
  j_get C 23 (by decide) rfl (C0 := RX2) (T := TX2) (N := 6) rfl inX2 j hj hlink hv hd n hn kk
theorem j2_put (C : Cx p m c cc nL s args own g sz) (j : Nat) (h1 : 1 ≤ j) (h2 : j < 6) (hty : tyX2 j = .int) (hfin : (TX2 j).2.2.2 = false) {idx : Nat} (hlink : Cond.fieldLink own idx (TX2 j).1 (TX2 j).2.1 (TX2 j).2.2.1 ∈ ALLW) {v : Int32} (hd : decode cc pc = .ok (.putfield idx, 3)) (n : Nat) (hn : pc + 3 = n) (kk : Wj p l e R s m args below meth c Q nL g sz (put x 23 2 (ups S 0 j v)) mm n lv st) : Wj p l e R s m args below meth c Q nL g sz (put x 23 2 S) mm pc lv (.int v :: .ref (ad g 23) :: st) :=
  j_put C 23 (by decide) (rfl : ent g (put x 23 2 S) mm 23 = .inr (2, fsT g 23 (put x 23 2 S 23))) (C0 := RX2) (T := TX2) (N := 6) rfl inX2 tyX2 tyX2_ok nmX2 j (by omega) hlink hfin hty (vp_nar_int _) rfl (by simp only [fsT, List.length_cons, List.length_nil]; omega) (by rw [← ups_put (k := 23) (j := 0) (by decide)]; show Sum.inr (2, fsT g 23 (ups (put x 23 2 S) 23 j v 23)) = _; rw [ups_same, fsT_set _ _ _ _ h1 h2]) (fun q hq => ent_x (by rw [← ups_put (k := 23) (j := 0) (by decide), ups_other _ _ _ hq])) hd n hn kk
theorem j3t_put (C : Cx p m c cc nL s args own g sz) (j : Nat) (h1 : 1 ≤ j) (h2 : j < 6) (hty : tyX2 j = .int) (hfin : (TX2 j).2.2.2 = false) {idx : Nat} (hlink : Cond.fieldLink own idx (TX2 j).1 (TX2 j).2.1 (TX2 j).2.2.1 ∈ ALLW) {v : Int32} (hd : decode cc pc = .ok (.putfield idx, 3)) (n : Nat) (hn : pc + 3 = n) (kk : Wj p l e R s m args below meth c Q nL g sz (ups x 23 j v) mm n lv st) : Wj p l e R s m args below meth c Q nL g sz x mm pc lv (.int v :: .ref (ad g 23) :: st) :=
  j_put C 23 (by decide) (rfl : ent g x mm 23 = .inr (2, fsT g 23 (x 23))) (C0 := RX2) (T := TX2) (N := 6) rfl inX2 tyX2 tyX2_ok nmX2 j (by omega) hlink hfin hty (vp_nar_int _) rfl (by simp only [fsT, List.length_cons, List.length_nil]; omega) (by show Sum.inr (2, fsT g 23 (ups x 23 j v 23)) = _; rw [ups_same, fsT_set _ _ _ _ h1 h2]) (fun q hq => ent_x (ups_other _ _ _ hq)) hd n hn kk
theorem j0_get {k : Nat} (hk : isSt k = true) (C : Cx p m c cc nL s args own g sz) (j : Nat) (hj : j < 3) {idx : Nat} (hlink : Cond.fieldLink own idx (TX0 j).1 (TX0 j).2.1 (TX0 j).2.2.1 ∈ ALLW) {v : Value} (hv : (fsH g k (S 0))[j]? = some v) (hd : decode cc pc = .ok (.getfield idx, 3)) (n : Nat) (hn : pc + 3 = n) (kk : Wj p l e R s m args below meth c Q nL g sz (put x k 2 S) mm n lv (v :: st)) : Wj p l e R s m args below meth c Q nL g sz (put x k 2 S) mm pc lv (.ref (ad g k) :: st) :=
  j_get C k (isSt_lt hk) (by rw [ent_st hk, put_0 (by decide)]) (C0 := RX0) (T := TX0) (N := 3) rfl inX0 j hj hlink hv hd n hn kk
theorem j3h_get {k : Nat} (hk : isSt k = true) (C : Cx p m c cc nL s args own g sz) (j : Nat) (hj : j < 3) {idx : Nat} (hlink : Cond.fieldLink own idx (TX0 j).1 (TX0 j).2.1 (TX0 j).2.2.1 ∈ ALLW) {v : Value} (hv : (fsH g k (x k))[j]? = some v) (hd : decode cc pc = .ok (.getfield idx, 3)) (n : Nat) (hn : pc + 3 = n) (kk : Wj p l e R s m args below meth c Q nL g sz x mm n lv (v :: st)) : Wj p l e R s m args below meth c Q nL g sz x mm pc lv (.ref (ad g k) :: st) :=
  j_get C k (isSt_lt hk) (ent_st hk) (C0 := RX0) (T := TX0) (N := 3) rfl inX0 j hj hlink hv hd n hn kk
theorem j0_put {k : Nat} (hk : isSt k = true) (C : Cx p m c cc nL s args own g sz) (j : Nat) (h1 : 1 ≤ j) (h2 : j < 3) (hty : tyX0 j = .int) (hfin : (TX0 j).2.2.2 = false) {idx : Nat} (hlink : Cond.fieldLink own idx (TX0 j).1 (TX0 j).2.1 (TX0 j).2.2.1 ∈ ALLW) {v : Int32} (hd : decode cc pc = .ok (.putfield idx, 3)) (n : Nat) (hn : pc + 3 = n) (kk : Wj p l e R s m args below meth c Q nL g sz (put x k 2 (ups S 0 j v)) mm n lv st) : Wj p l e R s m args below meth c Q nL g sz (put x k 2 S) mm pc lv (.int v :: .ref (ad g k) :: st) :=
  j_put C k (isSt_lt hk) (ent_st hk) (C0 := RX0) (T := TX0) (N := 3) rfl inX0 tyX0 tyX0_ok nmX0 j (by omega) hlink hfin hty (vp_nar_int _) rfl (by simp only [fsH, List.length_cons, List.length_nil]; omega) (by rw [← ups_put (by decide), Nat.add_zero, ent_st hk, ups_same, fsH_set _ _ _ _ h1 h2]) (fun q hq => ent_x (by rw [← ups_put (by decide), Nat.add_zero, ups_other _ _ _ hq])) hd n hn kk
theorem j3_get (C : Cx p m c cc nL s args own g sz) (j : Nat) (hj : j < 8) {idx : Nat} (hlink : Cond.fieldLink own idx (TX3 j).1 (TX3 j).2.1 (TX3 j).2.2.1 ∈ ALLW) {v : Value} (hv : (fsP g (x 0))[j]? = some v) (hd : decode cc pc = .ok (.getfield idx, 3)) (n : Nat) (hn : pc + 3 = n) (kk : Wj p l e R s m args below meth c Q nL g sz x mm n lv (v :: st)) : Wj p l e R s m args below meth c Q nL g sz x mm pc lv (.ref (ad g 0) :: st) :=
  j_get C 0 (by decide) rfl (C0 := RX3) (T := TX3) (N := 8) rfl inX3 j hj hlink hv hd n hn kk
theorem j3_putz (C : Cx p m c cc nL s args own g sz) {idx : Nat} (hlink : Cond.fieldLink own idx (TX3 2).1 (TX3 2).2.1 (TX3 2).2.2.1 ∈ ALLW) {v : Int32} (hv : v = 0 ∨ v = 1) (hd : decode cc pc = .ok (.putfield idx, 3)) (n : Nat) (hn : pc + 3 = n) (kk : Wj p l e R s m args below meth c Q nL g sz (ups x 0 2 v) mm n lv st) : Wj p l e R s m args below meth c Q nL g sz x mm pc lv (.int v :: .ref (ad g 0) :: st) :=
  j_put C 0 (by decide) (rfl : ent g x mm 0 = .inr (3, fsP g (x 0))) (C0 := RX3) (T := TX3) (N := 8) rfl inX3 tyX3 tyX3_ok nmX3 2 (by decide) hlink rfl (ty := .boolean) rfl (bool_nf hv).1 (bool_nf hv).2 (Nat.lt_of_lt_of_le (by decide : 2 < 8) (Nat.le_refl 8)) (by show Sum.inr (3, fsP g (ups x 0 2 v 0)) = _; rw [ups_same]; rfl) (fun q hq => ent_x (ups_other _ _ _ hq)) hd n hn kk
theorem j4_get (C : Cx p m c cc nL s args own g sz) (j : Nat) (hj : j < 27) {idx : Nat} (hlink : Cond.fieldLink own idx (TX4 j).1 (TX4 j).2.1 (TX4 j).2.2.1 ∈ ALLW) {v : Value} (hv : (fsM g (mm 0))[j]? = some v) (hd : decode cc pc = .ok (.getfield idx, 3)) (n : Nat) (hn : pc + 3 = n) (kk : Wj p l e R s m args below meth c Q nL g sz x mm n lv (v :: st)) : Wj p l e R s m args below meth c Q nL g sz x mm pc lv (.ref (ad g 56) :: st) :=
  j_get C 56 (by decide) rfl (C0 := RX4) (T := TX4) (N := 27) rfl inX4 j hj hlink hv hd n hn kk
def fsM_w (j : Nat) : Bool := j == 3 || (j == 5 || (j == 6 || (j == 7 || (j == 8 || (j == 9 || (j == 11 || (j == 12 || (j == 13 || (j == 14 || (j == 15 || (j == 16 || (j == 20 || j == 21))))))))))))
theorem fsM_set (g : GG) (F : Nat → Int32) (v : Int32) {j : Nat} (h : fsM_w j = true) : j < 27 ∧ (fsM g F).set j (.int v) = fsM g (upd F j v) := by
  have h2 : j = 3 ∨ j = 5 ∨ j = 6 ∨ j = 7 ∨ j = 8 ∨ j = 9 ∨ j = 11 ∨ j = 12 ∨ j = 13 ∨ j = 14 ∨ j = 15 ∨ j = 16 ∨ j = 20 ∨ j = 21 := by simpa [fsM_w] using h
  rcases h2 with rfl | rfl | rfl | rfl | rfl | rfl | rfl | rfl | rfl | rfl | rfl | rfl | rfl | rfl <;> exact ⟨by decide, rfl⟩
theorem ent_mo {g : GG} {x mm m2 : St} {j : Nat} (h : ∀ q, q ≠ j → m2 q = mm q) : ∀ q, q ≠ 56 + j → ent g x m2 q = ent g x mm q := by
  intro q hq
  by_cases h1 : q < 56
  · unfold ent
    rw [if_pos h1, if_pos h1]
  · exact ent_m (h _ (by omega))
theorem j4_putT {ty : FieldType} (C : Cx p m c cc nL s args own g sz) (j : Nat) (hj : fsM_w j = true) (hty : tyX4 j = ty) (hfin : (TX4 j).2.2.2 = false) {idx : Nat} (hlink : Cond.fieldLink own idx (TX4 j).1 (TX4 j).2.1 (TX4 j).2.2.1 ∈ ALLW) {v : Int32} (hnar : narrow ty (.int v) = .int v) (hfit : fits ty (.int v) = true) (hd : decode cc pc = .ok (.putfield idx, 3)) (n : Nat) (hn : pc + 3 = n) (kk : Wj p l e R s m args below meth c Q nL g sz x (ups mm 0 j v) n lv st) : Wj p l e R s m args below meth c Q nL g sz x mm pc lv (.int v :: .ref (ad g 56) :: st) :=
  j_put C 56 (by decide) (rfl : ent g x mm 56 = .inr (4, fsM g (mm 0))) (C0 := RX4) (T := TX4) (N := 27) rfl inX4 tyX4 tyX4_ok nmX4 j (fsM_set g (mm 0) v hj).1 hlink hfin hty hnar hfit (fsM_set g (mm 0) v hj).1 (by show Sum.inr (4, fsM g (ups mm 0 j v 0)) = _; rw [ups_same, (fsM_set g (mm 0) v hj).2]) (ent_mo (j := 0) (fun q hq => ups_other _ _ _ hq)) hd n hn kk
theorem j4_put (C : Cx p m c cc nL s args own g sz) (j : Nat) (hj : fsM_w j = true) (hty : tyX4 j = .int) (hfin : (TX4 j).2.2.2 = false) {idx : Nat} (hlink : Cond.fieldLink own idx (TX4 j).1 (TX4 j).2.1 (TX4 j).2.2.1 ∈ ALLW) {v : Int32} (hd : decode cc pc = .ok (.putfield idx, 3)) (n : Nat) (hn : pc + 3 = n) (kk : Wj p l e R s m args below meth c Q nL g sz x (ups mm 0 j v) n lv st) : Wj p l e R s m args below meth c Q nL g sz x mm pc lv (.int v :: .ref (ad g 56) :: st) := j4_putT C j hj hty hfin hlink (vp_nar_int _) rfl hd n hn kk
theorem j4_putz (C : Cx p m c cc nL s args own g sz) (j : Nat) (hj : fsM_w j = true) (hty : tyX4 j = .boolean) (hfin : (TX4 j).2.2.2 = false) {idx : Nat} (hlink : Cond.fieldLink own idx (TX4 j).1 (TX4 j).2.1 (TX4 j).2.2.1 ∈ ALLW) {v : Int32} (hv : v = 0 ∨ v = 1) (hd : decode cc pc = .ok (.putfield idx, 3)) (n : Nat) (hn : pc + 3 = n) (kk : Wj p l e R s m args below meth c Q nL g sz x (ups mm 0 j v) n lv st) : Wj p l e R s m args below meth c Q nL g sz x mm pc lv (.int v :: .ref (ad g 56) :: st) := j4_putT C j hj hty hfin hlink (bool_nf hv).1 (bool_nf hv).2 hd n hn kk
theorem j1_ald {k : Nat} (hk : isSh k = true) (j : Nat) (hj1 : 1 ≤ j) (hj2 : j < 7) (C : Cx p m c cc nL s args own g sz) {i v : Int32} (hv : rd S j (shl j) i = some v) (hd : decode cc pc = .ok (.iaload, 1)) (n : Nat) (hn : pc + 1 = n) (kk : Wj p l e R s m args below meth c Q nL g sz (put x k 7 S) mm n lv (.int v :: st)) : Wj p l e R s m args below meth c Q nL g sz (put x k 7 S) mm pc lv (.int i :: .ref (ad g (k + j)) :: st) :=
  j_iald C (k + j) (ent_sha (g := g) (x := x) (mm := mm) hk hj1 hj2).1 (by rw [(ent_sha hk hj1 hj2).2, put_in hj2]) (rd_ok hv).1 (rd_ok hv).2 hd n hn kk
theorem j1_ast {k : Nat} (hk : isSh k = true) (j : Nat) (hj1 : 1 ≤ j) (hj2 : j < 7) {S2 : St} (C : Cx p m c cc nL s args own g sz) {i v : Int32} (hv : wr S j (shl j) i v = some S2) (hd : decode cc pc = .ok (.iastore, 1)) (n : Nat) (hn : pc + 1 = n) (kk : Wj p l e R s m args below meth c Q nL g sz (put x k 7 S2) mm n lv st) : Wj p l e R s m args below meth c Q nL g sz (put x k 7 S) mm pc lv (.int v :: .int i :: .ref (ad g (k + j)) :: st) := by
  obtain ⟨h1, h2⟩ := wr_ok hv
  subst h2
  exact j_iast C (k + j) (ent_sha (g := g) (x := x) (mm := mm) hk hj1 hj2).1 (by rw [(ent_sha hk hj1 hj2).2, put_in hj2]) h1 (by rw [← ups_put hj2, (ent_sha hk hj1 hj2).2, ups_same, put_in hj2]) (fun q hq => ent_x (by rw [← ups_put hj2, ups_other _ _ _ hq])) hd n hn kk
theorem j3s_ald {k : Nat} (hk : isSh k = true) (j : Nat) (hj1 : 1 ≤ j) (hj2 : j < 7) (C : Cx p m c cc nL s args own g sz) {i v : Int32} (hv : rd x (k + j) (shl j) i = some v) (hd : decode cc pc = .ok (.iaload, 1)) (n : Nat) (hn : pc + 1 = n) (kk : Wj p l e R s m args below meth c Q nL g sz x mm n lv (.int v :: st)) : Wj p l e R s m args below meth c Q nL g sz x mm pc lv (.int i :: .ref (ad g (k + j)) :: st) :=
  j_iald C (k + j) (ent_sha (g := g) (x := x) (mm := mm) hk hj1 hj2).1 (ent_sha hk hj1 hj2).2 (rd_ok hv).1 (rd_ok hv).2 hd n hn kk
theorem j3s_ast {k : Nat} (hk : isSh k = true) (j : Nat) (hj1 : 1 ≤ j) (hj2 : j < 7) {S2 : St} (C : Cx p m c cc nL s args own g sz) {i v : Int32} (hv : wr x (k + j) (shl j) i v = some S2) (hd : decode cc pc = .ok (.iastore, 1)) (n : Nat) (hn : pc + 1 = n) (kk : Wj p l e R s m args below meth c Q nL g sz S2 mm n lv st) : Wj p l e R s m args below meth c Q nL g sz x mm pc lv (.int v :: .int i :: .ref (ad g (k + j)) :: st) := by
  obtain ⟨h1, h2⟩ := wr_ok hv
  subst h2
  exact j_iast C (k + j) (ent_sha (g := g) (x := x) (mm := mm) hk hj1 hj2).1 (ent_sha hk hj1 hj2).2 h1 (by rw [(ent_sha hk hj1 hj2).2, ups_same]) (fun q hq => ent_x (ups_other _ _ _ hq)) hd n hn kk
theorem j2_ald (C : Cx p m c cc nL s args own g sz) {i v : Int32} (hv : rd S 1 120 i = some v) (hd : decode cc pc = .ok (.iaload, 1)) (n : Nat) (hn : pc + 1 = n) (kk : Wj p l e R s m args below meth c Q nL g sz (put x 23 2 S) mm n lv (.int v :: st)) : Wj p l e R s m args below meth c Q nL g sz (put x 23 2 S) mm pc lv (.int i :: .ref (ad g (24)) :: st) :=
  j_iald C (24) (by decide) (by show Sum.inl (g.2.1 0, 120, Sum.inl (put x 23 2 S (23 + 1))) = _; rw [put_in (by decide)]) (rd_ok hv).1 (rd_ok hv).2 hd n hn kk
theorem j2_ast {S2 : St} (C : Cx p m c cc nL s args own g sz) {i v : Int32} (hv : wr S 1 120 i v = some S2) (hd : decode cc pc = .ok (.iastore, 1)) (n : Nat) (hn : pc + 1 = n) (kk : Wj p l e R s m args below meth c Q nL g sz (put x 23 2 S2) mm n lv st) : Wj p l e R s m args below meth c Q nL g sz (put x 23 2 S) mm pc lv (.int v :: .int i :: .ref (ad g (24)) :: st) := by
  obtain ⟨h1, h2⟩ := wr_ok hv
  subst h2
  exact j_iast C (24) (by decide) (by show Sum.inl (g.2.1 0, 120, Sum.inl (put x 23 2 S (23 + 1))) = _; rw [put_in (by decide)]) h1 (by rw [← ups_put (k := 23) (j := 1) (by decide)]; show Sum.inl (g.2.1 0, 120, Sum.inl (ups (put x 23 2 S) (23 + 1) i.toNatClampNeg v (23 + 1))) = _; rw [ups_same, put_in (by decide)]) (fun q hq => ent_x (by rw [← ups_put (k := 23) (j := 1) (by decide), ups_other _ _ _ hq])) hd n hn kk
theorem j0_ald {k : Nat} (hk : isSt k = true) (C : Cx p m c cc nL s args own g sz) {i v : Int32} (hv : rd S 1 40 i = some v) (hd : decode cc pc = .ok (.iaload, 1)) (n : Nat) (hn : pc + 1 = n) (kk : Wj p l e R s m args below meth c Q nL g sz (put x k 2 S) mm n lv (.int v :: st)) : Wj p l e R s m args below meth c Q nL g sz (put x k 2 S) mm pc lv (.int i :: .ref (ad g (k + 1)) :: st) :=
  j_iald C (k + 1) (ent_sta (g := g) (x := x) (mm := mm) hk).1 (by rw [(ent_sta hk).2, put_in (by decide)]) (rd_ok hv).1 (rd_ok hv).2 hd n hn kk
theorem j0_ast {k : Nat} (hk : isSt k = true) {S2 : St} (C : Cx p m c cc nL s args own g sz) {i v : Int32} (hv : wr S 1 40 i v = some S2) (hd : decode cc pc = .ok (.iastore, 1)) (n : Nat) (hn : pc + 1 = n) (kk : Wj p l e R s m args below meth c Q nL g sz (put x k 2 S2) mm n lv st) : Wj p l e R s m args below meth c Q nL g sz (put x k 2 S) mm pc lv (.int v :: .int i :: .ref (ad g (k + 1)) :: st) := by
  obtain ⟨h1, h2⟩ := wr_ok hv
  subst h2
  exact j_iast C (k + 1) (ent_sta (g := g) (x := x) (mm := mm) hk).1 (by rw [(ent_sta hk).2, put_in (by decide)]) h1 (by rw [← ups_put (by decide), (ent_sta hk).2, ups_same, put_in (by decide)]) (fun q hq => ent_x (by rw [← ups_put (by decide), ups_other _ _ _ hq])) hd n hn kk
theorem j3h_ald {k : Nat} (hk : isSt k = true) (C : Cx p m c cc nL s args own g sz) {i v : Int32} (hv : rd x (k + 1) 40 i = some v) (hd : decode cc pc = .ok (.iaload, 1)) (n : Nat) (hn : pc + 1 = n) (kk : Wj p l e R s m args below meth c Q nL g sz x mm n lv (.int v :: st)) : Wj p l e R s m args below meth c Q nL g sz x mm pc lv (.int i :: .ref (ad g (k + 1)) :: st) :=
  j_iald C (k + 1) (ent_sta (g := g) (x := x) (mm := mm) hk).1 (ent_sta hk).2 (rd_ok hv).1 (rd_ok hv).2 hd n hn kk
theorem j3h_ast {k : Nat} (hk : isSt k = true) {S2 : St} (C : Cx p m c cc nL s args own g sz) {i v : Int32} (hv : wr x (k + 1) 40 i v = some S2) (hd : decode cc pc = .ok (.iastore, 1)) (n : Nat) (hn : pc + 1 = n) (kk : Wj p l e R s m args below meth c Q nL g sz S2 mm n lv st) : Wj p l e R s m args below meth c Q nL g sz x mm pc lv (.int v :: .int i :: .ref (ad g (k + 1)) :: st) := by
  obtain ⟨h1, h2⟩ := wr_ok hv
  subst h2
  exact j_iast C (k + 1) (ent_sta (g := g) (x := x) (mm := mm) hk).1 (ent_sta hk).2 h1 (by rw [(ent_sta hk).2, ups_same]) (fun q hq => ent_x (ups_other _ _ _ hq)) hd n hn kk
theorem j3f_ald (C : Cx p m c cc nL s args own g sz) {i v : Int32} (hv : rd x 26 7 i = some v) (hd : decode cc pc = .ok (.iaload, 1)) (n : Nat) (hn : pc + 1 = n) (kk : Wj p l e R s m args below meth c Q nL g sz x mm n lv (.int v :: st)) : Wj p l e R s m args below meth c Q nL g sz x mm pc lv (.int i :: .ref (ad g (26)) :: st) :=
  j_iald C (26) (by decide) (rfl : ent g x mm 26 = .inl (g.2.1 0, 7, .inl (x 26))) (rd_ok hv).1 (rd_ok hv).2 hd n hn kk
theorem j3f_ast {S2 : St} (C : Cx p m c cc nL s args own g sz) {i v : Int32} (hv : wr x 26 7 i v = some S2) (hd : decode cc pc = .ok (.iastore, 1)) (n : Nat) (hn : pc + 1 = n) (kk : Wj p l e R s m args below meth c Q nL g sz S2 mm n lv st) : Wj p l e R s m args below meth c Q nL g sz x mm pc lv (.int v :: .int i :: .ref (ad g (26)) :: st) := by
  obtain ⟨h1, h2⟩ := wr_ok hv
  subst h2
  exact j_iast C (26) (by decide) (rfl : ent g x mm 26 = .inl (g.2.1 0, 7, .inl (x 26))) h1 (by show Sum.inl (g.2.1 0, 7, Sum.inl (ups x 26 i.toNatClampNeg v 26)) = _; rw [ups_same]; rfl) (fun q hq => ent_x (ups_other _ _ _ hq)) hd n hn kk
theorem j4_ald (j : Nat) (hj : isMA j = true) (C : Cx p m c cc nL s args own g sz) {i v : Int32} (hv : rd mm j (alM j) i = some v) (hd : decode cc pc = .ok (.iaload, 1)) (n : Nat) (hn : pc + 1 = n) (kk : Wj p l e R s m args below meth c Q nL g sz x mm n lv (.int v :: st)) : Wj p l e R s m args below meth c Q nL g sz x mm pc lv (.int i :: .ref (ad g (56 + j)) :: st) :=
  j_iald C (56 + j) (ent_ma (g := g) (x := x) (mm := mm) hj).1 (ent_ma hj).2 (rd_ok hv).1 (rd_ok hv).2 hd n hn kk
theorem j4_ast (j : Nat) (hj : isMA j = true) {S2 : St} (C : Cx p m c cc nL s args own g sz) {i v : Int32} (hv : wr mm j (alM j) i v = some S2) (hd : decode cc pc = .ok (.iastore, 1)) (n : Nat) (hn : pc + 1 = n) (kk : Wj p l e R s m args below meth c Q nL g sz x S2 n lv st) : Wj p l e R s m args below meth c Q nL g sz x mm pc lv (.int v :: .int i :: .ref (ad g (56 + j)) :: st) := by
  obtain ⟨h1, h2⟩ := wr_ok hv
  subst h2
  exact j_iast C (56 + j) (ent_ma (g := g) (x := x) (mm := mm) hj).1 (ent_ma hj).2 h1 (by rw [(ent_ma hj).2, ups_same]) (ent_mo (fun q hq => ups_other _ _ _ hq)) hd n hn kk
theorem j3_levels (C : Cx p m c cc nL s args own g sz) {i : Int32} {k : Nat} (hv : rdn 4 lvl i = some k) (hd : decode cc pc = .ok (.aaload, 1)) (n : Nat) (hn : pc + 1 = n) (kk : Wj p l e R s m args below meth c Q nL g sz x mm n lv (.ref (ad g k) :: st)) : Wj p l e R s m args below meth c Q nL g sz x mm pc lv (.int i :: .ref (ad g 22) :: st) :=
  j_aald C 22 (by decide) 1 (rfl : ent g x mm 22 = .inl (g.2.1 1, 4, .inr (.inr (.inr (.inr (fun i => some (ad g (lvl i)))))))) rfl (rdn_ok hv).1 (by rw [← (rdn_ok hv).2]) hd n hn kk
theorem j3_sheets (C : Cx p m c cc nL s args own g sz) {i : Int32} {k : Nat} (hv : rdn 4 sht i = some k) (hd : decode cc pc = .ok (.aaload, 1)) (n : Nat) (hn : pc + 1 = n) (kk : Wj p l e R s m args below meth c Q nL g sz x mm n lv (.ref (ad g k) :: st)) : Wj p l e R s m args below meth c Q nL g sz x mm pc lv (.int i :: .ref (ad g 25) :: st) :=
  j_aald C 25 (by decide) 2 (rfl : ent g x mm 25 = .inl (g.2.1 2, 4, .inr (.inr (.inr (.inr (fun i => some (ad g (sht i)))))))) rfl (rdn_ok hv).1 (by rw [← (rdn_ok hv).2]) hd n hn kk
def isSA (q : Nat) : Bool := q == 6 || q == 7
def stb (q i : Nat) : Nat := if q = 6 then i else 7 + i
theorem ent_sa {q : Nat} (h : isSA q = true) : 56 + q < 70 ∧ ent g x mm (56 + q) = .inl (g.2.1 3, alM q, .inr (.inr (.inr (.inr (fun i => some (adK g (stb q i))))))) := by
  rcases (show q = 6 ∨ q = 7 by simpa [isSA] using h) with rfl | rfl <;> exact ⟨by decide, rfl⟩
theorem j4_words (C : Cx p m c cc nL s args own g sz) (q : Nat) (hq : isSA q = true) {i : Int32} {w : Nat} (hv : rdn (alM q) (stb q) i = some w) (hd : decode cc pc = .ok (.aaload, 1)) (n : Nat) (hn : pc + 1 = n) (kk : Wj p l e R s m args below meth c Q nL g sz x mm n lv (.ref (adK g w) :: st)) : Wj p l e R s m args below meth c Q nL g sz x mm pc lv (.int i :: .ref (ad g (56 + q)) :: st) :=
  j_aald C (56 + q) (ent_sa (g := g) (x := x) (mm := mm) hq).1 3 (ent_sa hq).2 rfl (rdn_ok hv).1 (by rw [← (rdn_ok hv).2]) hd n hn kk
theorem j4_wlen (C : Cx p m c cc nL s args own g sz) (q : Nat) (hq : isSA q = true) (hd : decode cc pc = .ok (.arraylength, 1)) (n : Nat) (hn : pc + 1 = n) (kk : Wj p l e R s m args below meth c Q nL g sz x mm n lv (.int (nI (alM q)) :: st)) : Wj p l e R s m args below meth c Q nL g sz x mm pc lv (.ref (ad g (56 + q)) :: st) :=
  j_alen C (56 + q) (ent_sa (g := g) (x := x) (mm := mm) hq).1 3 (ent_sa hq).2 rfl rfl hd n hn kk
theorem rcv_sh {k : Nat} (hk : isSh k = true) : RecvJ g x mm (ad g k) RX1 := ⟨k, 1, _, TX1, 10, rfl, isSh_lt hk, ent_sh hk, rfl⟩
theorem rcv_st {k : Nat} (hk : isSt k = true) : RecvJ g x mm (ad g k) RX0 := ⟨k, 0, _, TX0, 3, rfl, isSt_lt hk, ent_st hk, rfl⟩
theorem rcv_tp : RecvJ g x mm (ad g 23) RX2 := ⟨23, 2, _, TX2, 6, rfl, by decide, rfl, rfl⟩
theorem rcv_pl : RecvJ g x mm (ad g 0) RX3 := ⟨0, 3, _, TX3, 8, rfl, by decide, rfl, rfl⟩
theorem rcv_mo : RecvJ g x mm (ad g 56) RX4 := ⟨56, 4, _, TX4, 27, rfl, by decide, rfl, rfl⟩
end LR
end
section
/-! aux: rows that the generator uses beside the J rows -/
def FU : Nat := 1000
def irm (a b : Int32) : Int32 := a - a / b * b
def gsh (k : Nat) : Option Nat := if isSh k = true then some k else none
def gst (w : Nat) : Option Nat := if w < 11 then some w else none
def gne (a b : Nat) : Option Nat := if a = b then none else some a
theorem gsh_ok {k v : Nat} (h : gsh k = some v) : isSh k = true := by
  unfold gsh at h
  split at h
  · assumption
  · cases h
theorem gst_ok {k v : Nat} (h : gst k = some v) : k < 11 := by
  unfold gst at h
  split at h
  · assumption
  · cases h
theorem gne_ok {a b v : Nat} (h : gne a b = some v) : ¬ a = b := by
  unfold gne at h
  split at h
  · cases h
  · assumption
theorem stb_ok {q w : Nat} {i : Int32} (hq : isSA q = true) (h : rdn (alM q) (stb q) i = some w) : w < 11 := by
  obtain ⟨h1, h2⟩ := rdn_ok h
  have h3 : i.toNatClampNeg < alM q := Nat.not_le.mp fun z => h1 (Or.inr z)
  rcases (show q = 6 ∨ q = 7 by simpa [isSA] using hq) with rfl | rfl
  · rw [← h2]
    have : i.toNatClampNeg < 7 := h3
    show (if 6 = 6 then i.toNatClampNeg else 7 + i.toNatClampNeg) < 11
    rw [if_pos rfl]
    omega
  · rw [← h2]
    have : i.toNatClampNeg < 3 := h3
    show (if 7 = 6 then i.toNatClampNeg else 7 + i.toNatClampNeg) < 11
    rw [if_neg (by decide)]
    omega
def acp (x : St) (k1 k2 n1 n2 : Nat) (sp dp n : Int32) : Option St := if sp < 0 ∨ dp < 0 ∨ n < 0 ∨ n1 < sp.toNatClampNeg + n.toNatClampNeg ∨ n2 < dp.toNatClampNeg + n.toNatClampNeg then none else some (setr x k2 (va_cpy (x k1) (x k2) sp.toNatClampNeg dp.toNatClampNeg n.toNatClampNeg))
theorem acp_ok {x y : St} {k1 k2 n1 n2 : Nat} {sp dp n : Int32} (h : acp x k1 k2 n1 n2 sp dp n = some y) : ¬ sp < 0 ∧ ¬ dp < 0 ∧ ¬ n < 0 ∧ sp.toNatClampNeg + n.toNatClampNeg ≤ n1 ∧ dp.toNatClampNeg + n.toNatClampNeg ≤ n2 ∧ setr x k2 (va_cpy (x k1) (x k2) sp.toNatClampNeg dp.toNatClampNeg n.toNatClampNeg) = y := by
  unfold acp at h
  split at h
  · cases h
  · rename_i q
    exact ⟨fun z => q (Or.inl z), fun z => q (Or.inr (Or.inl z)), fun z => q (Or.inr (Or.inr (Or.inl z))), Nat.not_lt.mp fun z => q (Or.inr (Or.inr (Or.inr (Or.inl z)))), Nat.not_lt.mp fun z => q (Or.inr (Or.inr (Or.inr (Or.inr z)))), Option.some.inj h⟩
theorem sw_gen {a : Int32} (n : Nat) (hn : n < 100) (h : ∀ i : Nat, i ≤ n → ¬ a = nI i) : a.toInt < ((0 : Nat) : Int) ∨ ((n : Nat) : Int) < a.toInt := by
  by_cases h1 : a.toInt < ((0 : Nat) : Int)
  · exact Or.inl h1
  · right
    have h2 : ¬ a < 0 := fun q => h1 (by have := Int32.lt_iff_toInt_lt.mp q; simpa using this)
    obtain ⟨j, hj, rfl⟩ := nI_of h2
    rw [nI_toInt hj]
    rcases Nat.lt_or_ge n j with q | q
    · exact_mod_cast q
    · exact absurd rfl (h j q)
theorem sw_out2 {a : Int32} (h0 : ¬ a = 0) (h1 : ¬ a = 1) (h2 : ¬ a = 2) : a.toInt < 0 ∨ 2 < a.toInt := sw_gen 2 (by decide) (fun i hi => by
  rcases (show i = 0 ∨ i = 1 ∨ i = 2 by omega) with rfl | rfl | rfl <;> assumption)
theorem sw_out4 {a : Int32} (h0 : ¬ a = 0) (h1 : ¬ a = 1) (h2 : ¬ a = 2) (h3 : ¬ a = 3) (h4 : ¬ a = 4) : a.toInt < 0 ∨ 4 < a.toInt := sw_gen 4 (by decide) (fun i hi => by
  rcases (show i = 0 ∨ i = 1 ∨ i = 2 ∨ i = 3 ∨ i = 4 by omega) with rfl | rfl | rfl | rfl | rfl <;> assumption)
theorem sw_out5 {a : Int32} (h0 : ¬ a = 0) (h1 : ¬ a = 1) (h2 : ¬ a = 2) (h3 : ¬ a = 3) (h4 : ¬ a = 4) (h5 : ¬ a = 5) : a.toInt < 0 ∨ 5 < a.toInt := sw_gen 5 (by decide) (fun i hi => by
  rcases (show i = 0 ∨ i = 1 ∨ i = 2 ∨ i = 3 ∨ i = 4 ∨ i = 5 by omega) with rfl | rfl | rfl | rfl | rfl | rfl <;> assumption)
theorem sw_out6 {a : Int32} (h0 : ¬ a = 0) (h1 : ¬ a = 1) (h2 : ¬ a = 2) (h3 : ¬ a = 3) (h4 : ¬ a = 4) (h5 : ¬ a = 5) (h6 : ¬ a = 6) : a.toInt < 0 ∨ 6 < a.toInt := sw_gen 6 (by decide) (fun i hi => by
  rcases (show i = 0 ∨ i = 1 ∨ i = 2 ∨ i = 3 ∨ i = 4 ∨ i = 5 ∨ i = 6 by omega) with rfl | rfl | rfl | rfl | rfl | rfl | rfl <;> assumption)
theorem sw_out7 {a : Int32} (h0 : ¬ a = 0) (h1 : ¬ a = 1) (h2 : ¬ a = 2) (h3 : ¬ a = 3) (h4 : ¬ a = 4) (h5 : ¬ a = 5) (h6 : ¬ a = 6) (h7 : ¬ a = 7) : a.toInt < 0 ∨ 7 < a.toInt := sw_gen 7 (by decide) (fun i hi => by
  rcases (show i = 0 ∨ i = 1 ∨ i = 2 ∨ i = 3 ∨ i = 4 ∨ i = 5 ∨ i = 6 ∨ i = 7 by omega) with rfl | rfl | rfl | rfl | rfl | rfl | rfl | rfl <;> assumption)
theorem lk_gen {a : Int32} {b1 b2 D : Int} (h0 : ¬ a = 0) (h1 : ¬ a = 1) : Op.lookupswitch.offset [(0, b1), (1, b2)] D a.toInt = D := by
  have h2 : ¬ (0 : Int) = a.toInt := fun q => h0 (Int32.toInt_inj.mp q.symm)
  have h3 : ¬ (1 : Int) = a.toInt := fun q => h1 (Int32.toInt_inj.mp q.symm)
  simp [Op.lookupswitch.offset, h2, h3]
theorem sw_lk2 {a : Int32} (h0 : ¬ a = 0) (h1 : ¬ a = 1) : Op.lookupswitch.offset (#[((0 : Int), (27 : Int)), (1, 31)] : Array (Int × Int)).toList 35 a.toInt = 35 := lk_gen h0 h1
def J0_length (w : Nat) : Int32 := nI (skL.getD w 0)
def J0_charAt (w : Nat) (i : Int32) : Option Int32 := rdc (skL.getD w 0) (fun j => (skB.getD w []).getD j 0) i
def mxI (x y : Int32) : Int32 := if x < y then y else x
def mnI (x y : Int32) : Int32 := if y < x then y else x
section AR
variable {p : Program} {l : Launch} {e : Env} {R : Room} {s : State} {m : MethodId} {args : Array Value} {below : List Frame} {meth : Method} {c : Code} {Q : State → Prop} {cc : ByteArray} {nL : Nat} {own : String} {g : GG} {sz : Nat} {x mm S : St} {pc : Nat} {lv : List (Nat × Value)} {st : List Value}
theorem j_idivc (C : Cx p m c cc nL s args own g sz) {a b : Int32} (hd : decode cc pc = .ok (.idiv, 1)) (hb : ¬ b = 0) (n : Nat) (hn : pc + 1 = n) (kk : Wj p l e R s m args below meth c Q nL g sz x mm n lv (.int (a / b) :: st)) : Wj p l e R s m args below meth c Q nL g sz x mm pc lv (.int b :: .int a :: st) := j_idiv C hd (by unfold dvn; rw [if_neg hb]) n hn kk
theorem j_iremc (C : Cx p m c cc nL s args own g sz) {a b : Int32} (hd : decode cc pc = .ok (.irem, 1)) (hb : ¬ b = 0) (n : Nat) (hn : pc + 1 = n) (kk : Wj p l e R s m args below meth c Q nL g sz x mm n lv (.int (irm a b) :: st)) : Wj p l e R s m args below meth c Q nL g sz x mm pc lv (.int b :: .int a :: st) := j_irem C hd (by unfold rmn; rw [if_neg hb]; rfl) n hn kk
theorem w_ldcwS {H : Heap} {locs : List Loc} {cells slots : Nat} {ls : Array Slot} (hexec : p.tables.exec = Jvm.exec) (hb : c.code = cc) {tx : String} {index q : Nat} (hown : s.vm.findClass own = some m.cls) (hZ : vk_R own index tx q s) (hdg : decode cc pc = .ok (.ldc_w index, 3))
    (k : W p l e R s m args below meth c H locs cells slots Q (F0 m (pc + 3) ls (.ref q :: st))) : W p l e R s m args below meth c H locs cells slots Q (F0 m pc ls st) := by
  intro T hT X
  obtain ⟨t, a1, b1⟩ := k T hT X
  refine ⟨t, ?_, b1⟩
  obtain ⟨k0, cf, i, a', hk, hcf, hcp, -, hr, hev'⟩ := Cond.stringRef_spec hown hZ.1
  cases hZ.2.symm.trans hev'
  obtain ⟨k', hk', he⟩ := X.warmed.alike.2.2 _ _ hk
  have hr' : k'.resolved[index]? = some (some (.string q)) := by
    rcases X.warmed.entry hk hk' index with h | ⟨h, -⟩
    · rw [h]; exact hr
    · rw [hr] at h; cases h
  subst hb
  jvm_step X.here [hexec, hdg, ldc_w.wp_string (e := e) (s := T) (f := F0 m pc ls st) X.here.top hk' (by rw [he]; exact hcf) hcp hr']
  exact a1
theorem j_ldcwS (C : Cx p m c cc nL s args own g sz) {tx : String} {idx q : Nat} (hZ : vk_R own idx tx q s) (hd : decode cc pc = .ok (.ldc_w idx, 3)) (n : Nat) (hn : pc + 3 = n) (kk : Wj p l e R s m args below meth c Q nL g sz x mm n lv (.ref q :: st)) : Wj p l e R s m args below meth c Q nL g sz x mm pc lv st := fun H locs ls hW hS hl => by
  subst hn
  exact w_ldcwS C.1.1 C.1.2.1 C.1.2.2.2.1 hZ hd (kk H locs ls hW hS hl)
theorem j_acopy {x2 m2 : St} (C : Cx p m c cc nL s args own g sz) (k1 k2 : Nat) (hk1 : k1 < 70) (hk2 : k2 < 70) {n1 n2 : Nat} {f h : Nat → Int32} (he1 : ent g x mm k1 = .inl (g.2.1 0, n1, .inl f)) (he2 : ent g x mm k2 = .inl (g.2.1 0, n2, .inl h)) {idx : Nat} (hlink : Cond.methodLink own idx arraycopyName ∈ ALLW) (hnat : Cond.native arraycopyName ∈ ALLW) (hstt : Cond.static arraycopyName ∈ ALLW) (hini : Cond.initialized "java/lang/System" ∈ ALLW)
    {sp dp n : Int32} (h1 : ¬ sp < 0) (h2 : ¬ dp < 0) (h3 : ¬ n < 0) (h4 : sp.toNatClampNeg + n.toNatClampNeg ≤ n1) (h5 : dp.toNatClampNeg + n.toNatClampNeg ≤ n2) (hfr : 1 ≤ R.frames) (hlo : (st.map fun v => v.category).sum + (nativeFrameWords "java/lang/System" "arraycopy" 5 + 11) ≤ R.locals)
    (he3 : ent g x2 m2 k2 = .inl (g.2.1 0, n2, .inl (va_cpy f h sp.toNatClampNeg dp.toNatClampNeg n.toNatClampNeg))) (ho : ∀ q, q ≠ k2 → ent g x2 m2 q = ent g x mm q) (hd : decode cc pc = .ok (.invokestatic idx, 3)) (n0 : Nat) (hn : pc + 3 = n0) (kk : Wj p l e R s m args below meth c Q nL g sz x2 m2 n0 lv st) : Wj p l e R s m args below meth c Q nL g sz x mm pc lv (.int n :: .int dp :: .ref (ad g k2) :: .int sp :: .ref (ad g k1) :: st) := fun H locs ls hW hS hl => by
  subst hn
  refine va_copyi C.1.1 C.1.2.1 (C.1.2.2.1.trans hl.1.symm) C.1.2.2.2.1 (C.1.2.2.2.2 _ hlink) (C.1.2.2.2.2 _ hnat) (C.1.2.2.2.2 _ hstt) (C.1.2.2.2.2 _ hini) C.2.1.1 hW (C.2.D _) hS k1 k2 0 0 (by rw [wl_get hk1, he1]) (by rw [wl_get hk2, he2]) rfl rfl rfl h1 h2 h3 h4 h5 (fun _ _ => rfl) hfr hlo hd (fun H1 locs1 hP1 hD1 hS1 => ?_)
  rw [wl_set he3 ho] at hP1
  exact kk H1 locs1 ls hP1 hS1 hl
theorem j3_acopy {k1 k2 : Nat} (hk1 : isSt k1 = true) (hk2 : isSt k2 = true) {x2 : St} (C : Cx p m c cc nL s args own g sz) {idx : Nat} (hlink : Cond.methodLink own idx arraycopyName ∈ ALLW) (hnat : Cond.native arraycopyName ∈ ALLW) (hstt : Cond.static arraycopyName ∈ ALLW) (hini : Cond.initialized "java/lang/System" ∈ ALLW) {sp dp n : Int32} (hv : acp x (k1 + 1) (k2 + 1) 40 40 sp dp n = some x2) (hfr : 1 ≤ R.frames) (hlo : (st.map fun v => v.category).sum + (nativeFrameWords "java/lang/System" "arraycopy" 5 + 11) ≤ R.locals) (hd : decode cc pc = .ok (.invokestatic idx, 3)) (n0 : Nat) (hn : pc + 3 = n0) (kk : Wj p l e R s m args below meth c Q nL g sz x2 mm n0 lv st) : Wj p l e R s m args below meth c Q nL g sz x mm pc lv (.int n :: .int dp :: .ref (ad g (k2 + 1)) :: .int sp :: .ref (ad g (k1 + 1)) :: st) := by
  obtain ⟨h1, h2, h3, h4, h5, h6⟩ := acp_ok hv
  subst h6
  exact j_acopy C (k1 + 1) (k2 + 1) (ent_sta (g := g) (x := x) (mm := mm) hk1).1 (ent_sta (g := g) (x := x) (mm := mm) hk2).1 (ent_sta hk1).2 (ent_sta hk2).2 hlink hnat hstt hini h1 h2 h3 h4 h5 hfr hlo (by rw [(ent_sta hk2).2, setr_same]) (fun q hq => ent_x (setr_other _ _ hq)) hd n0 hn kk
theorem j_mmax (C : Cx p m c cc nL s args own g sz) {idx : Nat} (hlink : Cond.methodLink own idx yJ9_max_7cf53 ∈ ALLW) {a b : Int32} (hd : decode cc pc = .ok (.invokestatic idx, 3)) (hfr : 1 ≤ R.frames) (hlo : (st.map fun v => v.category).sum + 13 ≤ R.locals) (n : Nat) (hn : pc + 3 = n) (kk : Wj p l e R s m args below meth c Q nL g sz x mm n lv (.int (mxI a b) :: st)) : Wj p l e R s m args below meth c Q nL g sz x mm pc lv (.int b :: .int a :: st) := fun H locs ls hW hS hl => by
  subst hn
  exact va_mmax C.1.1 C.1.2.1 (C.1.2.2.1.trans hl.1.symm) C.1.2.2.2.1 (C.1.2.2.2.2 _ hlink) (C.1.2.2.2.2 _ qs_J9_max_7cf53) (C.1.2.2.2.2 _ qn_J9) (C.1.2.2.2.2 _ qc_J9_max_7cf53) hfr hlo (Nat.zero_le _) (Nat.zero_le _) hd (kk H locs ls hW hS hl)
theorem j_mmin (C : Cx p m c cc nL s args own g sz) {idx : Nat} (hlink : Cond.methodLink own idx yJ9_min_7cf53 ∈ ALLW) {a b : Int32} (hd : decode cc pc = .ok (.invokestatic idx, 3)) (hfr : 1 ≤ R.frames) (hlo : (st.map fun v => v.category).sum + 13 ≤ R.locals) (n : Nat) (hn : pc + 3 = n) (kk : Wj p l e R s m args below meth c Q nL g sz x mm n lv (.int (mnI a b) :: st)) : Wj p l e R s m args below meth c Q nL g sz x mm pc lv (.int b :: .int a :: st) := fun H locs ls hW hS hl => by
  subst hn
  exact va_mmin C.1.1 C.1.2.1 (C.1.2.2.1.trans hl.1.symm) C.1.2.2.2.1 (C.1.2.2.2.2 _ hlink) (C.1.2.2.2.2 _ qs_J9_min_7cf53) (C.1.2.2.2.2 _ qn_J9) (C.1.2.2.2.2 _ qc_J9_min_7cf53) hfr hlo (Nat.zero_le _) (Nat.zero_le _) hd (kk H locs ls hW hS hl)
end AR
/-! constants, heads, switches, looks -/
theorem c_bipush_m99 : (Int8.ofInt (-99)).toInt32 = (-99) := by decide +kernel
theorem c_bipush_6 : (Int8.ofInt 6).toInt32 = 6 := by decide +kernel
theorem c_bipush_7 : (Int8.ofInt 7).toInt32 = 7 := by decide +kernel
theorem c_bipush_8 : (Int8.ofInt 8).toInt32 = 8 := by decide +kernel
theorem c_bipush_9 : (Int8.ofInt 9).toInt32 = 9 := by decide +kernel
theorem c_bipush_10 : (Int8.ofInt 10).toInt32 = 10 := by decide +kernel
theorem c_bipush_11 : (Int8.ofInt 11).toInt32 = 11 := by decide +kernel
theorem c_bipush_12 : (Int8.ofInt 12).toInt32 = 12 := by decide +kernel
theorem c_bipush_16 : (Int8.ofInt 16).toInt32 = 16 := by decide +kernel
theorem c_bipush_17 : (Int8.ofInt 17).toInt32 = 17 := by decide +kernel
theorem c_bipush_20 : (Int8.ofInt 20).toInt32 = 20 := by decide +kernel
theorem c_bipush_24 : (Int8.ofInt 24).toInt32 = 24 := by decide +kernel
theorem c_bipush_25 : (Int8.ofInt 25).toInt32 = 25 := by decide +kernel
theorem c_bipush_32 : (Int8.ofInt 32).toInt32 = 32 := by decide +kernel
theorem c_bipush_40 : (Int8.ofInt 40).toInt32 = 40 := by decide +kernel
theorem c_bipush_41 : (Int8.ofInt 41).toInt32 = 41 := by decide +kernel
theorem c_bipush_42 : (Int8.ofInt 42).toInt32 = 42 := by decide +kernel
theorem c_bipush_48 : (Int8.ofInt 48).toInt32 = 48 := by decide +kernel
theorem c_bipush_49 : (Int8.ofInt 49).toInt32 = 49 := by decide +kernel
theorem c_bipush_50 : (Int8.ofInt 50).toInt32 = 50 := by decide +kernel
theorem c_bipush_57 : (Int8.ofInt 57).toInt32 = 57 := by decide +kernel
theorem c_bipush_59 : (Int8.ofInt 59).toInt32 = 59 := by decide +kernel
theorem c_bipush_60 : (Int8.ofInt 60).toInt32 = 60 := by decide +kernel
theorem c_bipush_63 : (Int8.ofInt 63).toInt32 = 63 := by decide +kernel
theorem c_bipush_65 : (Int8.ofInt 65).toInt32 = 65 := by decide +kernel
theorem c_bipush_97 : (Int8.ofInt 97).toInt32 = 97 := by decide +kernel
theorem c_bipush_100 : (Int8.ofInt 100).toInt32 = 100 := by decide +kernel
theorem c_bipush_101 : (Int8.ofInt 101).toInt32 = 101 := by decide +kernel
theorem c_bipush_102 : (Int8.ofInt 102).toInt32 = 102 := by decide +kernel
theorem c_bipush_107 : (Int8.ofInt 107).toInt32 = 107 := by decide +kernel
theorem c_bipush_120 : (Int8.ofInt 120).toInt32 = 120 := by decide +kernel
theorem c_bipush_122 : (Int8.ofInt 122).toInt32 = 122 := by decide +kernel
theorem c_iconst_m1 : Int32.ofInt (-1) = (-1) := by decide +kernel
theorem c_iconst_0 : Int32.ofInt 0 = 0 := by decide +kernel
theorem c_iconst_1 : Int32.ofInt 1 = 1 := by decide +kernel
theorem c_iconst_2 : Int32.ofInt 2 = 2 := by decide +kernel
theorem c_iconst_3 : Int32.ofInt 3 = 3 := by decide +kernel
theorem c_iconst_4 : Int32.ofInt 4 = 4 := by decide +kernel
theorem c_iconst_5 : Int32.ofInt 5 = 5 := by decide +kernel
theorem c_oi_m1 : Int32.ofInt (-1) = (-1) := by decide +kernel
theorem c_oi_1 : Int32.ofInt 1 = 1 := by decide +kernel
theorem c_oi_6 : Int32.ofInt 6 = 6 := by decide +kernel
theorem c_sipush_255 : (Int16.ofInt 255).toInt32 = 255 := by decide +kernel
theorem c_sipush_275 : (Int16.ofInt 275).toInt32 = 275 := by decide +kernel
theorem c_sipush_343 : (Int16.ofInt 343).toInt32 = 343 := by decide +kernel
theorem c_sipush_999 : (Int16.ofInt 999).toInt32 = 999 := by decide +kernel
theorem c_sipush_9900 : (Int16.ofInt 9900).toInt32 = 9900 := by decide +kernel
theorem c_sipush_9930 : (Int16.ofInt 9930).toInt32 = 9930 := by decide +kernel
theorem c_sipush_9939 : (Int16.ofInt 9939).toInt32 = 9939 := by decide +kernel
theorem c_sipush_9999 : (Int16.ofInt 9999).toInt32 = 9999 := by decide +kernel
theorem c_sipush_10000 : (Int16.ofInt 10000).toInt32 = 10000 := by decide +kernel
theorem c_sipush_12345 : (Int16.ofInt 12345).toInt32 = 12345 := by decide +kernel
theorem hd_J0_charAt_5068e : HdJ yJ0_charAt_5068e RJ0 1 := ⟨rfl, by decide +kernel, by decide +kernel, by decide +kernel⟩
theorem hd_J0_length_8abf5 : HdJ yJ0_length_8abf5 RJ0 0 := ⟨rfl, by decide +kernel, by decide +kernel, by decide +kernel⟩
theorem hd_J6_bitCount_0f7a4 : HdJ yJ6_bitCount_0f7a4 RJ6 1 := ⟨rfl, by decide +kernel, by decide +kernel, by decide +kernel⟩
theorem hd_X0_hasFrom : HdJ yX0_hasFrom RX0 2 := ⟨rfl, by decide +kernel, by decide +kernel, by decide +kernel⟩
theorem hd_X0_put : HdJ yX0_put RX0 2 := ⟨rfl, by decide +kernel, by decide +kernel, by decide +kernel⟩
theorem hd_X0_renew : HdJ yX0_renew RX0 2 := ⟨rfl, by decide +kernel, by decide +kernel, by decide +kernel⟩
theorem hd_X1_advance : HdJ yX1_advance RX1 1 := ⟨rfl, by decide +kernel, by decide +kernel, by decide +kernel⟩
theorem hd_X1_become : HdJ yX1_become RX1 1 := ⟨rfl, by decide +kernel, by decide +kernel, by decide +kernel⟩
theorem hd_X1_bitsAt : HdJ yX1_bitsAt RX1 1 := ⟨rfl, by decide +kernel, by decide +kernel, by decide +kernel⟩
theorem hd_X1_bitsOnShelf : HdJ yX1_bitsOnShelf RX1 0 := ⟨rfl, by decide +kernel, by decide +kernel, by decide +kernel⟩
theorem hd_X1_depthOf : HdJ yX1_depthOf RX1 1 := ⟨rfl, by decide +kernel, by decide +kernel, by decide +kernel⟩
theorem hd_X1_draw : HdJ yX1_draw RX1 0 := ⟨rfl, by decide +kernel, by decide +kernel, by decide +kernel⟩
theorem hd_X1_gain : HdJ yX1_gain RX1 0 := ⟨rfl, by decide +kernel, by decide +kernel, by decide +kernel⟩
theorem hd_X1_goOver : HdJ yX1_goOver RX1 2 := ⟨rfl, by decide +kernel, by decide +kernel, by decide +kernel⟩
theorem hd_X1_goneOver : HdJ yX1_goneOver RX1 0 := ⟨rfl, by decide +kernel, by decide +kernel, by decide +kernel⟩
theorem hd_X1_hasRoom : HdJ yX1_hasRoom RX1 1 := ⟨rfl, by decide +kernel, by decide +kernel, by decide +kernel⟩
theorem hd_X1_highest : HdJ yX1_highest RX1 0 := ⟨rfl, by decide +kernel, by decide +kernel, by decide +kernel⟩
theorem hd_X1_isOnShelf : HdJ yX1_isOnShelf RX1 1 := ⟨rfl, by decide +kernel, by decide +kernel, by decide +kernel⟩
theorem hd_X1_leans : HdJ yX1_leans RX1 1 := ⟨rfl, by decide +kernel, by decide +kernel, by decide +kernel⟩
theorem hd_X1_leastInHand : HdJ yX1_leastInHand RX1 0 := ⟨rfl, by decide +kernel, by decide +kernel, by decide +kernel⟩
theorem hd_X1_manySpotsHeld : HdJ yX1_manySpotsHeld RX1 0 := ⟨rfl, by decide +kernel, by decide +kernel, by decide +kernel⟩
theorem hd_X1_manyStacks : HdJ yX1_manyStacks RX1 0 := ⟨rfl, by decide +kernel, by decide +kernel, by decide +kernel⟩
theorem hd_X1_mint : HdJ yX1_mint RX1 1 := ⟨rfl, by decide +kernel, by decide +kernel, by decide +kernel⟩
theorem hd_X1_passBeat : HdJ yX1_passBeat RX1 0 := ⟨rfl, by decide +kernel, by decide +kernel, by decide +kernel⟩
theorem hd_X1_pull : HdJ yX1_pull RX1 1 := ⟨rfl, by decide +kernel, by decide +kernel, by decide +kernel⟩
theorem hd_X1_pushAll : HdJ yX1_pushAll RX1 0 := ⟨rfl, by decide +kernel, by decide +kernel, by decide +kernel⟩
theorem hd_X1_pushMoves : HdJ yX1_pushMoves RX1 1 := ⟨rfl, by decide +kernel, by decide +kernel, by decide +kernel⟩
theorem hd_X1_pushRun : HdJ yX1_pushRun RX1 1 := ⟨rfl, by decide +kernel, by decide +kernel, by decide +kernel⟩
theorem hd_X1_put : HdJ yX1_put RX1 2 := ⟨rfl, by decide +kernel, by decide +kernel, by decide +kernel⟩
theorem hd_X1_release : HdJ yX1_release RX1 2 := ⟨rfl, by decide +kernel, by decide +kernel, by decide +kernel⟩
theorem hd_X1_runRows : HdJ yX1_runRows RX1 1 := ⟨rfl, by decide +kernel, by decide +kernel, by decide +kernel⟩
theorem hd_X1_runWeight : HdJ yX1_runWeight RX1 1 := ⟨rfl, by decide +kernel, by decide +kernel, by decide +kernel⟩
theorem hd_X1_shake : HdJ yX1_shake RX1 0 := ⟨rfl, by decide +kernel, by decide +kernel, by decide +kernel⟩
theorem hd_X1_slideAll : HdJ yX1_slideAll RX1 0 := ⟨rfl, by decide +kernel, by decide +kernel, by decide +kernel⟩
theorem hd_X1_slideTop : HdJ yX1_slideTop RX1 1 := ⟨rfl, by decide +kernel, by decide +kernel, by decide +kernel⟩
theorem hd_X1_toldPlace : HdJ yX1_toldPlace RX1 1 := ⟨rfl, by decide +kernel, by decide +kernel, by decide +kernel⟩
theorem hd_X1_topSlides : HdJ yX1_topSlides RX1 1 := ⟨rfl, by decide +kernel, by decide +kernel, by decide +kernel⟩
theorem hd_X1_worthAt : HdJ yX1_worthAt RX1 1 := ⟨rfl, by decide +kernel, by decide +kernel, by decide +kernel⟩
theorem hd_X1_worthOf : HdJ yX1_worthOf RX1 1 := ⟨rfl, by decide +kernel, by decide +kernel, by decide +kernel⟩
theorem hd_X2_append : HdJ yX2_append RX2 1 := ⟨rfl, by decide +kernel, by decide +kernel, by decide +kernel⟩
theorem hd_X2_isDigit : HdJ yX2_isDigit RX2 1 := ⟨rfl, by decide +kernel, by decide +kernel, by decide +kernel⟩
theorem hd_X2_isLetter : HdJ yX2_isLetter RX2 1 := ⟨rfl, by decide +kernel, by decide +kernel, by decide +kernel⟩
theorem hd_X2_isWord : HdJ yX2_isWord RX2 1 := ⟨rfl, by decide +kernel, by decide +kernel, by decide +kernel⟩
theorem hd_X2_next : HdJ yX2_next RX2 0 := ⟨rfl, by decide +kernel, by decide +kernel, by decide +kernel⟩
theorem hd_X2_readNumber : HdJ yX2_readNumber RX2 0 := ⟨rfl, by decide +kernel, by decide +kernel, by decide +kernel⟩
theorem hd_X2_readWord : HdJ yX2_readWord RX2 0 := ⟨rfl, by decide +kernel, by decide +kernel, by decide +kernel⟩
theorem hd_X2_rewind : HdJ yX2_rewind RX2 0 := ⟨rfl, by decide +kernel, by decide +kernel, by decide +kernel⟩
theorem hd_X3_canDrop : HdJ yX3_canDrop RX3 1 := ⟨rfl, by decide +kernel, by decide +kernel, by decide +kernel⟩
theorem hd_X3_cellOf : HdJ yX3_cellOf RX3 2 := ⟨rfl, by decide +kernel, by decide +kernel, by decide +kernel⟩
theorem hd_X3_columnOf : HdJ yX3_columnOf RX3 3 := ⟨rfl, by decide +kernel, by decide +kernel, by decide +kernel⟩
theorem hd_X3_found : HdJ yX3_found RX3 1 := ⟨rfl, by decide +kernel, by decide +kernel, by decide +kernel⟩
theorem hd_X3_gainBy : HdJ yX3_gainBy RX3 4 := ⟨rfl, by decide +kernel, by decide +kernel, by decide +kernel⟩
theorem hd_X3_gainOfThree : HdJ yX3_gainOfThree RX3 2 := ⟨rfl, by decide +kernel, by decide +kernel, by decide +kernel⟩
theorem hd_X3_isCell : HdJ yX3_isCell RX3 2 := ⟨rfl, by decide +kernel, by decide +kernel, by decide +kernel⟩
theorem hd_X3_isCoin : HdJ yX3_isCoin RX3 1 := ⟨rfl, by decide +kernel, by decide +kernel, by decide +kernel⟩
theorem hd_X3_isColumn : HdJ yX3_isColumn RX3 1 := ⟨rfl, by decide +kernel, by decide +kernel, by decide +kernel⟩
theorem hd_X3_isKind : HdJ yX3_isKind RX3 1 := ⟨rfl, by decide +kernel, by decide +kernel, by decide +kernel⟩
theorem hd_X3_isSearched : HdJ yX3_isSearched RX3 1 := ⟨rfl, by decide +kernel, by decide +kernel, by decide +kernel⟩
theorem hd_X3_isSetting : HdJ yX3_isSetting RX3 2 := ⟨rfl, by decide +kernel, by decide +kernel, by decide +kernel⟩
theorem hd_X3_isSheet : HdJ yX3_isSheet RX3 1 := ⟨rfl, by decide +kernel, by decide +kernel, by decide +kernel⟩
theorem hd_X3_isUnder : HdJ yX3_isUnder RX3 2 := ⟨rfl, by decide +kernel, by decide +kernel, by decide +kernel⟩
theorem hd_X3_isWidth : HdJ yX3_isWidth RX3 1 := ⟨rfl, by decide +kernel, by decide +kernel, by decide +kernel⟩
theorem hd_X3_kindWord : HdJ yX3_kindWord RX3 1 := ⟨rfl, by decide +kernel, by decide +kernel, by decide +kernel⟩
theorem hd_X3_passesEnd : HdJ yX3_passesEnd RX3 1 := ⟨rfl, by decide +kernel, by decide +kernel, by decide +kernel⟩
theorem hd_X3_readCoin : HdJ yX3_readCoin RX3 2 := ⟨rfl, by decide +kernel, by decide +kernel, by decide +kernel⟩
theorem hd_X3_readItem : HdJ yX3_readItem RX3 1 := ⟨rfl, by decide +kernel, by decide +kernel, by decide +kernel⟩
theorem hd_X3_readSetting : HdJ yX3_readSetting RX3 2 := ⟨rfl, by decide +kernel, by decide +kernel, by decide +kernel⟩
theorem hd_X3_readText : HdJ yX3_readText RX3 1 := ⟨rfl, by decide +kernel, by decide +kernel, by decide +kernel⟩
theorem hd_X3_settingWord : HdJ yX3_settingWord RX3 1 := ⟨rfl, by decide +kernel, by decide +kernel, by decide +kernel⟩
theorem hd_X3_soonestWay : HdJ yX3_soonestWay RX3 1 := ⟨rfl, by decide +kernel, by decide +kernel, by decide +kernel⟩
theorem hd_X3_walk : HdJ yX3_walk RX3 2 := ⟨rfl, by decide +kernel, by decide +kernel, by decide +kernel⟩
theorem hd_X3_within : HdJ yX3_within RX3 3 := ⟨rfl, by decide +kernel, by decide +kernel, by decide +kernel⟩
theorem hd_X4_above : HdJ yX4_above RX4 1 := ⟨rfl, by decide +kernel, by decide +kernel, by decide +kernel⟩
theorem hd_X4_beat : HdJ yX4_beat RX4 0 := ⟨rfl, by decide +kernel, by decide +kernel, by decide +kernel⟩
theorem hd_X4_beatsGo : HdJ yX4_beatsGo RX4 1 := ⟨rfl, by decide +kernel, by decide +kernel, by decide +kernel⟩
theorem hd_X4_become : HdJ yX4_become RX4 2 := ⟨rfl, by decide +kernel, by decide +kernel, by decide +kernel⟩
theorem hd_X4_bestWay : HdJ yX4_bestWay RX4 3 := ⟨rfl, by decide +kernel, by decide +kernel, by decide +kernel⟩
theorem hd_X4_bits : HdJ yX4_bits RX4 1 := ⟨rfl, by decide +kernel, by decide +kernel, by decide +kernel⟩
theorem hd_X4_byteAt : HdJ yX4_byteAt RX4 1 := ⟨rfl, by decide +kernel, by decide +kernel, by decide +kernel⟩
theorem hd_X4_cellOf : HdJ yX4_cellOf RX4 2 := ⟨rfl, by decide +kernel, by decide +kernel, by decide +kernel⟩
theorem hd_X4_coinAt : HdJ yX4_coinAt RX4 2 := ⟨rfl, by decide +kernel, by decide +kernel, by decide +kernel⟩
theorem hd_X4_columnOf : HdJ yX4_columnOf RX4 3 := ⟨rfl, by decide +kernel, by decide +kernel, by decide +kernel⟩
theorem hd_X4_comesOn : HdJ yX4_comesOn RX4 2 := ⟨rfl, by decide +kernel, by decide +kernel, by decide +kernel⟩
theorem hd_X4_copyRow : HdJ yX4_copyRow RX4 2 := ⟨rfl, by decide +kernel, by decide +kernel, by decide +kernel⟩
theorem hd_X4_cutTo : HdJ yX4_cutTo RX4 2 := ⟨rfl, by decide +kernel, by decide +kernel, by decide +kernel⟩
theorem hd_X4_drawn : HdJ yX4_drawn RX4 1 := ⟨rfl, by decide +kernel, by decide +kernel, by decide +kernel⟩
theorem hd_X4_dropped : HdJ yX4_dropped RX4 2 := ⟨rfl, by decide +kernel, by decide +kernel, by decide +kernel⟩
theorem hd_X4_dropsBy : HdJ yX4_dropsBy RX4 2 := ⟨rfl, by decide +kernel, by decide +kernel, by decide +kernel⟩
theorem hd_X4_findSoonest : HdJ yX4_findSoonest RX4 1 := ⟨rfl, by decide +kernel, by decide +kernel, by decide +kernel⟩
theorem hd_X4_finding : HdJ yX4_finding RX4 1 := ⟨rfl, by decide +kernel, by decide +kernel, by decide +kernel⟩
theorem hd_X4_gain : HdJ yX4_gain RX4 0 := ⟨rfl, by decide +kernel, by decide +kernel, by decide +kernel⟩
theorem hd_X4_gainBy : HdJ yX4_gainBy RX4 4 := ⟨rfl, by decide +kernel, by decide +kernel, by decide +kernel⟩
theorem hd_X4_goesOn : HdJ yX4_goesOn RX4 2 := ⟨rfl, by decide +kernel, by decide +kernel, by decide +kernel⟩
theorem hd_X4_goesOver : HdJ yX4_goesOver RX4 2 := ⟨rfl, by decide +kernel, by decide +kernel, by decide +kernel⟩
theorem hd_X4_highOf : HdJ yX4_highOf RX4 1 := ⟨rfl, by decide +kernel, by decide +kernel, by decide +kernel⟩
theorem hd_X4_highest : HdJ yX4_highest RX4 0 := ⟨rfl, by decide +kernel, by decide +kernel, by decide +kernel⟩
theorem hd_X4_isCell : HdJ yX4_isCell RX4 2 := ⟨rfl, by decide +kernel, by decide +kernel, by decide +kernel⟩
theorem hd_X4_isCoin : HdJ yX4_isCoin RX4 1 := ⟨rfl, by decide +kernel, by decide +kernel, by decide +kernel⟩
theorem hd_X4_isColumn : HdJ yX4_isColumn RX4 1 := ⟨rfl, by decide +kernel, by decide +kernel, by decide +kernel⟩
theorem hd_X4_isInHand : HdJ yX4_isInHand RX4 1 := ⟨rfl, by decide +kernel, by decide +kernel, by decide +kernel⟩
theorem hd_X4_isKind : HdJ yX4_isKind RX4 1 := ⟨rfl, by decide +kernel, by decide +kernel, by decide +kernel⟩
theorem hd_X4_isLeaning : HdJ yX4_isLeaning RX4 2 := ⟨rfl, by decide +kernel, by decide +kernel, by decide +kernel⟩
theorem hd_X4_isMoved : HdJ yX4_isMoved RX4 1 := ⟨rfl, by decide +kernel, by decide +kernel, by decide +kernel⟩
theorem hd_X4_isOnShelf : HdJ yX4_isOnShelf RX4 1 := ⟨rfl, by decide +kernel, by decide +kernel, by decide +kernel⟩
theorem hd_X4_isSheet : HdJ yX4_isSheet RX4 1 := ⟨rfl, by decide +kernel, by decide +kernel, by decide +kernel⟩
theorem hd_X4_isSo : HdJ yX4_isSo RX4 2 := ⟨rfl, by decide +kernel, by decide +kernel, by decide +kernel⟩
theorem hd_X4_isSpot : HdJ yX4_isSpot RX4 1 := ⟨rfl, by decide +kernel, by decide +kernel, by decide +kernel⟩
theorem hd_X4_isTooLate : HdJ yX4_isTooLate RX4 1 := ⟨rfl, by decide +kernel, by decide +kernel, by decide +kernel⟩
theorem hd_X4_isUnder : HdJ yX4_isUnder RX4 2 := ⟨rfl, by decide +kernel, by decide +kernel, by decide +kernel⟩
theorem hd_X4_isWord : HdJ yX4_isWord RX4 1 := ⟨rfl, by decide +kernel, by decide +kernel, by decide +kernel⟩
theorem hd_X4_item : HdJ yX4_item RX4 2 := ⟨rfl, by decide +kernel, by decide +kernel, by decide +kernel⟩
theorem hd_X4_jolt : HdJ yX4_jolt RX4 0 := ⟨rfl, by decide +kernel, by decide +kernel, by decide +kernel⟩
theorem hd_X4_kindOf : HdJ yX4_kindOf RX4 1 := ⟨rfl, by decide +kernel, by decide +kernel, by decide +kernel⟩
theorem hd_X4_leastInHand : HdJ yX4_leastInHand RX4 0 := ⟨rfl, by decide +kernel, by decide +kernel, by decide +kernel⟩
theorem hd_X4_must : HdJ yX4_must RX4 1 := ⟨rfl, by decide +kernel, by decide +kernel, by decide +kernel⟩
theorem hd_X4_next : HdJ yX4_next RX4 0 := ⟨rfl, by decide +kernel, by decide +kernel, by decide +kernel⟩
theorem hd_X4_number : HdJ yX4_number RX4 2 := ⟨rfl, by decide +kernel, by decide +kernel, by decide +kernel⟩
theorem hd_X4_putBack : HdJ yX4_putBack RX4 1 := ⟨rfl, by decide +kernel, by decide +kernel, by decide +kernel⟩
theorem hd_X4_readCell : HdJ yX4_readCell RX4 0 := ⟨rfl, by decide +kernel, by decide +kernel, by decide +kernel⟩
theorem hd_X4_readItem : HdJ yX4_readItem RX4 0 := ⟨rfl, by decide +kernel, by decide +kernel, by decide +kernel⟩
theorem hd_X4_refuses : HdJ yX4_refuses RX4 2 := ⟨rfl, by decide +kernel, by decide +kernel, by decide +kernel⟩
theorem hd_X4_refusesShelf : HdJ yX4_refusesShelf RX4 2 := ⟨rfl, by decide +kernel, by decide +kernel, by decide +kernel⟩
theorem hd_X4_refusesSoon : HdJ yX4_refusesSoon RX4 1 := ⟨rfl, by decide +kernel, by decide +kernel, by decide +kernel⟩
theorem hd_X4_refusesThree : HdJ yX4_refusesThree RX4 1 := ⟨rfl, by decide +kernel, by decide +kernel, by decide +kernel⟩
theorem hd_X4_refusesWays : HdJ yX4_refusesWays RX4 1 := ⟨rfl, by decide +kernel, by decide +kernel, by decide +kernel⟩
theorem hd_X4_runOf : HdJ yX4_runOf RX4 1 := ⟨rfl, by decide +kernel, by decide +kernel, by decide +kernel⟩
theorem hd_X4_setOf : HdJ yX4_setOf RX4 1 := ⟨rfl, by decide +kernel, by decide +kernel, by decide +kernel⟩
theorem hd_X4_shelf : HdJ yX4_shelf RX4 0 := ⟨rfl, by decide +kernel, by decide +kernel, by decide +kernel⟩
theorem hd_X4_slides : HdJ yX4_slides RX4 1 := ⟨rfl, by decide +kernel, by decide +kernel, by decide +kernel⟩
theorem hd_X4_slidesOff : HdJ yX4_slidesOff RX4 2 := ⟨rfl, by decide +kernel, by decide +kernel, by decide +kernel⟩
theorem hd_X4_struck : HdJ yX4_struck RX4 1 := ⟨rfl, by decide +kernel, by decide +kernel, by decide +kernel⟩
theorem hd_X4_taken : HdJ yX4_taken RX4 1 := ⟨rfl, by decide +kernel, by decide +kernel, by decide +kernel⟩
theorem hd_X4_topOf : HdJ yX4_topOf RX4 1 := ⟨rfl, by decide +kernel, by decide +kernel, by decide +kernel⟩
theorem hd_X4_ways : HdJ yX4_ways RX4 1 := ⟨rfl, by decide +kernel, by decide +kernel, by decide +kernel⟩
theorem hd_X4_weighs : HdJ yX4_weighs RX4 1 := ⟨rfl, by decide +kernel, by decide +kernel, by decide +kernel⟩
theorem hd_X4_weightOf : HdJ yX4_weightOf RX4 1 := ⟨rfl, by decide +kernel, by decide +kernel, by decide +kernel⟩
theorem hd_X4_which : HdJ yX4_which RX4 1 := ⟨rfl, by decide +kernel, by decide +kernel, by decide +kernel⟩
theorem hd_X4_within : HdJ yX4_within RX4 3 := ⟨rfl, by decide +kernel, by decide +kernel, by decide +kernel⟩
theorem hd_X4_wonIn : HdJ yX4_wonIn RX4 2 := ⟨rfl, by decide +kernel, by decide +kernel, by decide +kernel⟩
theorem hd_X4_worth : HdJ yX4_worth RX4 1 := ⟨rfl, by decide +kernel, by decide +kernel, by decide +kernel⟩
theorem hd_X4_worthOf : HdJ yX4_worthOf RX4 1 := ⟨rfl, by decide +kernel, by decide +kernel, by decide +kernel⟩
theorem hd_X3_coin : HdJ yX3_coin RX3 1 := ⟨rfl, by decide +kernel, by decide +kernel, by decide +kernel⟩
theorem hd_X3_of : HdJ yX3_of RX3 2 := ⟨rfl, by decide +kernel, by decide +kernel, by decide +kernel⟩
theorem hd_X3_change : HdJ yX3_change RX3 2 := ⟨rfl, by decide +kernel, by decide +kernel, by decide +kernel⟩
theorem hd_X3_lay : HdJ yX3_lay RX3 3 := ⟨rfl, by decide +kernel, by decide +kernel, by decide +kernel⟩
theorem hd_X3_lift : HdJ yX3_lift RX3 2 := ⟨rfl, by decide +kernel, by decide +kernel, by decide +kernel⟩
theorem hd_X3_height : HdJ yX3_height RX3 2 := ⟨rfl, by decide +kernel, by decide +kernel, by decide +kernel⟩
theorem hd_X3_seen : HdJ yX3_seen RX3 3 := ⟨rfl, by decide +kernel, by decide +kernel, by decide +kernel⟩
theorem hd_X3_set : HdJ yX3_set RX3 2 := ⟨rfl, by decide +kernel, by decide +kernel, by decide +kernel⟩
theorem hd_X3_drop : HdJ yX3_drop RX3 2 := ⟨rfl, by decide +kernel, by decide +kernel, by decide +kernel⟩
theorem hd_X3_beats : HdJ yX3_beats RX3 1 := ⟨rfl, by decide +kernel, by decide +kernel, by decide +kernel⟩
theorem hd_X3_now : HdJ yX3_now RX3 1 := ⟨rfl, by decide +kernel, by decide +kernel, by decide +kernel⟩
theorem hd_X3_run : HdJ yX3_run RX3 1 := ⟨rfl, by decide +kernel, by decide +kernel, by decide +kernel⟩
theorem hd_X3_weight : HdJ yX3_weight RX3 1 := ⟨rfl, by decide +kernel, by decide +kernel, by decide +kernel⟩
theorem hd_X3_moved : HdJ yX3_moved RX3 0 := ⟨rfl, by decide +kernel, by decide +kernel, by decide +kernel⟩
theorem hd_X3_leaning : HdJ yX3_leaning RX3 0 := ⟨rfl, by decide +kernel, by decide +kernel, by decide +kernel⟩
theorem hd_X3_ahead : HdJ yX3_ahead RX3 2 := ⟨rfl, by decide +kernel, by decide +kernel, by decide +kernel⟩
theorem hd_X3_falls : HdJ yX3_falls RX3 1 := ⟨rfl, by decide +kernel, by decide +kernel, by decide +kernel⟩
theorem hd_X3_rest : HdJ yX3_rest RX3 0 := ⟨rfl, by decide +kernel, by decide +kernel, by decide +kernel⟩
theorem hd_X3_brings : HdJ yX3_brings RX3 3 := ⟨rfl, by decide +kernel, by decide +kernel, by decide +kernel⟩
theorem hd_X3_best : HdJ yX3_best RX3 2 := ⟨rfl, by decide +kernel, by decide +kernel, by decide +kernel⟩
theorem hd_X3_wait : HdJ yX3_wait RX3 2 := ⟨rfl, by decide +kernel, by decide +kernel, by decide +kernel⟩
theorem hd_X3_three : HdJ yX3_three RX3 1 := ⟨rfl, by decide +kernel, by decide +kernel, by decide +kernel⟩
theorem hd_X3_threeBring : HdJ yX3_threeBring RX3 1 := ⟨rfl, by decide +kernel, by decide +kernel, by decide +kernel⟩
theorem hd_X3_soonest : HdJ yX3_soonest RX3 1 := ⟨rfl, by decide +kernel, by decide +kernel, by decide +kernel⟩
theorem hd_X3_firstFor : HdJ yX3_firstFor RX3 1 := ⟨rfl, by decide +kernel, by decide +kernel, by decide +kernel⟩
theorem hd_X3_ways : HdJ yX3_ways RX3 2 := ⟨rfl, by decide +kernel, by decide +kernel, by decide +kernel⟩
theorem hd_X3_total : HdJ yX3_total RX3 1 := ⟨rfl, by decide +kernel, by decide +kernel, by decide +kernel⟩
theorem hd_X3_luck : HdJ yX3_luck RX3 2 := ⟨rfl, by decide +kernel, by decide +kernel, by decide +kernel⟩
theorem hd_X3_play : HdJ yX3_play RX3 1 := ⟨rfl, by decide +kernel, by decide +kernel, by decide +kernel⟩
theorem hd_X3_jolt : HdJ yX3_jolt RX3 0 := ⟨rfl, by decide +kernel, by decide +kernel, by decide +kernel⟩
theorem hd_X3_jolted : HdJ yX3_jolted RX3 0 := ⟨rfl, by decide +kernel, by decide +kernel, by decide +kernel⟩
theorem hd_X3_stroke : HdJ yX3_stroke RX3 1 := ⟨rfl, by decide +kernel, by decide +kernel, by decide +kernel⟩
theorem hd_X3_force : HdJ yX3_force RX3 2 := ⟨rfl, by decide +kernel, by decide +kernel, by decide +kernel⟩
theorem hd_X3_kindFor : HdJ yX3_kindFor RX3 2 := ⟨rfl, by decide +kernel, by decide +kernel, by decide +kernel⟩
theorem hd_X3_seed : HdJ yX3_seed RX3 1 := ⟨rfl, by decide +kernel, by decide +kernel, by decide +kernel⟩
theorem hd_X3_feed : HdJ yX3_feed RX3 2 := ⟨rfl, by decide +kernel, by decide +kernel, by decide +kernel⟩
theorem hd_X3_wipe : HdJ yX3_wipe RX3 0 := ⟨rfl, by decide +kernel, by decide +kernel, by decide +kernel⟩
theorem hd_X3_text : HdJ yX3_text RX3 0 := ⟨rfl, by decide +kernel, by decide +kernel, by decide +kernel⟩
theorem hd_X3_hold : HdJ yX3_hold RX3 2 := ⟨rfl, by decide +kernel, by decide +kernel, by decide +kernel⟩
theorem hd_X3_as : HdJ yX3_as RX3 2 := ⟨rfl, by decide +kernel, by decide +kernel, by decide +kernel⟩
theorem hd_X3_sheet : HdJ yX3_sheet RX3 3 := ⟨rfl, by decide +kernel, by decide +kernel, by decide +kernel⟩
theorem hd_X3_write : HdJ yX3_write RX3 3 := ⟨rfl, by decide +kernel, by decide +kernel, by decide +kernel⟩
theorem hd_X3_copy : HdJ yX3_copy RX3 5 := ⟨rfl, by decide +kernel, by decide +kernel, by decide +kernel⟩
theorem hd_X3_load : HdJ yX3_load RX3 1 := ⟨rfl, by decide +kernel, by decide +kernel, by decide +kernel⟩
theorem hd_X3_judge : HdJ yX3_judge RX3 1 := ⟨rfl, by decide +kernel, by decide +kernel, by decide +kernel⟩
theorem hd_X3_image : HdJ yX3_image RX3 0 := ⟨rfl, by decide +kernel, by decide +kernel, by decide +kernel⟩
theorem hd_X3_undo : HdJ yX3_undo RX3 0 := ⟨rfl, by decide +kernel, by decide +kernel, by decide +kernel⟩
theorem hd_X3_tear : HdJ yX3_tear RX3 0 := ⟨rfl, by decide +kernel, by decide +kernel, by decide +kernel⟩
theorem hd_X3_count : HdJ yX3_count RX3 1 := ⟨rfl, by decide +kernel, by decide +kernel, by decide +kernel⟩
theorem hd_X3_status : HdJ yX3_status RX3 1 := ⟨rfl, by decide +kernel, by decide +kernel, by decide +kernel⟩
theorem hd_X4_coin : HdJ yX4_coin RX4 1 := ⟨rfl, by decide +kernel, by decide +kernel, by decide +kernel⟩
theorem hd_X4_of : HdJ yX4_of RX4 2 := ⟨rfl, by decide +kernel, by decide +kernel, by decide +kernel⟩
theorem hd_X4_change : HdJ yX4_change RX4 2 := ⟨rfl, by decide +kernel, by decide +kernel, by decide +kernel⟩
theorem hd_X4_lay : HdJ yX4_lay RX4 3 := ⟨rfl, by decide +kernel, by decide +kernel, by decide +kernel⟩
theorem hd_X4_lift : HdJ yX4_lift RX4 2 := ⟨rfl, by decide +kernel, by decide +kernel, by decide +kernel⟩
theorem hd_X4_height : HdJ yX4_height RX4 2 := ⟨rfl, by decide +kernel, by decide +kernel, by decide +kernel⟩
theorem hd_X4_seen : HdJ yX4_seen RX4 3 := ⟨rfl, by decide +kernel, by decide +kernel, by decide +kernel⟩
theorem hd_X4_set : HdJ yX4_set RX4 2 := ⟨rfl, by decide +kernel, by decide +kernel, by decide +kernel⟩
theorem hd_X4_drop : HdJ yX4_drop RX4 2 := ⟨rfl, by decide +kernel, by decide +kernel, by decide +kernel⟩
theorem hd_X4_beats : HdJ yX4_beats RX4 1 := ⟨rfl, by decide +kernel, by decide +kernel, by decide +kernel⟩
theorem hd_X4_now : HdJ yX4_now RX4 1 := ⟨rfl, by decide +kernel, by decide +kernel, by decide +kernel⟩
theorem hd_X4_run : HdJ yX4_run RX4 1 := ⟨rfl, by decide +kernel, by decide +kernel, by decide +kernel⟩
theorem hd_X4_weight : HdJ yX4_weight RX4 1 := ⟨rfl, by decide +kernel, by decide +kernel, by decide +kernel⟩
theorem hd_X4_moved : HdJ yX4_moved RX4 0 := ⟨rfl, by decide +kernel, by decide +kernel, by decide +kernel⟩
theorem hd_X4_leaning : HdJ yX4_leaning RX4 0 := ⟨rfl, by decide +kernel, by decide +kernel, by decide +kernel⟩
theorem hd_X4_ahead : HdJ yX4_ahead RX4 2 := ⟨rfl, by decide +kernel, by decide +kernel, by decide +kernel⟩
theorem hd_X4_falls : HdJ yX4_falls RX4 1 := ⟨rfl, by decide +kernel, by decide +kernel, by decide +kernel⟩
theorem hd_X4_rest : HdJ yX4_rest RX4 0 := ⟨rfl, by decide +kernel, by decide +kernel, by decide +kernel⟩
theorem hd_X4_brings : HdJ yX4_brings RX4 3 := ⟨rfl, by decide +kernel, by decide +kernel, by decide +kernel⟩
theorem hd_X4_best : HdJ yX4_best RX4 2 := ⟨rfl, by decide +kernel, by decide +kernel, by decide +kernel⟩
theorem hd_X4_wait : HdJ yX4_wait RX4 2 := ⟨rfl, by decide +kernel, by decide +kernel, by decide +kernel⟩
theorem hd_X4_three : HdJ yX4_three RX4 1 := ⟨rfl, by decide +kernel, by decide +kernel, by decide +kernel⟩
theorem hd_X4_threeBring : HdJ yX4_threeBring RX4 1 := ⟨rfl, by decide +kernel, by decide +kernel, by decide +kernel⟩
theorem hd_X4_soonest : HdJ yX4_soonest RX4 1 := ⟨rfl, by decide +kernel, by decide +kernel, by decide +kernel⟩
theorem hd_X4_firstFor : HdJ yX4_firstFor RX4 1 := ⟨rfl, by decide +kernel, by decide +kernel, by decide +kernel⟩
theorem hd_X4_ways_ : HdJ yX4_ways_ RX4 2 := ⟨rfl, by decide +kernel, by decide +kernel, by decide +kernel⟩
theorem hd_X4_total : HdJ yX4_total RX4 1 := ⟨rfl, by decide +kernel, by decide +kernel, by decide +kernel⟩
theorem hd_X4_luck : HdJ yX4_luck RX4 2 := ⟨rfl, by decide +kernel, by decide +kernel, by decide +kernel⟩
theorem hd_X4_play : HdJ yX4_play RX4 1 := ⟨rfl, by decide +kernel, by decide +kernel, by decide +kernel⟩
theorem hd_X4_jolted : HdJ yX4_jolted RX4 0 := ⟨rfl, by decide +kernel, by decide +kernel, by decide +kernel⟩
theorem hd_X4_stroke : HdJ yX4_stroke RX4 1 := ⟨rfl, by decide +kernel, by decide +kernel, by decide +kernel⟩
theorem hd_X4_force : HdJ yX4_force RX4 2 := ⟨rfl, by decide +kernel, by decide +kernel, by decide +kernel⟩
theorem hd_X4_kindFor : HdJ yX4_kindFor RX4 2 := ⟨rfl, by decide +kernel, by decide +kernel, by decide +kernel⟩
theorem hd_X4_seed : HdJ yX4_seed RX4 1 := ⟨rfl, by decide +kernel, by decide +kernel, by decide +kernel⟩
theorem hd_X4_feed : HdJ yX4_feed RX4 2 := ⟨rfl, by decide +kernel, by decide +kernel, by decide +kernel⟩
theorem hd_X4_wipe : HdJ yX4_wipe RX4 0 := ⟨rfl, by decide +kernel, by decide +kernel, by decide +kernel⟩
theorem hd_X4_text : HdJ yX4_text RX4 0 := ⟨rfl, by decide +kernel, by decide +kernel, by decide +kernel⟩
theorem hd_X4_hold : HdJ yX4_hold RX4 2 := ⟨rfl, by decide +kernel, by decide +kernel, by decide +kernel⟩
theorem hd_X4_as : HdJ yX4_as RX4 2 := ⟨rfl, by decide +kernel, by decide +kernel, by decide +kernel⟩
theorem hd_X4_sheet : HdJ yX4_sheet RX4 3 := ⟨rfl, by decide +kernel, by decide +kernel, by decide +kernel⟩
theorem hd_X4_write : HdJ yX4_write RX4 3 := ⟨rfl, by decide +kernel, by decide +kernel, by decide +kernel⟩
theorem hd_X4_copy : HdJ yX4_copy RX4 5 := ⟨rfl, by decide +kernel, by decide +kernel, by decide +kernel⟩
theorem hd_X4_load : HdJ yX4_load RX4 1 := ⟨rfl, by decide +kernel, by decide +kernel, by decide +kernel⟩
theorem hd_X4_judge : HdJ yX4_judge RX4 1 := ⟨rfl, by decide +kernel, by decide +kernel, by decide +kernel⟩
theorem hd_X4_image : HdJ yX4_image RX4 0 := ⟨rfl, by decide +kernel, by decide +kernel, by decide +kernel⟩
theorem hd_X4_undo : HdJ yX4_undo RX4 0 := ⟨rfl, by decide +kernel, by decide +kernel, by decide +kernel⟩
theorem hd_X4_tear : HdJ yX4_tear RX4 0 := ⟨rfl, by decide +kernel, by decide +kernel, by decide +kernel⟩
theorem hd_X4_count : HdJ yX4_count RX4 1 := ⟨rfl, by decide +kernel, by decide +kernel, by decide +kernel⟩
theorem hd_X4_status : HdJ yX4_status RX4 1 := ⟨rfl, by decide +kernel, by decide +kernel, by decide +kernel⟩
end
section
def X1_mint (a1 : Int32) (S : St) : Option (Int32 × St) := (wr S 1 24 (S 0 6) a1).bind fun S1 => (wr S1 2 24 (S 0 6) 100).bind fun S2 => (some (ups S2 0 6 ((S2 0 6) + 1))).bind fun S3 => some ((S 0 6), S3)
def X1_hasRoom (a1 : Int32) (S : St) : Option Int32 := (rd S 3 42 a1).bind fun v1 => if 4 ≤ v1 then (some 0) else (some 1)
def X1_put (a1 : Int32) (a2 : Int32) (S : St) : Option St := (rd S 3 42 a2).bind fun v1 => if 4 ≤ v1 then (some S) else ((rd S 3 42 a2).bind fun v3 => (wr S 4 168 ((a2 * 4) + v3) a1).bind fun S4 => (rd S4 3 42 a2).bind fun v5 => (wr S4 3 42 a2 (v5 + 1)).bind fun S6 => (wr S6 2 24 a1 a2).bind fun S7 => some S7)
def X1_pull (a1 : Int32) (S : St) : Option (Int32 × St) := (rd S 3 42 a1).bind fun v1 => if v1 = 0 then (some ((-1), S)) else ((rd S 3 42 a1).bind fun v3 => (wr S 3 42 a1 (v3 - 1)).bind fun S4 => (rd S4 3 42 a1).bind fun v5 => (rd S4 4 168 ((a1 * 4) + v5)).bind fun v6 => (wr S4 2 24 v6 100).bind fun S7 => some (v6, S7))
def X1_isOnShelf (a1 : Int32) (S : St) : Option Int32 := (rd S 2 24 a1).bind fun v1 => if 42 ≤ v1 then (some 0) else (some 1)
def X1_toldPlace (a1 : Int32) (S : St) : Option Int32 := (rd S 2 24 a1).bind fun v1 => (X1_isOnShelf a1 S).bind fun r2 => if r2 = 0 then (some v1) else (some ((10 * (v1 / 6)) + (irm v1 6)))
def X1_depthOf_L21 : Nat → Int32 → Int32 → Int32 → St → Option Int32
  | 0, _, _, _, _ => none
  | n + 1, b1, b2, b3, S => if 3 ≤ b3 then (some b3) else ((rd S 4 168 (b2 + b3)).bind fun v5 => if v5 = b1 then (some b3) else (X1_depthOf_L21 n b1 b2 (b3 + 1) S))
def X1_depthOf (a1 : Int32) (S : St) : Option Int32 := (X1_isOnShelf a1 S).bind fun r1 => if r1 = 0 then (some 0) else ((rd S 2 24 a1).bind fun v3 => X1_depthOf_L21 FU a1 (v3 * 4) 0 S)
def X1_bitsAt_L4 : Nat → Int32 → Int32 → Int32 → St → Option Int32
  | 0, _, _, _, _ => none
  | n + 1, b1, b2, b3, S => if (S 0 6) ≤ b3 then (some b2) else ((rd S 2 24 b3).bind fun v2 => if v2 = b1 then (X1_bitsAt_L4 n b1 (b2 ||| (shl32 1 b3)) (b3 + 1) S) else (X1_bitsAt_L4 n b1 b2 (b3 + 1) S))
def X1_bitsAt (a1 : Int32) (S : St) : Option Int32 := X1_bitsAt_L4 FU a1 0 0 S
def X1_bitsOnShelf_L4 : Nat → Int32 → Int32 → St → Option Int32
  | 0, _, _, _ => none
  | n + 1, b1, b2, S => if (S 0 6) ≤ b2 then (some b1) else ((X1_isOnShelf b2 S).bind fun r2 => if r2 = 0 then (X1_bitsOnShelf_L4 n b1 (b2 + 1) S) else (X1_bitsOnShelf_L4 n (b1 ||| (shl32 1 b2)) (b2 + 1) S))
def X1_bitsOnShelf (S : St) : Option Int32 := X1_bitsOnShelf_L4 FU 0 0 S
def X1_worthOf_L4 : Nat → Int32 → Int32 → Int32 → St → Option Int32
  | 0, _, _, _, _ => none
  | n + 1, b1, b2, b3, S => if (S 0 6) ≤ b3 then (some b2) else (if ((ush32 b1 b3) &&& 1) = 1 then ((rd S 1 24 b3).bind fun v3 => (rdc 7 (stC 1) v3).bind fun v4 => X1_worthOf_L4 n b1 (b2 + v4) (b3 + 1) S) else (X1_worthOf_L4 n b1 b2 (b3 + 1) S))
def X1_worthOf (a1 : Int32) (S : St) : Option Int32 := X1_worthOf_L4 FU a1 0 0 S
def X1_worthAt (a1 : Int32) (S : St) : Option Int32 := (X1_bitsAt a1 S).bind fun r1 => (X1_worthOf r1 S).bind fun r2 => some r2
def J6_bitCount_0f7a4 (a0 : Int32) : Int32 := ((((((((a0 - ((ush32 a0 1) &&& 1431655765)) &&& 858993459) + ((ush32 (a0 - ((ush32 a0 1) &&& 1431655765)) 2) &&& 858993459)) + (ush32 (((a0 - ((ush32 a0 1) &&& 1431655765)) &&& 858993459) + ((ush32 (a0 - ((ush32 a0 1) &&& 1431655765)) 2) &&& 858993459)) 4)) &&& 252645135) + (ush32 (((((a0 - ((ush32 a0 1) &&& 1431655765)) &&& 858993459) + ((ush32 (a0 - ((ush32 a0 1) &&& 1431655765)) 2) &&& 858993459)) + (ush32 (((a0 - ((ush32 a0 1) &&& 1431655765)) &&& 858993459) + ((ush32 (a0 - ((ush32 a0 1) &&& 1431655765)) 2) &&& 858993459)) 4)) &&& 252645135) 8)) + (ush32 ((((((a0 - ((ush32 a0 1) &&& 1431655765)) &&& 858993459) + ((ush32 (a0 - ((ush32 a0 1) &&& 1431655765)) 2) &&& 858993459)) + (ush32 (((a0 - ((ush32 a0 1) &&& 1431655765)) &&& 858993459) + ((ush32 (a0 - ((ush32 a0 1) &&& 1431655765)) 2) &&& 858993459)) 4)) &&& 252645135) + (ush32 (((((a0 - ((ush32 a0 1) &&& 1431655765)) &&& 858993459) + ((ush32 (a0 - ((ush32 a0 1) &&& 1431655765)) 2) &&& 858993459)) + (ush32 (((a0 - ((ush32 a0 1) &&& 1431655765)) &&& 858993459) + ((ush32 (a0 - ((ush32 a0 1) &&& 1431655765)) 2) &&& 858993459)) 4)) &&& 252645135) 8)) 16)) &&& 63)
def X1_goneOver (S : St) : Option Int32 := (X1_bitsAt 101 S).bind fun r1 => (X1_bitsAt 102 S).bind fun r2 => some (J6_bitCount_0f7a4 (r1 ||| r2))
def X1_leastInHand_L2 : Nat → Int32 → St → Option Int32
  | 0, _, _ => none
  | n + 1, b1, S => if (S 0 6) ≤ b1 then (some (-1)) else ((rd S 2 24 b1).bind fun v2 => if v2 = 100 then (some b1) else (X1_leastInHand_L2 n (b1 + 1) S))
def X1_leastInHand (S : St) : Option Int32 := X1_leastInHand_L2 FU 0 S
def X1_gain (S : St) : Option Int32 := (X1_worthAt 101 S).bind fun r1 => some (r1 - (S 0 8))
def X1_manyStacks_L4 : Nat → Int32 → Int32 → St → Option Int32
  | 0, _, _, _ => none
  | n + 1, b1, b2, S => if 42 ≤ b2 then (some b1) else ((rd S 3 42 b2).bind fun v2 => if v2 ≤ 0 then (X1_manyStacks_L4 n b1 (b2 + 1) S) else (X1_manyStacks_L4 n (b1 + 1) (b2 + 1) S))
def X1_manyStacks (S : St) : Option Int32 := X1_manyStacks_L4 FU 0 0 S
def X1_highest_L4 : Nat → Int32 → Int32 → St → Option Int32
  | 0, _, _, _ => none
  | n + 1, b1, b2, S => if 42 ≤ b2 then (some b1) else ((rd S 3 42 b2).bind fun v2 => X1_highest_L4 n (mxI b1 v2) (b2 + 1) S)
def X1_highest (S : St) : Option Int32 := X1_highest_L4 FU 0 0 S
def X1_manySpotsHeld_L4 : Nat → Int32 → Int32 → St → Option Int32
  | 0, _, _, _ => none
  | n + 1, b1, b2, S => if 10 ≤ b2 then (some b1) else ((rd S 6 10 b2).bind fun v2 => if v2 < 0 then (X1_manySpotsHeld_L4 n b1 (b2 + 1) S) else (X1_manySpotsHeld_L4 n (b1 + 1) (b2 + 1) S))
def X1_manySpotsHeld (S : St) : Option Int32 := X1_manySpotsHeld_L4 FU 0 0 S
def X1_runRows_L2 : Nat → Int32 → Int32 → St → Option Int32
  | 0, _, _, _ => none
  | n + 1, b1, b2, S => if 6 ≤ b2 then (some b2) else ((rd S 3 42 ((b1 * 6) + b2)).bind fun v2 => if v2 ≤ 0 then (some b2) else (X1_runRows_L2 n b1 (b2 + 1) S))
def X1_runRows (a1 : Int32) (S : St) : Option Int32 := X1_runRows_L2 FU a1 0 S
def X1_runWeight_L34 (k4 : Int32 → Int32 → Int32 → St → Option Int32) : Nat → Int32 → Int32 → Int32 → Int32 → Int32 → St → Option Int32
  | 0, _, _, _, _, _, _ => none
  | n + 1, b1, b2, b3, b4, b5, S => (rd S 3 42 b4).bind fun v4 => if v4 ≤ b5 then (k4 b1 b2 (b3 + 1) S) else ((rd S 4 168 ((b4 * 4) + b5)).bind fun v6 => (rd S 1 24 v6).bind fun v7 => (rdc 7 (stC 2) v7).bind fun v8 => X1_runWeight_L34 k4 n b1 (b2 + v8) b3 b4 (b5 + 1) S)
def X1_runWeight_L4 : Nat → Int32 → Int32 → Int32 → St → Option Int32
  | 0, _, _, _, _ => none
  | n + 1, b1, b2, b3, S => if 6 ≤ b3 then (some b2) else ((rd S 3 42 ((b1 * 6) + b3)).bind fun v2 => if v2 = 0 then (some b2) else (X1_runWeight_L34 (X1_runWeight_L4 n) FU b1 b2 b3 ((b1 * 6) + b3) 0 S))
def X1_runWeight (a1 : Int32) (S : St) : Option Int32 := X1_runWeight_L4 FU a1 0 0 S
def X1_pushMoves (a1 : Int32) (S : St) : Option Int32 := (X1_runWeight a1 S).bind fun r1 => if r1 ≤ 0 then (some 0) else ((rd S 5 3 0).bind fun v3 => if v3 < r1 then (some 0) else (some 1))
def X1_topSlides (a1 : Int32) (S : St) : Option Int32 := (rd S 3 42 a1).bind fun v1 => if v1 ≤ 0 then (some 0) else ((rd S 4 168 (((a1 * 4) + v1) - 1)).bind fun v3 => (rd S 1 24 v3).bind fun v4 => (rdc 7 (stC 3) v4).bind fun v5 => if v5 = 1 then (some 1) else (some 0))
def X1_leans_L27 (b1 : Int32) (b2 : Int32) (t0 : Int32) (S : St) : Option Int32 := if b2 < (t0 + 3) then (some 0) else ((X1_topSlides b1 S).bind fun r5 => if r5 = 0 then (some 0) else (some 1))
def X1_leans (a1 : Int32) (S : St) : Option Int32 := (rd S 3 42 a1).bind fun v1 => if (irm a1 6) = 5 then (X1_leans_L27 a1 v1 0 S) else ((rd S 3 42 (a1 + 1)).bind fun v3 => X1_leans_L27 a1 v1 v3 S)
def X1_goOver_L28 (b1 : Int32) (t0 : Int32) (S : St) : Option St := if t0 = 0 then ((wr S 2 24 b1 101).bind fun S4 => some S4) else ((wr S 2 24 b1 102).bind fun S5 => some S5)
def X1_goOver_L23 (b1 : Int32) (S : St) : Option St := X1_goOver_L28 b1 1 S
def X1_goOver (a1 : Int32) (a2 : Int32) (S : St) : Option St := (rd S 5 3 2).bind fun v1 => if a2 < v1 then (X1_goOver_L23 a1 S) else ((rd S 5 3 2).bind fun v6 => if a2 < (7 - v6) then (X1_goOver_L28 a1 0 S) else (X1_goOver_L23 a1 S))
def X1_slideTop (a1 : Int32) (S : St) : Option St := (X1_pull a1 S).bind fun (r2, S3) => if 0 ≤ r2 then (if (irm a1 6) = 5 then ((X1_goOver r2 (a1 / 6) S3).bind fun S7 => some S7) else ((X1_put r2 (a1 + 1) S3).bind fun S6 => some S6)) else (some S3)
def X1_pushRun_L22 (k8 : Int32 → Int32 → St → Option St) : Nat → Int32 → Int32 → Int32 → Int32 → St → Option St
  | 0, _, _, _, _, _ => none
  | n + 1, b1, b2, b3, b4, S => (rd S 3 42 b3).bind fun v3 => if v3 ≤ b4 then ((wr S 3 42 b3 0).bind fun S5 => k8 b1 (b2 + (-1)) S5) else ((rd S 4 168 ((b3 * 4) + b4)).bind fun v6 => if b2 = 5 then ((X1_goOver v6 b1 S).bind fun S9 => X1_pushRun_L22 k8 n b1 b2 b3 (b4 + 1) S9) else ((X1_put v6 (b3 + 1) S).bind fun S8 => X1_pushRun_L22 k8 n b1 b2 b3 (b4 + 1) S8))
def X1_pushRun_L8 : Nat → Int32 → Int32 → St → Option St
  | 0, _, _, _ => none
  | n + 1, b1, b2, S => if b2 < 0 then (some S) else (X1_pushRun_L22 (X1_pushRun_L8 n) FU b1 b2 ((b1 * 6) + b2) 0 S)
def X1_pushRun (a1 : Int32) (S : St) : Option St := (X1_runRows a1 S).bind fun r1 => X1_pushRun_L8 FU a1 (r1 - 1) S
def X1_pushAll_L4 : Nat → Int32 → Int32 → St → Option (Int32 × St)
  | 0, _, _, _ => none
  | n + 1, b1, b2, S => if 7 ≤ b2 then ((bl b1).bind fun v2 => some (b1, S)) else ((X1_pushMoves b2 S).bind fun r3 => if r3 = 0 then (X1_pushAll_L4 n b1 (b2 + 1) S) else ((X1_pushRun b2 S).bind fun S5 => X1_pushAll_L4 n 1 (b2 + 1) S5))
def X1_pushAll (S : St) : Option (Int32 × St) := X1_pushAll_L4 FU 0 0 S
def X1_slideAll_L10 (k4 : Int32 → Int32 → St → Option (Int32 × St)) : Nat → Int32 → Int32 → Int32 → St → Option (Int32 × St)
  | 0, _, _, _, _ => none
  | n + 1, b1, b2, b3, S => if 42 ≤ b3 then (k4 b1 (b2 + (-1)) S) else ((X1_leans b3 S).bind fun r4 => if r4 = 0 then (X1_slideAll_L10 k4 n b1 b2 (b3 + 6) S) else ((X1_slideTop b3 S).bind fun S6 => X1_slideAll_L10 k4 n 1 b2 (b3 + 6) S6))
def X1_slideAll_L4 : Nat → Int32 → Int32 → St → Option (Int32 × St)
  | 0, _, _, _ => none
  | n + 1, b1, b2, S => if b2 < 0 then ((bl b1).bind fun v2 => some (b1, S)) else (X1_slideAll_L10 (X1_slideAll_L4 n) FU b1 b2 b2 S)
def X1_slideAll (S : St) : Option (Int32 × St) := X1_slideAll_L4 FU 0 5 S
def X1_passBeat_L32 (t0 : Int32) (S : St) : Option (Int32 × St) := (X1_slideAll S).bind fun (r4, S5) => (some (ups S5 0 7 ((S5 0 7) + 1))).bind fun S6 => if t0 = 0 then (if r4 = 0 then (some (0, S6)) else (some (1, S6))) else (some (1, S6))
def X1_passBeat_L31 (S : St) : Option (Int32 × St) := X1_passBeat_L32 0 S
def X1_passBeat (S : St) : Option (Int32 × St) := (rd S 5 3 1).bind fun v1 => if v1 ≤ 0 then (X1_passBeat_L31 S) else ((rmn (S 0 7) v1).bind fun v9 => if v9 = 0 then ((X1_pushAll S).bind fun (r12, S13) => if r12 = 0 then (X1_passBeat_L31 S13) else (X1_passBeat_L32 1 S13)) else (X1_passBeat_L31 S))
def X1_advance_L4 : Nat → Int32 → Int32 → Int32 → St → Option St
  | 0, _, _, _, _ => none
  | n + 1, b1, b2, b3, S => if b1 ≤ b3 then (some S) else ((rd S 5 3 1).bind fun v2 => if b2 < v2 then ((X1_passBeat S).bind fun (r5, S6) => if r5 = 0 then (X1_advance_L4 n b1 (b2 + 1) (b3 + 1) S6) else (X1_advance_L4 n b1 0 (b3 + 1) S6)) else ((some (ups S 0 7 ((S 0 7) + (b1 - b3)))).bind fun S8 => some S8))
def X1_advance (a1 : Int32) (S : St) : Option St := X1_advance_L4 FU a1 0 0 S
def X1_release_L62 (S : St) : Option St := (some (ups S 0 8 ((S 0 8) + 1))).bind fun S5 => (X1_passBeat S5).bind fun (r7, S8) => some S8
def X1_release_L39 (b1 : Int32) (b3 : Int32) (S : St) : Option St := if 42 ≤ b3 then ((wr S 2 24 b1 102).bind fun S4 => X1_release_L62 S4) else ((X1_put b1 b3 S).bind fun S9 => X1_release_L62 S9)
def X1_release_L17 : Nat → Int32 → Int32 → St → Option St
  | 0, _, _, _ => none
  | n + 1, b1, b3, S => if 42 ≤ b3 then (X1_release_L39 b1 b3 S) else ((rd S 3 42 b3).bind fun v10 => if v10 < 4 then (X1_release_L39 b1 b3 S) else (X1_release_L17 n b1 (b3 + 6) S))
def X1_release (a1 : Int32) (a2 : Int32) (S : St) : Option St := if 0 ≤ a1 then (X1_release_L17 FU a1 ((a2 * 6) + (irm (S 0 7) 2)) S) else (some S)
def X1_shake_L36 (k4 : Int32 → Int32 → St → Option (Int32 × St)) (k10 : Int32 → Int32 → Int32 → St → Option (Int32 × St)) (b1 : Int32) (b2 : Int32) (b3 : Int32) (t0 : Int32) (S : St) : Option (Int32 × St) := if t0 = 0 then (k10 b1 b2 (b3 + 6) S) else ((rd S 3 42 b3).bind fun v5 => if v5 < 2 then (k10 b1 b2 (b3 + 6) S) else ((X1_topSlides b3 S).bind fun r7 => if r7 = 0 then (k10 b1 b2 (b3 + 6) S) else ((X1_slideTop b3 S).bind fun S9 => k10 (b1 + 1) b2 (b3 + 6) S9)))
def X1_shake_L31 (k4 : Int32 → Int32 → St → Option (Int32 × St)) (k10 : Int32 → Int32 → Int32 → St → Option (Int32 × St)) (b1 : Int32) (b2 : Int32) (b3 : Int32) (S : St) : Option (Int32 × St) := X1_shake_L36 k4 k10 b1 b2 b3 1 S
def X1_shake_L10 (k4 : Int32 → Int32 → St → Option (Int32 × St)) : Nat → Int32 → Int32 → Int32 → St → Option (Int32 × St)
  | 0, _, _, _, _ => none
  | n + 1, b1, b2, b3, S => if 42 ≤ b3 then (k4 b1 (b2 + (-1)) S) else (if b2 = 5 then (X1_shake_L31 k4 (X1_shake_L10 k4 n) b1 b2 b3 S) else ((X1_hasRoom (b3 + 1) S).bind fun r10 => if r10 = 0 then (X1_shake_L36 k4 (X1_shake_L10 k4 n) b1 b2 b3 0 S) else (X1_shake_L31 k4 (X1_shake_L10 k4 n) b1 b2 b3 S)))
def X1_shake_L4 : Nat → Int32 → Int32 → St → Option (Int32 × St)
  | 0, _, _, _ => none
  | n + 1, b1, b2, S => if b2 < 0 then (some (b1, S)) else (X1_shake_L10 (X1_shake_L4 n) FU b1 b2 b2 S)
def X1_shake (S : St) : Option (Int32 × St) := X1_shake_L4 FU 0 5 S
def X1_draw (S : St) : Option (Int32 × St) := (some (ups S 0 9 (((S 0 9) * 1103515245) + 12345))).bind fun S1 => some ((ush32 (S1 0 9) 8), S1)
end
section
def X0_renew_L12 : Nat → Int32 → St → Option St
  | 0, _, _ => none
  | n + 1, b3, S => if 40 ≤ b3 then (some S) else ((wr S 1 40 b3 0).bind fun S4 => X0_renew_L12 n (b3 + 1) S4)
def X0_renew (a1 : Int32) (a2 : Int32) (S : St) : Option St := (some (ups S 0 1 a1)).bind fun S1 => (some (ups S1 0 2 a2)).bind fun S2 => X0_renew_L12 FU 0 S2
def X0_put (a1 : Int32) (a2 : Int32) (S : St) : Option St := if (S 0 1) = 8 then ((wr S 1 40 a1 a2.toInt8.toInt32).bind fun S5 => some S5) else (if (S 0 1) = 16 then ((wr S 1 40 a1 a2.toInt16.toInt32).bind fun S4 => some S4) else ((wr S 1 40 a1 a2).bind fun S3 => some S3))
def X0_hasFrom (a1 : Int32) (a2 : Int32) (S : St) : Int32 := if a1 < 0 then (0) else (if ((S 0 2) - a2) < a1 then (0) else (1))
theorem b01_X0_hasFrom (a1 : Int32) (a2 : Int32) (S : St) : X0_hasFrom a1 a2 S = 0 ∨ X0_hasFrom a1 a2 S = 1 := by
  unfold X0_hasFrom
  repeat (first | exact Or.inl rfl | exact Or.inr rfl | split)
def X2_append (a1 : Int32) (S : St) : Option St := if 120 ≤ (S 0 1) then (some S) else ((wr S 1 120 (S 0 1) a1).bind fun S2 => (some (ups S2 0 1 ((S2 0 1) + 1))).bind fun S3 => some S3)
def X2_rewind (S : St) : Option St := (some (ups S 0 4 0)).bind fun S1 => some S1
def X2_isLetter (a0 : Int32) : Int32 := if a0 < 97 then (0) else (if 122 < a0 then (0) else (1))
theorem b01_X2_isLetter (a0 : Int32) : X2_isLetter a0 = 0 ∨ X2_isLetter a0 = 1 := by
  unfold X2_isLetter
  repeat (first | exact Or.inl rfl | exact Or.inr rfl | split)
def X2_isDigit (a0 : Int32) : Int32 := if a0 < 48 then (0) else (if 57 < a0 then (0) else (1))
theorem b01_X2_isDigit (a0 : Int32) : X2_isDigit a0 = 0 ∨ X2_isDigit a0 = 1 := by
  unfold X2_isDigit
  repeat (first | exact Or.inl rfl | exact Or.inr rfl | split)
def X2_readWord_L5 : Nat → St → Option St
  | 0, _ => none
  | n + 1, S => if (S 0 1) ≤ (S 0 4) then (some S) else ((rd S 1 120 (S 0 4)).bind fun v3 => if (X2_isLetter v3) = 0 then (some S) else ((some (ups S 0 4 ((S 0 4) + 1))).bind fun S5 => X2_readWord_L5 n S5))
def X2_readWord (S : St) : Option St := (some (ups S 0 2 1)).bind fun S1 => X2_readWord_L5 FU S1
def X2_readNumber_L10 : Nat → St → Option St
  | 0, _ => none
  | n + 1, S => if (S 0 1) ≤ (S 0 4) then (some S) else ((rd S 1 120 (S 0 4)).bind fun v4 => if (X2_isDigit v4) = 0 then (some S) else ((rd S 1 120 (S 0 4)).bind fun v6 => (some (ups S 0 5 (mnI ((((S 0 5) * 10) + v6) - 48) 10000))).bind fun S7 => (some (ups S7 0 4 ((S7 0 4) + 1))).bind fun S8 => X2_readNumber_L10 n S8))
def X2_readNumber (S : St) : Option St := (some (ups S 0 2 2)).bind fun S1 => (some (ups S1 0 5 0)).bind fun S2 => X2_readNumber_L10 FU S2
def X2_next_L38 (S : St) : Option St := (some (ups S 0 3 (S 0 4))).bind fun S2 => if (S2 0 3) < (S2 0 1) then ((rd S2 1 120 (S2 0 3)).bind fun v4 => if (X2_isLetter v4) = 0 then ((rd S2 1 120 (S2 0 3)).bind fun v6 => if (X2_isDigit v6) = 0 then ((rd S2 1 120 (S2 0 3)).bind fun v8 => if v8 = 59 then ((some (ups S2 0 2 3)).bind fun S12 => (some (ups S12 0 4 ((S12 0 4) + 1))).bind fun S13 => some S13) else ((some (ups S2 0 2 4)).bind fun S10 => (some (ups S10 0 4 ((S10 0 4) + 1))).bind fun S11 => some S11)) else ((X2_readNumber S2).bind fun S14 => some S14)) else ((X2_readWord S2).bind fun S15 => some S15)) else ((some (ups S2 0 2 0)).bind fun S16 => some S16)
def X2_next_L0 : Nat → St → Option St
  | 0, _ => none
  | n + 1, S => if (S 0 1) ≤ (S 0 4) then (X2_next_L38 S) else ((rd S 1 120 (S 0 4)).bind fun v17 => if v17 = 32 then ((some (ups S 0 4 ((S 0 4) + 1))).bind fun S19 => X2_next_L0 n S19) else (X2_next_L38 S))
def X2_next (S : St) : Option St := X2_next_L0 FU S
def X2_isWord_L28 (w1 : Nat) : Nat → Int32 → St → Option Int32
  | 0, _, _ => none
  | n + 1, b2, S => if (J0_length w1) ≤ b2 then (some 1) else ((rd S 1 120 ((S 0 3) + b2)).bind fun v4 => (J0_charAt w1 b2).bind fun r5 => if v4 = r5 then (X2_isWord_L28 w1 n (b2 + 1) S) else (some 0))
def X2_isWord (w1 : Nat) (S : St) : Option Int32 := if (S 0 2) = 1 then (if ((S 0 4) - (S 0 3)) = (J0_length w1) then (X2_isWord_L28 w1 FU 0 S) else (some 0)) else (some 0)
def X3_within (a0 : Int32) (a1 : Int32) (a2 : Int32) : Int32 := if a0 < a1 then (0) else (if a2 < a0 then (0) else (1))
theorem b01_X3_within (a0 : Int32) (a1 : Int32) (a2 : Int32) : X3_within a0 a1 a2 = 0 ∨ X3_within a0 a1 a2 = 1 := by
  unfold X3_within
  repeat (first | exact Or.inl rfl | exact Or.inr rfl | split)
def X3_isKind (a0 : Int32) : Int32 := (X3_within a0 0 6)
theorem b01_X3_isKind (a0 : Int32) : X3_isKind a0 = 0 ∨ X3_isKind a0 = 1 := by
  unfold X3_isKind
  repeat (first | exact Or.inl rfl | exact Or.inr rfl | exact b01_X3_within .. | split)
def X3_found (a1 : Int32) (S : St) : Option (Int32 × St) := (rd S 26 7 a1).bind fun v1 => (wr S 26 7 a1 (v1 + 1)).bind fun S2 => some (((-1000001) - a1), S2)
def X3_coin (a1 : Int32) (S : St) : Option (Int32 × St) := if (X3_isKind a1) = 0 then ((X3_found 0 S).bind fun (r11, S12) => some (r11, S12)) else (if (S 1 6) < 24 then ((X1_mint a1 (blk S 1)).bind fun (r4, T5) => (some (put S 1 7 T5)).bind fun S6 => some (r4, S6)) else ((X3_found 1 S).bind fun (r8, S9) => some (r8, S9)))
def X3_isCoin (a1 : Int32) (S : St) : Int32 := (X3_within a1 0 ((S 1 6) - 1))
theorem b01_X3_isCoin (a1 : Int32) (S : St) : X3_isCoin a1 S = 0 ∨ X3_isCoin a1 S = 1 := by
  unfold X3_isCoin
  repeat (first | exact Or.inl rfl | exact Or.inr rfl | exact b01_X3_within .. | split)
def X3_of (a1 : Int32) (a2 : Int32) (S : St) : Option (Int32 × St) := if (X3_isCoin a1 S) = 0 then ((X3_found 0 S).bind fun (r3, S4) => some (r3, S4)) else (if (X3_within a2 0 5) = 0 then ((X3_found 0 S).bind fun (r18, S19) => some (r18, S19)) else ((rd S 2 24 a1).bind fun v6 => if a2 = 0 then (some (v6, S)) else (if a2 = 1 then ((X1_toldPlace a1 (blk S 1)).bind fun r9 => some (r9, S)) else (if a2 = 2 then ((X1_depthOf a1 (blk S 1)).bind fun r11 => some (r11, S)) else (if a2 = 3 then ((rdc 7 (stC 1) v6).bind fun v13 => some (v13, S)) else (if a2 = 4 then ((rdc 7 (stC 2) v6).bind fun v15 => some (v15, S)) else ((rdc 7 (stC 3) v6).bind fun v16 => some (v16, S))))))))
def X3_change (a1 : Int32) (a2 : Int32) (S : St) : Option (Int32 × St) := if (X3_isCoin a1 S) = 0 then ((X3_found 0 S).bind fun (r3, S4) => some (r3, S4)) else (if (X3_isKind a2) = 0 then ((X3_found 0 S).bind fun (r9, S10) => some (r9, S10)) else ((rd S 2 24 a1).bind fun v6 => (wr S 2 24 a1 a2).bind fun S7 => some (v6, S7)))
def X3_isColumn (a0 : Int32) : Int32 := (X3_within a0 0 6)
theorem b01_X3_isColumn (a0 : Int32) : X3_isColumn a0 = 0 ∨ X3_isColumn a0 = 1 := by
  unfold X3_isColumn
  repeat (first | exact Or.inl rfl | exact Or.inr rfl | exact b01_X3_within .. | split)
def X3_isCell (a0 : Int32) (a1 : Int32) : Int32 := if (X3_isColumn a0) = 0 then (0) else (if (X3_within a1 0 5) = 0 then (0) else (1))
theorem b01_X3_isCell (a0 : Int32) (a1 : Int32) : X3_isCell a0 a1 = 0 ∨ X3_isCell a0 a1 = 1 := by
  unfold X3_isCell
  repeat (first | exact Or.inl rfl | exact Or.inr rfl | exact b01_X3_isColumn .. | exact b01_X3_within .. | split)
def X3_cellOf (a0 : Int32) (a1 : Int32) : Int32 := ((a0 * 6) + a1)
def X3_lay (a1 : Int32) (a2 : Int32) (a3 : Int32) (S : St) : Option (Int32 × St) := if (X3_isCoin a1 S) = 0 then ((X3_found 0 S).bind fun (r3, S4) => some (r3, S4)) else (if (X3_isCell a2 a3) = 0 then ((X3_found 0 S).bind fun (r20, S21) => some (r20, S21)) else ((rd S 3 24 a1).bind fun v6 => if v6 = 100 then ((X1_hasRoom (X3_cellOf a2 a3) (blk S 1)).bind fun r8 => if r8 = 0 then ((X3_found 1 S).bind fun (r14, S15) => some (r14, S15)) else ((X1_put a1 (X3_cellOf a2 a3) (blk S 1)).bind fun T10 => (some (put S 1 7 T10)).bind fun S11 => (rd S11 4 42 (X3_cellOf a2 a3)).bind fun v12 => some (v12, S11))) else ((X3_found 4 S).bind fun (r17, S18) => some (r17, S18))))
def X3_lift (a1 : Int32) (a2 : Int32) (S : St) : Option (Int32 × St) := if (X3_isCell a1 a2) = 0 then ((X3_found 0 S).bind fun (r12, S13) => some (r12, S13)) else ((rd S 4 42 (X3_cellOf a1 a2)).bind fun v2 => if v2 ≤ 0 then ((X3_found 3 S).bind fun (r5, S6) => some (r5, S6)) else ((X1_pull (X3_cellOf a1 a2) (blk S 1)).bind fun (r8, T9) => (some (put S 1 7 T9)).bind fun S10 => some (r8, S10)))
def X3_height (a1 : Int32) (a2 : Int32) (S : St) : Option (Int32 × St) := if (X3_isCell a1 a2) = 0 then ((X3_found 0 S).bind fun (r3, S4) => some (r3, S4)) else ((rd S 4 42 (X3_cellOf a1 a2)).bind fun v5 => some (v5, S))
def X3_seen (a1 : Int32) (a2 : Int32) (a3 : Int32) (S : St) : Option (Int32 × St) := if (X3_isCell a1 a2) = 0 then ((X3_found 0 S).bind fun (r3, S4) => some (r3, S4)) else (if (X3_within a3 0 3) = 0 then ((X3_found 0 S).bind fun (r13, S14) => some (r13, S14)) else ((rd S 4 42 (X3_cellOf a1 a2)).bind fun v6 => if v6 ≤ a3 then ((X3_found 3 S).bind fun (r9, S10) => some (r9, S10)) else ((rd S 5 168 (((X3_cellOf a1 a2) * 4) + a3)).bind fun v11 => some (v11, S))))
def X3_isSetting (a0 : Int32) (a1 : Int32) : Option Int32 := (rdc 3 (stC 4) a0).bind fun v1 => (rdc 3 (stC 5) a0).bind fun v2 => some (X3_within a1 v1 v2)
def X3_set (a1 : Int32) (a2 : Int32) (S : St) : Option (Int32 × St) := if (X3_within a1 0 2) = 0 then ((X3_found 0 S).bind fun (r3, S4) => some (r3, S4)) else ((X3_isSetting a1 a2).bind fun r5 => if r5 = 0 then ((X3_found 0 S).bind fun (r10, S11) => some (r10, S11)) else ((rd S 6 3 a1).bind fun v7 => (wr S 6 3 a1 a2).bind fun S8 => some (v7, S8)))
def X3_passesEnd (a1 : Int32) (S : St) : Int32 := if ((S 1 7) + a1) ≤ 9999 then (0) else (1)
theorem b01_X3_passesEnd (a1 : Int32) (S : St) : X3_passesEnd a1 S = 0 ∨ X3_passesEnd a1 S = 1 := by
  unfold X3_passesEnd
  repeat (first | exact Or.inl rfl | exact Or.inr rfl | split)
def X3_drop (a1 : Int32) (a2 : Int32) (S : St) : Option (Int32 × St) := if (X3_isCoin a1 S) = 0 then ((X3_found 0 S).bind fun (r3, S4) => some (r3, S4)) else (if (X3_isColumn a2) = 0 then ((X3_found 0 S).bind fun (r20, S21) => some (r20, S21)) else ((rd S 3 24 a1).bind fun v6 => if v6 = 100 then (if (X3_passesEnd 1 S) = 0 then ((X1_gain (blk S 1)).bind fun r12 => (X1_release a1 a2 (blk S 1)).bind fun T13 => (some (put S 1 7 T13)).bind fun S14 => (X1_gain (blk S14 1)).bind fun r15 => some ((r15 - r12), S14)) else ((X3_found 4 S).bind fun (r17, S18) => some (r17, S18))) else ((X3_found 4 S).bind fun (r9, S10) => some (r9, S10))))
def X3_beats (a1 : Int32) (S : St) : Option (Int32 × St) := if (X3_within a1 1 60) = 0 then ((X3_found 0 S).bind fun (r11, S12) => some (r11, S12)) else (if (X3_passesEnd a1 S) = 0 then ((X1_goneOver (blk S 1)).bind fun r3 => (X1_advance a1 (blk S 1)).bind fun T4 => (some (put S 1 7 T4)).bind fun S5 => (X1_goneOver (blk S5 1)).bind fun r6 => some ((r6 - r3), S5)) else ((X3_found 4 S).bind fun (r8, S9) => some (r8, S9)))
def X3_now (a1 : Int32) (S : St) : Option (Int32 × St) := if a1 = 0 then (some ((S 1 7), S)) else (if a1 = 1 then ((X1_gain (blk S 1)).bind fun r3 => some (r3, S)) else (if a1 = 2 then ((X1_bitsAt 101 (blk S 1)).bind fun r5 => some (r5, S)) else (if a1 = 3 then ((X1_bitsAt 102 (blk S 1)).bind fun r7 => some (r7, S)) else (if a1 = 4 then ((X1_bitsAt 100 (blk S 1)).bind fun r9 => some (r9, S)) else (if a1 = 5 then (some ((S 1 8), S)) else (if a1 = 6 then ((X1_worthAt 102 (blk S 1)).bind fun r12 => some (r12, S)) else ((X3_found 0 S).bind fun (r14, S15) => some (r14, S15))))))))
def X3_run (a1 : Int32) (S : St) : Option (Int32 × St) := if (X3_isColumn a1) = 0 then ((X3_found 0 S).bind fun (r3, S4) => some (r3, S4)) else ((X1_runRows a1 (blk S 1)).bind fun r5 => some (r5, S))
def X3_weight (a1 : Int32) (S : St) : Option (Int32 × St) := if (X3_isColumn a1) = 0 then ((X3_found 0 S).bind fun (r3, S4) => some (r3, S4)) else ((X1_runWeight a1 (blk S 1)).bind fun r5 => some (r5, S))
def X3_moved_L4 : Nat → Int32 → Int32 → St → Option Int32
  | 0, _, _, _ => none
  | n + 1, b1, b2, S => if 7 ≤ b2 then (some b1) else ((X1_pushMoves b2 (blk S 1)).bind fun r2 => if r2 = 0 then (X3_moved_L4 n b1 (b2 + 1) S) else (X3_moved_L4 n (b1 ||| (shl32 1 b2)) (b2 + 1) S))
def X3_moved (S : St) : Option Int32 := X3_moved_L4 FU 0 0 S
def X3_leaning_L4 : Nat → Int32 → Int32 → St → Option Int32
  | 0, _, _, _ => none
  | n + 1, b1, b2, S => if 42 ≤ b2 then (some b1) else ((X1_leans b2 (blk S 1)).bind fun r2 => if r2 = 0 then (X3_leaning_L4 n b1 (b2 + 1) S) else (X3_leaning_L4 n (b1 + 1) (b2 + 1) S))
def X3_leaning (S : St) : Option Int32 := X3_leaning_L4 FU 0 0 S
def X3_ahead (a1 : Int32) (a2 : Int32) (S : St) : Option (Int32 × St) := if (X3_within a1 0 60) = 0 then ((X3_found 0 S).bind fun (r3, S4) => some (r3, S4)) else (if (X3_within a2 0 3) = 0 then ((X3_found 0 S).bind fun (r23, S24) => some (r23, S24)) else (if (X3_passesEnd a1 S) = 0 then ((some (put S 15 7 (blk S 1))).bind fun S7 => (X1_advance a1 (blk S7 15)).bind fun T8 => (some (put S7 15 7 T8)).bind fun S9 => if a2 = 0 then ((X1_worthAt 101 (blk S9 15)).bind fun r11 => (X1_worthAt 101 (blk S9 1)).bind fun r12 => some ((r11 - r12), S9)) else (if a2 = 1 then ((X1_goneOver (blk S9 15)).bind fun r14 => (X1_goneOver (blk S9 1)).bind fun r15 => some ((r14 - r15), S9)) else (if a2 = 2 then ((X1_bitsOnShelf (blk S9 15)).bind fun r17 => some (r17, S9)) else ((X1_highest (blk S9 15)).bind fun r18 => some (r18, S9))))) else ((X3_found 4 S).bind fun (r20, S21) => some (r20, S21))))
def X3_falls_L57 : Nat → Int32 → Int32 → St → Option (Int32 × St)
  | 0, _, _, _ => none
  | n + 1, b1, b2, S => if 60 < b2 then ((X3_found 3 S).bind fun (r11, S12) => some (r11, S12)) else ((X1_advance 1 (blk S 15)).bind fun T13 => (some (put S 15 7 T13)).bind fun S14 => (X1_isOnShelf b1 (blk S14 15)).bind fun r15 => if r15 = 0 then (some (b2, S14)) else (X3_falls_L57 n b1 (b2 + 1) S14))
def X3_falls (a1 : Int32) (S : St) : Option (Int32 × St) := if (X3_isCoin a1 S) = 0 then ((X3_found 0 S).bind fun (r21, S22) => some (r21, S22)) else ((X1_isOnShelf a1 (blk S 1)).bind fun r2 => if r2 = 0 then ((X3_found 4 S).bind fun (r5, S6) => some (r5, S6)) else (if (S 1 7) ≤ 9939 then ((some (put S 15 7 (blk S 1))).bind fun S8 => X3_falls_L57 FU a1 1 S8) else ((X3_found 4 S).bind fun (r18, S19) => some (r18, S19))))
def X3_rest_L69 (k44 : Int32 → Int32 → Int32 → St → Option (Int32 × St)) (b1 : Int32) (b3 : Int32) (t0 : Int32) (S : St) : Option (Int32 × St) := if t0 < b1 then (k44 b1 t0 (b3 + 1) S) else (some ((b3 - b1), S))
def X3_rest_L44 : Nat → Int32 → Int32 → Int32 → St → Option (Int32 × St)
  | 0, _, _, _, _ => none
  | n + 1, b1, b2, b3, S => if (60 + b1) < b3 then ((X3_found 3 S).bind fun (r6, S7) => some (r6, S7)) else ((X1_passBeat (blk S 15)).bind fun (r9, T10) => (some (put S 15 7 T10)).bind fun S11 => if r9 = 0 then (X3_rest_L69 (X3_rest_L44 n) b1 b3 (b2 + 1) S11) else (X3_rest_L69 (X3_rest_L44 n) b1 b3 0 S11))
def X3_rest (S : St) : Option (Int32 × St) := if (S 1 7) ≤ 9930 then ((rd S 6 3 1).bind fun v2 => (some (put S 15 7 (blk S 1))).bind fun S3 => X3_rest_L44 FU v2 0 1 S3) else ((X3_found 4 S).bind fun (r15, S16) => some (r15, S16))
def X3_isSearched (a1 : Int32) (S : St) : Option Int32 := (rd S 3 24 a1).bind fun v1 => if v1 = 100 then (if 9900 < (S 1 7) then (some 0) else (some 1)) else (some 0)
def X3_gainBy (k1 : Nat) (a2 : Int32) (a3 : Int32) (a4 : Int32) (S : St) : Option (Int32 × St) := (gne 15 k1).bind fun k1 => (some (put S 15 7 (blk S k1))).bind fun S2 => (X1_release a2 a3 (blk S2 15)).bind fun T3 => (some (put S2 15 7 T3)).bind fun S4 => (X1_advance a4 (blk S4 15)).bind fun T5 => (some (put S4 15 7 T5)).bind fun S6 => (X1_gain (blk S6 15)).bind fun r7 => some (r7, S6)
def X3_brings (a1 : Int32) (a2 : Int32) (a3 : Int32) (S : St) : Option (Int32 × St) := if (X3_isCoin a1 S) = 0 then ((X3_found 0 S).bind fun (r3, S4) => some (r3, S4)) else (if (X3_isColumn a2) = 0 then ((X3_found 0 S).bind fun (r7, S8) => some (r7, S8)) else (if (X3_within a3 0 20) = 0 then ((X3_found 0 S).bind fun (r20, S21) => some (r20, S21)) else ((X3_isSearched a1 S).bind fun r10 => if r10 = 0 then ((X3_found 4 S).bind fun (r17, S18) => some (r17, S18)) else ((X3_gainBy 1 a1 a2 a3 S).bind fun (r13, S14) => (X1_gain (blk S14 1)).bind fun r15 => some ((r13 - r15), S14)))))
def X3_best_L56 : Nat → Int32 → Int32 → Int32 → Int32 → Int32 → St → Option (Int32 × St)
  | 0, _, _, _, _, _, _ => none
  | n + 1, b1, b2, b3, b4, b5, S => if 7 ≤ b5 then (some (b3, S)) else ((X3_gainBy 1 b1 b5 b2 S).bind fun (r13, S14) => if r13 ≤ b4 then (X3_best_L56 n b1 b2 b3 b4 (b5 + 1) S14) else (X3_best_L56 n b1 b2 b5 r13 (b5 + 1) S14))
def X3_best (a1 : Int32) (a2 : Int32) (S : St) : Option (Int32 × St) := if (X3_isCoin a1 S) = 0 then ((X3_found 0 S).bind fun (r3, S4) => some (r3, S4)) else (if (X3_within a2 0 20) = 0 then ((X3_found 0 S).bind fun (r20, S21) => some (r20, S21)) else ((X3_isSearched a1 S).bind fun r6 => if r6 = 0 then ((X3_found 4 S).bind fun (r17, S18) => some (r17, S18)) else ((X3_gainBy 1 a1 0 a2 S).bind fun (r9, S10) => X3_best_L56 FU a1 a2 0 r9 1 S10)))
def X3_wait_L82 (k72 : Int32 → Int32 → Nat → Int32 → Int32 → Int32 → St → Option (Int32 × St)) : Nat → Int32 → Int32 → Nat → Int32 → Int32 → Int32 → Int32 → St → Option (Int32 × St)
  | 0, _, _, _, _, _, _, _, _ => none
  | n + 1, b1, b2, kb3, b4, b5, b6, b7, S => if 7 ≤ b7 then ((X1_advance 1 (blk S kb3)).bind fun T16 => (some (put S kb3 7 T16)).bind fun S17 => k72 b1 b2 kb3 b4 b5 (b6 + 1) S17) else ((X3_gainBy kb3 b1 b7 b2 S).bind fun (r19, S20) => if r19 ≤ b5 then (X3_wait_L82 k72 n b1 b2 kb3 b4 b5 b6 (b7 + 1) S20) else (X3_wait_L82 k72 n b1 b2 kb3 ((10 * b6) + b7) r19 b6 (b7 + 1) S20))
def X3_wait_L72 : Nat → Int32 → Int32 → Nat → Int32 → Int32 → Int32 → St → Option (Int32 × St)
  | 0, _, _, _, _, _, _, _ => none
  | n + 1, b1, b2, kb3, b4, b5, b6, S => if 11 < b6 then (some (b4, S)) else (X3_wait_L82 (X3_wait_L72 n) FU b1 b2 kb3 b4 b5 b6 0 S)
def X3_wait (a1 : Int32) (a2 : Int32) (S : St) : Option (Int32 × St) := if (X3_isCoin a1 S) = 0 then ((X3_found 0 S).bind fun (r3, S4) => some (r3, S4)) else (if (X3_within a2 0 20) = 0 then ((X3_found 0 S).bind fun (r26, S27) => some (r26, S27)) else ((X3_isSearched a1 S).bind fun r6 => if r6 = 0 then ((X3_found 4 S).bind fun (r23, S24) => some (r23, S24)) else ((rdn 4 lvl 1).bind fun k8 => (gne k8 1).bind fun k9 => (some (put S k8 7 (blk S 1))).bind fun S10 => (X3_gainBy 1 a1 0 a2 S10).bind fun (r12, S13) => X3_wait_L72 FU a1 a2 k8 0 r12 0 S13)))
def X3_canDrop (a1 : Int32) (S : St) : Option Int32 := (X1_bitsAt 100 (blk S 1)).bind fun r1 => if (J6_bitCount_0f7a4 r1) < a1 then (some 0) else (if 9900 < (S 1 7) then (some 0) else (some 1))
def X3_columnOf (a0 : Int32) (a1 : Int32) (a2 : Int32) : Option Int32 := (rdc 4 (stC 6) (a1 - a2)).bind fun v1 => (dvn a0 v1).bind fun v2 => some (irm v2 7)
def X3_walk_L2 : Nat → Int32 → Int32 → Int32 → St → Option (Nat × St)
  | 0, _, _, _, _ => none
  | n + 1, b1, b2, b3, S => if b2 < b3 then ((rdn 4 lvl b2).bind fun k2 => some (k2, S)) else ((rdc 4 (stC 6) (b2 - b3)).bind fun v3 => (rmn b1 v3).bind fun v4 => if v4 = 0 then ((rdn 4 lvl b3).bind fun k6 => (rdn 4 lvl (b3 - 1)).bind fun k7 => (gne k6 k7).bind fun k8 => (some (put S k6 7 (blk S k7))).bind fun S9 => (X1_leastInHand (blk S9 k6)).bind fun r10 => (X3_columnOf b1 b2 b3).bind fun r11 => (X1_release r10 r11 (blk S9 k6)).bind fun T12 => (some (put S9 k6 7 T12)).bind fun S13 => X3_walk_L2 n b1 b2 (b3 + 1) S13) else (X3_walk_L2 n b1 b2 (b3 + 1) S))
def X3_walk (a1 : Int32) (a2 : Int32) (S : St) : Option (Nat × St) := X3_walk_L2 FU a1 a2 1 S
def X3_gainOfThree (a1 : Int32) (a2 : Int32) (S : St) : Option (Int32 × St) := (X3_walk a1 3 S).bind fun (r2, S3) => (gsh r2).bind fun k4 => (gne 15 r2).bind fun k5 => (some (put S3 15 7 (blk S3 r2))).bind fun S6 => (X1_advance a2 (blk S6 15)).bind fun T7 => (some (put S6 15 7 T7)).bind fun S8 => (X1_gain (blk S8 15)).bind fun r9 => some (r9, S8)
def X3_three_L42 : Nat → Int32 → Int32 → Int32 → Int32 → St → Option (Int32 × St)
  | 0, _, _, _, _, _ => none
  | n + 1, b1, b2, b3, b4, S => (rdc 4 (stC 6) 3).bind fun v7 => if v7 ≤ b4 then ((X3_columnOf b2 3 1).bind fun r9 => (X3_columnOf b2 3 2).bind fun r10 => (X3_columnOf b2 3 3).bind fun r11 => some ((((100 * r9) + (10 * r10)) + r11), S)) else ((X3_gainOfThree b4 b1 S).bind fun (r13, S14) => if r13 ≤ b3 then (X3_three_L42 n b1 b2 b3 (b4 + 1) S14) else (X3_three_L42 n b1 b4 r13 (b4 + 1) S14))
def X3_three (a1 : Int32) (S : St) : Option (Int32 × St) := if (X3_within a1 0 20) = 0 then ((X3_found 0 S).bind fun (r20, S21) => some (r20, S21)) else ((X3_canDrop 3 S).bind fun r2 => if r2 = 0 then ((X3_found 4 S).bind fun (r17, S18) => some (r17, S18)) else ((X3_gainOfThree 0 a1 S).bind fun (r5, S6) => X3_three_L42 FU a1 0 r5 1 S6))
def X3_threeBring_L39 : Nat → Int32 → Int32 → Int32 → St → Option (Int32 × St)
  | 0, _, _, _, _ => none
  | n + 1, b1, b2, b3, S => (rdc 4 (stC 6) 3).bind fun v7 => if v7 ≤ b3 then ((X1_gain (blk S 1)).bind fun r9 => some ((b2 - r9), S)) else ((X3_gainOfThree b3 b1 S).bind fun (r11, S12) => X3_threeBring_L39 n b1 (mxI b2 r11) (b3 + 1) S12)
def X3_threeBring (a1 : Int32) (S : St) : Option (Int32 × St) := if (X3_within a1 0 20) = 0 then ((X3_found 0 S).bind fun (r17, S18) => some (r17, S18)) else ((X3_canDrop 3 S).bind fun r2 => if r2 = 0 then ((X3_found 4 S).bind fun (r14, S15) => some (r14, S15)) else ((X3_gainOfThree 0 a1 S).bind fun (r5, S6) => X3_threeBring_L39 FU a1 r5 1 S6))
def X3_soonestWay_L19 (k2 : Int32 → Int32 → St → Option (Int32 × St)) : Nat → Int32 → Int32 → Int32 → St → Option (Int32 × St)
  | 0, _, _, _, _ => none
  | n + 1, b1, b2, b3, S => (rdc 4 (stC 6) b2).bind fun v4 => if v4 ≤ b3 then (k2 b1 (b2 + 1) S) else ((X3_walk b3 b2 S).bind fun (r7, S8) => (gsh r7).bind fun k9 => (rd S8 (r7 + 2) 24 b1).bind fun v10 => if v10 = 101 then ((rdc 4 (stC 6) 3).bind fun v12 => some (((b2 * v12) + b3), S8)) else (X3_soonestWay_L19 k2 n b1 b2 (b3 + 1) S8))
def X3_soonestWay_L2 : Nat → Int32 → Int32 → St → Option (Int32 × St)
  | 0, _, _, _ => none
  | n + 1, b1, b2, S => if 3 < b2 then (some ((-1), S)) else ((X3_canDrop b2 S).bind fun r2 => if r2 = 0 then (some ((-1), S)) else (X3_soonestWay_L19 (X3_soonestWay_L2 n) FU b1 b2 0 S))
def X3_soonestWay (a1 : Int32) (S : St) : Option (Int32 × St) := X3_soonestWay_L2 FU a1 0 S
def X3_soonest (a1 : Int32) (S : St) : Option (Int32 × St) := if (X3_isCoin a1 S) = 0 then ((X3_found 0 S).bind fun (r16, S17) => some (r16, S17)) else (if (S 1 7) ≤ 9900 then ((X3_soonestWay a1 S).bind fun (r4, S5) => if 0 ≤ r4 then ((rdc 4 (stC 6) 3).bind fun v7 => (dvn r4 v7).bind fun v8 => some (v8, S5)) else ((X3_found 3 S5).bind fun (r10, S11) => some (r10, S11))) else ((X3_found 4 S).bind fun (r13, S14) => some (r13, S14)))
def X3_firstFor (a1 : Int32) (S : St) : Option (Int32 × St) := if (X3_isCoin a1 S) = 0 then ((X3_found 0 S).bind fun (r20, S21) => some (r20, S21)) else (if (S 1 7) ≤ 9900 then ((X3_soonestWay a1 S).bind fun (r4, S5) => (rdc 4 (stC 6) 3).bind fun v6 => if v6 ≤ r4 then ((rdc 4 (stC 6) 3).bind fun v8 => (dvn r4 v8).bind fun v9 => (rdc 4 (stC 6) 3).bind fun v10 => (rmn r4 v10).bind fun v11 => (X3_columnOf v11 v9 1).bind fun r12 => some (r12, S5)) else ((X3_found 3 S5).bind fun (r14, S15) => some (r14, S15))) else ((X3_found 4 S).bind fun (r17, S18) => some (r17, S18)))
def X3_ways_L48 : Nat → Int32 → Int32 → Int32 → Int32 → St → Option (Int64 × St)
  | 0, _, _, _, _, _ => none
  | n + 1, b1, b2, b3, b4, S => (rdc 4 (stC 6) b1).bind fun v8 => if v8 ≤ b4 then (some (b3.toInt64, S)) else ((X3_walk b4 b1 S).bind fun (r11, S12) => (gsh r11).bind fun k13 => (X1_gain (blk S12 r11)).bind fun r14 => if r14 < b2 then (X3_ways_L48 n b1 b2 b3 (b4 + 1) S12) else (X3_ways_L48 n b1 b2 (b3 + 1) (b4 + 1) S12))
def X3_ways (a1 : Int32) (a2 : Int32) (S : St) : Option (Int64 × St) := if (X3_within a1 0 3) = 0 then ((X3_found 0 S).bind fun (r3, S4) => some (r3.toInt64, S4)) else (if (X3_within a2 (-99) 999) = 0 then ((X3_found 0 S).bind fun (r20, S21) => some (r20.toInt64, S21)) else ((X3_canDrop a1 S).bind fun r6 => if r6 = 0 then ((X3_found 4 S).bind fun (r17, S18) => some (r17.toInt64, S18)) else (X3_ways_L48 FU a1 a2 0 0 S)))
def X3_total_L44 : Nat → Int32 → Int32 → Int64 → Int32 → St → Option (Int64 × St)
  | 0, _, _, _, _, _ => none
  | n + 1, b1, b2, b3, b5, S => (rdc 4 (stC 6) b1).bind fun v5 => if v5 ≤ b5 then (some (b3, S)) else ((X3_walk b5 b1 S).bind fun (r8, S9) => (gsh r8).bind fun k10 => (X1_gain (blk S9 r8)).bind fun r11 => X3_total_L44 n b1 b2 (b3 + (r11 - b2).toInt64) (b5 + 1) S9)
def X3_total (a1 : Int32) (S : St) : Option (Int64 × St) := if (X3_within a1 0 3) = 0 then ((X3_found 0 S).bind fun (r16, S17) => some (r16.toInt64, S17)) else ((X3_canDrop a1 S).bind fun r2 => if r2 = 0 then ((X3_found 4 S).bind fun (r13, S14) => some (r13.toInt64, S14)) else ((X1_gain (blk S 1)).bind fun r4 => X3_total_L44 FU a1 r4 0 0 S))
def X3_luck_L44 : Nat → Int32 → Int32 → Int32 → Int32 → St → Option (Int64 × St)
  | 0, _, _, _, _, _ => none
  | n + 1, b1, b2, b3, b4, S => (rdc 4 (stC 6) b2).bind fun v8 => if v8 ≤ b4 then (some (b3.toInt64, S)) else ((X3_walk b4 b2 S).bind fun (r11, S12) => (gsh r11).bind fun k13 => (rd S12 (r11 + 2) 24 b1).bind fun v14 => if v14 = 101 then (X3_luck_L44 n b1 b2 (b3 + 1) (b4 + 1) S12) else (X3_luck_L44 n b1 b2 b3 (b4 + 1) S12))
def X3_luck (a1 : Int32) (a2 : Int32) (S : St) : Option (Int64 × St) := if (X3_isCoin a1 S) = 0 then ((X3_found 0 S).bind fun (r3, S4) => some (r3.toInt64, S4)) else (if (X3_within a2 0 3) = 0 then ((X3_found 0 S).bind fun (r20, S21) => some (r20.toInt64, S21)) else ((X3_canDrop a2 S).bind fun r6 => if r6 = 0 then ((X3_found 4 S).bind fun (r17, S18) => some (r17.toInt64, S18)) else (X3_luck_L44 FU a1 a2 0 0 S)))
def X3_play_L40 : Nat → Int32 → Int32 → Int32 → St → Option (Int32 × St)
  | 0, _, _, _, _ => none
  | n + 1, b1, b2, b3, S => if b1 ≤ b3 then ((X1_gain (blk S 1)).bind fun r6 => some ((r6 - b2), S)) else ((X1_leastInHand (blk S 1)).bind fun r7 => (X1_draw (blk S 1)).bind fun (r9, T10) => (some (put S 1 7 T10)).bind fun S11 => (X1_release r7 (irm r9 7) (blk S11 1)).bind fun T12 => (some (put S11 1 7 T12)).bind fun S13 => X3_play_L40 n b1 b2 (b3 + 1) S13)
def X3_play (a1 : Int32) (S : St) : Option (Int32 × St) := if (X3_within a1 1 12) = 0 then ((X3_found 0 S).bind fun (r18, S19) => some (r18, S19)) else ((X3_canDrop a1 S).bind fun r2 => if r2 = 0 then ((X3_found 4 S).bind fun (r15, S16) => some (r15, S16)) else ((X1_gain (blk S 1)).bind fun r4 => X3_play_L40 FU a1 r4 0 S))
def X3_jolt (S : St) : Option (Int32 × St) := (X1_shake (blk S 1)).bind fun (r2, T3) => (some (put S 1 7 T3)).bind fun S4 => some (r2, S4)
def X3_jolted (S : St) : Option (Int32 × St) := (some (put S 15 7 (blk S 1))).bind fun S1 => (X1_shake (blk S1 15)).bind fun (r3, T4) => (some (put S1 15 7 T4)).bind fun S5 => (X1_worthAt 101 (blk S5 15)).bind fun r6 => (X1_worthAt 101 (blk S5 1)).bind fun r7 => some ((r6 - r7), S5)
def X3_stroke_L41 : Nat → Int32 → Int32 → Int32 → Int32 → St → Option (Int32 × St)
  | 0, _, _, _, _, _ => none
  | n + 1, b1, b2, b3, b4, S => (rdc 3 (stC 5) 1).bind fun v4 => if v4 < b4 then (some (b2, S)) else ((some (put S 15 7 (blk S 1))).bind fun S6 => (wr S6 20 3 1 b4).bind fun S7 => (X1_advance b1 (blk S7 15)).bind fun T8 => (some (put S7 15 7 T8)).bind fun S9 => (X1_worthAt 101 (blk S9 15)).bind fun r10 => if b2 = 0 then (X3_stroke_L41 n b1 b4 r10 (b4 + 1) S9) else (if b3 ≤ r10 then (X3_stroke_L41 n b1 b2 b3 (b4 + 1) S9) else (X3_stroke_L41 n b1 b4 r10 (b4 + 1) S9)))
def X3_stroke (a1 : Int32) (S : St) : Option (Int32 × St) := if (X3_within a1 1 60) = 0 then ((X3_found 0 S).bind fun (r17, S18) => some (r17, S18)) else (if (X3_passesEnd a1 S) = 0 then ((rdc 3 (stC 4) 1).bind fun v3 => X3_stroke_L41 FU a1 0 0 v3 S) else ((X3_found 4 S).bind fun (r14, S15) => some (r14, S15)))
def X3_force_L55 : Nat → Int32 → Int32 → Int32 → St → Option (Int32 × St)
  | 0, _, _, _, _ => none
  | n + 1, b1, b2, b3, S => (rdc 3 (stC 5) 0).bind fun v13 => if v13 < b3 then ((X3_found 3 S).bind fun (r16, S17) => some (r16, S17)) else ((some (put S 15 7 (blk S 1))).bind fun S18 => (wr S18 20 3 0 b3).bind fun S19 => (X1_advance b2 (blk S19 15)).bind fun T20 => (some (put S19 15 7 T20)).bind fun S21 => (X1_isOnShelf b1 (blk S21 15)).bind fun r22 => if r22 = 0 then (some (b3, S21)) else (X3_force_L55 n b1 b2 (b3 + 1) S21))
def X3_force (a1 : Int32) (a2 : Int32) (S : St) : Option (Int32 × St) := if (X3_isCoin a1 S) = 0 then ((X3_found 0 S).bind fun (r3, S4) => some (r3, S4)) else (if (X3_within a2 1 60) = 0 then ((X3_found 0 S).bind fun (r28, S29) => some (r28, S29)) else ((X1_isOnShelf a1 (blk S 1)).bind fun r6 => if r6 = 0 then ((X3_found 4 S).bind fun (r9, S10) => some (r9, S10)) else (if (X3_passesEnd a2 S) = 0 then ((rdc 3 (stC 4) 0).bind fun v12 => X3_force_L55 FU a1 a2 v12 S) else ((X3_found 4 S).bind fun (r25, S26) => some (r25, S26)))))
def X3_kindFor_L118 (k57 : Int32 → Int32 → Int32 → Int32 → Int32 → St → Option (Int32 × St)) (b1 : Int32) (b2 : Int32) (b3 : Int32) (b4 : Int32) (b5 : Int32) (t0 : Int32) (S : St) : Option (Int32 × St) := (X1_worthAt 101 (blk S 15)).bind fun r19 => if b3 < 0 then (k57 b1 b2 b5 (r19 - t0) (b5 + 1) S) else (if (r19 - t0) ≤ b4 then (k57 b1 b2 b3 b4 (b5 + 1) S) else (k57 b1 b2 b5 (r19 - t0) (b5 + 1) S))
def X3_kindFor_L57 : Nat → Int32 → Int32 → Int32 → Int32 → Int32 → St → Option (Int32 × St)
  | 0, _, _, _, _, _, _ => none
  | n + 1, b1, b2, b3, b4, b5, S => if 7 ≤ b5 then (some (b3, S)) else ((some (put S 15 7 (blk S 1))).bind fun S13 => (wr S13 16 24 b1 b5).bind fun S14 => (X1_advance b2 (blk S14 15)).bind fun T15 => (some (put S14 15 7 T15)).bind fun S16 => (rd S16 17 24 b1).bind fun v17 => if v17 = 101 then ((rdc 7 (stC 1) b5).bind fun v22 => X3_kindFor_L118 (X3_kindFor_L57 n) b1 b2 b3 b4 b5 v22 S16) else (X3_kindFor_L118 (X3_kindFor_L57 n) b1 b2 b3 b4 b5 0 S16))
def X3_kindFor (a1 : Int32) (a2 : Int32) (S : St) : Option (Int32 × St) := if (X3_isCoin a1 S) = 0 then ((X3_found 0 S).bind fun (r3, S4) => some (r3, S4)) else (if (X3_within a2 1 60) = 0 then ((X3_found 0 S).bind fun (r27, S28) => some (r27, S28)) else ((X1_isOnShelf a1 (blk S 1)).bind fun r6 => if r6 = 0 then ((X3_found 4 S).bind fun (r9, S10) => some (r9, S10)) else (if (X3_passesEnd a2 S) = 0 then (X3_kindFor_L57 FU a1 a2 (-1) 0 0 S) else ((X3_found 4 S).bind fun (r24, S25) => some (r24, S25)))))
def X3_seed (a1 : Int32) (S : St) : Option (Int32 × St) := (some (ups S 1 9 a1)).bind fun S1 => some ((S 1 9), S1)
def X3_feed_L39 : Nat → Int32 → Int32 → St → Option (Int32 × St)
  | 0, _, _, _ => none
  | n + 1, b1, b3, S => if b3 < 0 then (some ((S 23 1), S)) else ((X2_append ((ush32 b1 (8 * b3)) &&& 255) (blk S 23)).bind fun T4 => (some (put S 23 2 T4)).bind fun S5 => X3_feed_L39 n b1 (b3 + (-1)) S5)
def X3_feed (a1 : Int32) (a2 : Int32) (S : St) : Option (Int32 × St) := if (X3_within a2 1 4) = 0 then ((X3_found 0 S).bind fun (r10, S11) => some (r10, S11)) else (if ((S 23 1) + a2) ≤ 120 then (X3_feed_L39 FU a1 (a2 - 1) S) else ((X3_found 1 S).bind fun (r7, S8) => some (r7, S8)))
def X3_wipe (S : St) : Option (Int32 × St) := (some (ups S 23 1 0)).bind fun S1 => some ((S 23 1), S1)
def X3_kindWord (a0 : Int32) : Nat := if a0 = 0 then (0) else (if a0 = 1 then (1) else (if a0 = 2 then (2) else (if a0 = 3 then (3) else (if a0 = 4 then (4) else (if a0 = 5 then (5) else (6))))))
def X3_readCoin (k1 : Nat) (a2 : Int32) (S : St) : Option (Int32 × St) := if (S k1 6) < 24 then ((X1_mint a2 (blk S k1)).bind fun (r3, T4) => (some (put S k1 7 T4)).bind fun S5 => (X2_next (blk S5 23)).bind fun T6 => (some (put S5 23 2 T6)).bind fun S7 => (X2_isWord 10 (blk S7 23)).bind fun r8 => if r8 = 0 then (some (1, S7)) else ((X2_next (blk S7 23)).bind fun T10 => (some (put S7 23 2 T10)).bind fun S11 => if (S11 23 2) = 2 then (if (X3_isColumn (S11 23 5)) = 0 then (some (0, S11)) else ((X2_next (blk S11 23)).bind fun T14 => (some (put S11 23 2 T14)).bind fun S15 => if (S15 23 2) = 2 then (if (X3_isCell (S11 23 5) (S15 23 5)) = 0 then (some (0, S15)) else ((X1_hasRoom (X3_cellOf (S11 23 5) (S15 23 5)) (blk S15 k1)).bind fun r18 => if r18 = 0 then (some (0, S15)) else ((X1_put r3 (X3_cellOf (S11 23 5) (S15 23 5)) (blk S15 k1)).bind fun T20 => (some (put S15 k1 7 T20)).bind fun S21 => (X2_next (blk S21 23)).bind fun T22 => (some (put S21 23 2 T22)).bind fun S23 => some (1, S23)))) else (some (0, S15)))) else (some (0, S11)))) else (some (0, S))
def X3_settingWord (a0 : Int32) : Nat := if a0 = 0 then (7) else (if a0 = 1 then (8) else (9))
def X3_readSetting (k1 : Nat) (a2 : Int32) (S : St) : Option (Int32 × St) := (X2_next (blk S 23)).bind fun T1 => (some (put S 23 2 T1)).bind fun S2 => if (S2 23 2) = 2 then ((X3_isSetting a2 (S2 23 5)).bind fun r4 => if r4 = 0 then (some (0, S2)) else ((wr S2 (k1 + 5) 3 a2 (S2 23 5)).bind fun S6 => (X2_next (blk S6 23)).bind fun T7 => (some (put S6 23 2 T7)).bind fun S8 => some (1, S8))) else (some (0, S2))
def X3_readItem_L37 (k1 : Nat) : Nat → Int32 → St → Option (Int32 × St)
  | 0, _, _ => none
  | n + 1, b2, S => if 3 ≤ b2 then (some (0, S)) else ((gst (X3_settingWord b2)).bind fun w3 => (X2_isWord (X3_settingWord b2) (blk S 23)).bind fun r4 => if r4 = 0 then (X3_readItem_L37 k1 n (b2 + 1) S) else ((X3_readSetting k1 b2 S).bind fun (r7, S8) => (bl r7).bind fun v9 => some (r7, S8)))
def X3_readItem_L2 (k1 : Nat) : Nat → Int32 → St → Option (Int32 × St)
  | 0, _, _ => none
  | n + 1, b2, S => if 7 ≤ b2 then (X3_readItem_L37 k1 FU 0 S) else ((gst (X3_kindWord b2)).bind fun w10 => (X2_isWord (X3_kindWord b2) (blk S 23)).bind fun r11 => if r11 = 0 then (X3_readItem_L2 k1 n (b2 + 1) S) else ((X3_readCoin k1 b2 S).bind fun (r14, S15) => (bl r14).bind fun v16 => some (r14, S15)))
def X3_readItem (k1 : Nat) (S : St) : Option (Int32 × St) := X3_readItem_L2 k1 FU 0 S
def X3_readText_L9 (k1 : Nat) : Nat → Int32 → St → Option (Int32 × St)
  | 0, _, _ => none
  | n + 1, b2, S => if 120 < b2 then (some (((-1) - (S 23 3)), S)) else ((X2_next (blk S 23)).bind fun T4 => (some (put S 23 2 T4)).bind fun S5 => (X3_readItem k1 S5).bind fun (r7, S8) => if r7 = 0 then (some (((-1) - (S8 23 3)), S8)) else (if (S8 23 2) = 0 then (some (b2, S8)) else (if (S8 23 2) = 3 then (X3_readText_L9 k1 n (b2 + 1) S8) else (some (((-1) - (S8 23 3)), S8)))))
def X3_readText (k1 : Nat) (S : St) : Option (Int32 × St) := (X2_rewind (blk S 23)).bind fun T1 => (some (put S 23 2 T1)).bind fun S2 => X3_readText_L9 k1 FU 1 S2
def X3_text (S : St) : Option (Int32 × St) := (some (put S 15 7 (blk S 1))).bind fun S1 => (X3_readText 15 S1).bind fun (r3, S4) => if r3 < 0 then ((some (ups S4 23 1 0)).bind fun S6 => some (r3, S6)) else ((some (put S4 1 7 (blk S4 15))).bind fun S7 => (some (ups S7 23 1 0)).bind fun S8 => some (r3, S8))
def X3_hold (a1 : Int32) (a2 : Int32) (S : St) : Option (Int32 × St) := if (X3_within a1 0 9) = 0 then ((X3_found 0 S).bind fun (r3, S4) => some (r3, S4)) else (if a2 = (-1) then ((wr S 7 10 a1 a2).bind fun S6 => some (1, S6)) else (if (X3_isCoin a2 S) = 0 then ((X3_found 0 S).bind fun (r10, S11) => some (r10, S11)) else ((wr S 7 10 a1 a2).bind fun S8 => some (1, S8))))
def X3_isUnder_L4 : Nat → Int32 → Int32 → Int32 → Option Int32
  | 0, _, _, _ => none
  | n + 1, b1, b2, b3 => if 7 ≤ b3 then (some 0) else (if b2 < 0 then (some 0) else (if b2 = b1 then (some 1) else ((rdc 7 (stC 0) b2).bind fun v4 => X3_isUnder_L4 n b1 v4 (b3 + 1))))
def X3_isUnder (a0 : Int32) (a1 : Int32) : Option Int32 := X3_isUnder_L4 FU a1 a0 0
def X3_as (a1 : Int32) (a2 : Int32) (S : St) : Option (Int32 × St) := if (X3_within a1 0 9) = 0 then ((X3_found 0 S).bind fun (r3, S4) => some (r3, S4)) else (if (X3_isKind a2) = 0 then ((X3_found 0 S).bind fun (r18, S19) => some (r18, S19)) else ((rd S 7 10 a1).bind fun v6 => if (X3_isCoin v6 S) = 0 then ((X3_found 5 S).bind fun (r15, S16) => some (r15, S16)) else ((rd S 2 24 v6).bind fun v8 => (X3_isUnder v8 a2).bind fun r9 => if r9 = 0 then ((X3_found 2 S).bind fun (r12, S13) => some (r12, S13)) else (some (v6, S)))))
def X3_isSheet (a0 : Int32) : Int32 := (X3_within a0 0 3)
theorem b01_X3_isSheet (a0 : Int32) : X3_isSheet a0 = 0 ∨ X3_isSheet a0 = 1 := by
  unfold X3_isSheet
  repeat (first | exact Or.inl rfl | exact Or.inr rfl | exact b01_X3_within .. | split)
def X3_isWidth (a0 : Int32) : Int32 := if a0 = 0 then (1) else (if a0 = 8 then (1) else (if a0 = 16 then (1) else (if a0 = 32 then (1) else (0))))
theorem b01_X3_isWidth (a0 : Int32) : X3_isWidth a0 = 0 ∨ X3_isWidth a0 = 1 := by
  unfold X3_isWidth
  repeat (first | exact Or.inl rfl | exact Or.inr rfl | split)
def X3_sheet_L59 (b1 : Int32) (t0 : Int32) (t1 : Int32) (kt2 : Nat) (S : St) : Option (Int32 × St) := (X0_renew t1 t0 (blk S kt2)).bind fun T10 => (some (put S kt2 2 T10)).bind fun S11 => (rdn 4 sht b1).bind fun k12 => some ((S11 k12 2), S11)
def X3_sheet (a1 : Int32) (a2 : Int32) (a3 : Int32) (S : St) : Option (Int32 × St) := if (X3_isSheet a1) = 0 then ((X3_found 0 S).bind fun (r3, S4) => some (r3, S4)) else (if (X3_isWidth a2) = 0 then ((X3_found 0 S).bind fun (r20, S21) => some (r20, S21)) else (if 0 ≤ a3 then (if a3 ≤ 40 then ((rdn 4 sht a1).bind fun k8 => if a2 = 0 then (X3_sheet_L59 a1 0 a2 k8 S) else (X3_sheet_L59 a1 a3 a2 k8 S)) else ((X3_found 0 S).bind fun (r14, S15) => some (r14, S15))) else ((X3_found 6 S).bind fun (r17, S18) => some (r17, S18))))
def X3_write (a1 : Int32) (a2 : Int32) (a3 : Int32) (S : St) : Option (Int32 × St) := if (X3_isSheet a1) = 0 then ((X3_found 0 S).bind fun (r16, S17) => some (r16, S17)) else ((rdn 4 sht a1).bind fun k2 => if (S k2 1) = 0 then ((X3_found 5 S).bind fun (r13, S14) => some (r13, S14)) else ((rdn 4 sht a1).bind fun k4 => if (X3_within a2 0 ((S k4 2) - 1)) = 0 then ((X3_found 0 S).bind fun (r10, S11) => some (r10, S11)) else ((rdn 4 sht a1).bind fun k6 => (X0_put a2 a3 (blk S k6)).bind fun T7 => (some (put S k6 2 T7)).bind fun S8 => some (1, S8))))
def X3_copy (a1 : Int32) (a2 : Int32) (a3 : Int32) (a4 : Int32) (a5 : Int32) (S : St) : Option (Int32 × St) := if (X3_isSheet a1) = 0 then ((X3_found 0 S).bind fun (r3, S4) => some (r3, S4)) else (if (X3_isSheet a3) = 0 then ((X3_found 0 S).bind fun (r34, S35) => some (r34, S35)) else ((rdn 4 sht a1).bind fun k6 => (rdn 4 sht a3).bind fun k7 => if (S k6 1) = 0 then ((X3_found 5 S).bind fun (r10, S11) => some (r10, S11)) else (if (S k7 1) = 0 then ((X3_found 5 S).bind fun (r31, S32) => some (r31, S32)) else (if (S k6 1) = (S k7 1) then (if a5 < 0 then ((X3_found 0 S).bind fun (r16, S17) => some (r16, S17)) else (if (X0_hasFrom a2 a5 (blk S k6)) = 0 then ((X3_found 0 S).bind fun (r20, S21) => some (r20, S21)) else (if (X0_hasFrom a4 a5 (blk S k7)) = 0 then ((X3_found 0 S).bind fun (r25, S26) => some (r25, S26)) else ((acp S (k6 + 1) (k7 + 1) 40 40 a2 a4 a5).bind fun S23 => some (a5, S23))))) else ((X3_found 2 S).bind fun (r28, S29) => some (r28, S29))))))
def X3_load_L35 : Nat → Nat → Int32 → St → Option (Int32 × St)
  | 0, _, _, _ => none
  | n + 1, kb2, b3, S => if (S kb2 2) ≤ b3 then (some (b3, S)) else ((rd S (kb2 + 1) 40 b3).bind fun v5 => (X1_leastInHand (blk S 1)).bind fun r6 => if (X3_isColumn v5) = 0 then (some (b3, S)) else (if r6 < 0 then (some (b3, S)) else (if (X3_passesEnd 1 S) = 0 then ((X1_release r6 v5 (blk S 1)).bind fun T10 => (some (put S 1 7 T10)).bind fun S11 => X3_load_L35 n kb2 (b3 + 1) S11) else (some (b3, S)))))
def X3_load (a1 : Int32) (S : St) : Option (Int32 × St) := if (X3_isSheet a1) = 0 then ((X3_found 0 S).bind fun (r16, S17) => some (r16, S17)) else ((rdn 4 sht a1).bind fun k2 => if (S k2 1) = 0 then ((X3_found 5 S).bind fun (r13, S14) => some (r13, S14)) else (X3_load_L35 FU k2 0 S))
def X3_judge_L63 : Nat → Nat → Int32 → St → Option (Int32 × St)
  | 0, _, _, _ => none
  | n + 1, kb2, b3, S => if (S kb2 2) ≤ b3 then (some (0, S)) else ((X1_goneOver (blk S 15)).bind fun r7 => (X1_advance 1 (blk S 15)).bind fun T8 => (some (put S 15 7 T8)).bind fun S9 => (X1_goneOver (blk S9 15)).bind fun r10 => (rd S9 (kb2 + 1) 40 b3).bind fun v11 => if (r10 - r7) = v11 then (X3_judge_L63 n kb2 (b3 + 1) S9) else (some ((1 + b3), S9)))
def X3_judge (a1 : Int32) (S : St) : Option (Int32 × St) := if (X3_isSheet a1) = 0 then ((X3_found 0 S).bind fun (r20, S21) => some (r20, S21)) else ((rdn 4 sht a1).bind fun k2 => if (S k2 1) = 0 then ((X3_found 5 S).bind fun (r17, S18) => some (r17, S18)) else (if (X3_passesEnd (S k2 2) S) = 0 then ((some (put S 15 7 (blk S 1))).bind fun S5 => X3_judge_L63 FU k2 0 S5) else ((X3_found 4 S).bind fun (r14, S15) => some (r14, S15))))
def X3_image (S : St) : Option (Int32 × St) := (some (put S 8 7 (blk S 1))).bind fun S1 => (some (ups S1 0 2 1)).bind fun S2 => some (1, S2)
def X3_undo (S : St) : Option (Int32 × St) := if (S 0 2) = 0 then ((X3_found 3 S).bind fun (r4, S5) => some (r4, S5)) else ((some (put S 1 7 (blk S 8))).bind fun S2 => some ((S2 1 7), S2))
def X3_tear (S : St) : Option (Int32 × St) := if (S 0 2) = 0 then ((some (ups S 0 2 0)).bind fun S2 => some (0, S2)) else ((some (ups S 0 2 0)).bind fun S3 => some (1, S3))
def X3_count (a1 : Int32) (S : St) : Option (Int32 × St) := if a1 = 0 then (some ((S 1 7), S)) else (if a1 = 1 then (some ((S 1 6), S)) else (if a1 = 2 then ((X1_bitsOnShelf (blk S 1)).bind fun r4 => some ((J6_bitCount_0f7a4 r4), S)) else (if a1 = 3 then ((X1_bitsOnShelf (blk S 1)).bind fun r6 => (X1_worthOf r6 (blk S 1)).bind fun r7 => some (r7, S)) else (if a1 = 4 then ((X1_manyStacks (blk S 1)).bind fun r9 => some (r9, S)) else (if a1 = 5 then (some ((S 23 1), S)) else (if a1 = 6 then (some ((S 1 9), S)) else (if a1 = 7 then ((X1_manySpotsHeld (blk S 1)).bind fun r13 => some (r13, S)) else ((X3_found 0 S).bind fun (r15, S16) => some (r15, S16)))))))))
def X3_status_L31 : Nat → Int32 → Int32 → St → Option (Int32 × St)
  | 0, _, _, _ => none
  | n + 1, b2, b3, S => if 7 ≤ b3 then (some (b2, S)) else ((rd S 26 7 b3).bind fun v4 => X3_status_L31 n (b2 + v4) (b3 + 1) S)
def X3_status (a1 : Int32) (S : St) : Option (Int32 × St) := if (X3_within a1 (-1) 6) = 0 then ((X3_found 0 S).bind fun (r7, S8) => some (r7, S8)) else (if a1 < 0 then (X3_status_L31 FU 0 0 S) else ((rd S 26 7 a1).bind fun v5 => some (v5, S)))
end
