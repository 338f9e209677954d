/-! the words of the tables, each by its place -/
def ALLW : List Cond := lw_tbl.filter goodWord
theorem ALLW_lw : ∀ w ∈ ALLW, w ∈ lw_tbl := fun _ h => (List.mem_filter.mp h).1
theorem ALLW_in {w : Cond} (h : w ∈ lw_tbl) (hg : goodWord w = true) : w ∈ ALLW := List.mem_filter.mpr ⟨h, hg⟩
theorem inT1 {w : Cond} (h : w ∈ tables_1_1) (hg : goodWord w = true) : w ∈ ALLW := ALLW_in (List.mem_append_right _ (List.mem_append_left _ h)) hg
theorem inT2 {w : Cond} (h : w ∈ tables_1_2) (hg : goodWord w = true) : w ∈ ALLW := ALLW_in (List.mem_append_right _ (List.mem_append_right _ (List.mem_append_left _ h))) hg
theorem inT3 {w : Cond} (h : w ∈ tables_1_3) (hg : goodWord w = true) : w ∈ ALLW := ALLW_in (List.mem_append_right _ (List.mem_append_right _ (List.mem_append_right _ (List.mem_append_left _ h)))) hg
theorem inT4 {w : Cond} (h : w ∈ tables_1_4) (hg : goodWord w = true) : w ∈ ALLW := ALLW_in (List.mem_append_right _ (List.mem_append_right _ (List.mem_append_right _ (List.mem_append_right _ (List.mem_append_left _ h))))) hg
theorem inT5 {w : Cond} (h : w ∈ tables_1_5) (hg : goodWord w = true) : w ∈ ALLW := ALLW_in (List.mem_append_right _ (List.mem_append_right _ (List.mem_append_right _ (List.mem_append_right _ (List.mem_append_right _ (List.mem_append_left _ h)))))) hg
theorem inT6 {w : Cond} (h : w ∈ tables_1_6) (hg : goodWord w = true) : w ∈ ALLW := ALLW_in (List.mem_append_right _ (List.mem_append_right _ (List.mem_append_right _ (List.mem_append_right _ (List.mem_append_right _ (List.mem_append_right _ (h))))))) hg
theorem inV1 {w : MethodName × Nat} (h : w ∈ lw_privs_1) : Cond.selects w.1.cls w.1 w.1 ∈ ALLW := ALLW_in (List.mem_append_left _ (List.mem_map.mpr ⟨w, List.mem_append_left _ h, rfl⟩)) rfl
theorem inV2 {w : MethodName × Nat} (h : w ∈ lw_privs_2) : Cond.selects w.1.cls w.1 w.1 ∈ ALLW := ALLW_in (List.mem_append_left _ (List.mem_map.mpr ⟨w, List.mem_append_right _ (List.mem_append_left _ h), rfl⟩)) rfl
theorem inV3 {w : MethodName × Nat} (h : w ∈ lw_privs_3) : Cond.selects w.1.cls w.1 w.1 ∈ ALLW := ALLW_in (List.mem_append_left _ (List.mem_map.mpr ⟨w, List.mem_append_right _ (List.mem_append_right _ (List.mem_append_left _ h)), rfl⟩)) rfl
theorem inV4 {w : MethodName × Nat} (h : w ∈ lw_privs_4) : Cond.selects w.1.cls w.1 w.1 ∈ ALLW := ALLW_in (List.mem_append_left _ (List.mem_map.mpr ⟨w, List.mem_append_right _ (List.mem_append_right _ (List.mem_append_right _ (List.mem_append_left _ h))), rfl⟩)) rfl
theorem inV5 {w : MethodName × Nat} (h : w ∈ lw_privs_5) : Cond.selects w.1.cls w.1 w.1 ∈ ALLW := ALLW_in (List.mem_append_left _ (List.mem_map.mpr ⟨w, List.mem_append_right _ (List.mem_append_right _ (List.mem_append_right _ (List.mem_append_right _ (h)))), rfl⟩)) rfl
theorem qn_L : Cond.initialized RL ∈ ALLW := inT1 (List.mem_of_getElem? (i := 0) rfl) rfl
theorem qn_X3 : Cond.initialized RX3 ∈ ALLW := inT1 (List.mem_of_getElem? (i := 1) rfl) rfl
theorem qn_X1 : Cond.initialized RX1 ∈ ALLW := inT1 (List.mem_of_getElem? (i := 2) rfl) rfl
theorem qn_X2 : Cond.initialized RX2 ∈ ALLW := inT1 (List.mem_of_getElem? (i := 3) rfl) rfl
theorem qn_X0 : Cond.initialized RX0 ∈ ALLW := inT1 (List.mem_of_getElem? (i := 4) rfl) rfl
theorem qn_X4 : Cond.initialized RX4 ∈ ALLW := inT1 (List.mem_of_getElem? (i := 5) rfl) rfl
theorem qn_J6 : Cond.initialized RJ6 ∈ ALLW := inT1 (List.mem_of_getElem? (i := 6) rfl) rfl
theorem qn_J10 : Cond.initialized RJ10 ∈ ALLW := inT1 (List.mem_of_getElem? (i := 7) rfl) rfl
theorem qn_J9 : Cond.initialized RJ9 ∈ ALLW := inT1 (List.mem_of_getElem? (i := 8) rfl) rfl
theorem qn_J0 : Cond.initialized RJ0 ∈ ALLW := inT1 (List.mem_of_getElem? (i := 9) rfl) rfl
theorem qn_J1 : Cond.initialized RJ1 ∈ ALLW := inT1 (List.mem_of_getElem? (i := 10) rfl) rfl
theorem qn_J3 : Cond.initialized RJ3 ∈ ALLW := inT1 (List.mem_of_getElem? (i := 11) rfl) rfl
theorem qn_J2 : Cond.initialized RJ2 ∈ ALLW := inT1 (List.mem_of_getElem? (i := 12) rfl) rfl
theorem ql_L_7 : Cond.classLink RL 7 RX3 ∈ ALLW := inT1 (List.mem_of_getElem? (i := 13) rfl) rfl
theorem qa_X3 : Cond.instantiable RX3 8 ∈ ALLW := inT1 (List.mem_of_getElem? (i := 14) rfl) rfl
theorem qm_L_9 : Cond.methodLink RL 9 yX3_init ∈ ALLW := inT1 (List.mem_of_getElem? (i := 15) rfl) rfl
theorem qi_X3_init : Cond.instanceMethod yX3_init ∈ ALLW := inT1 (List.mem_of_getElem? (i := 16) rfl) rfl
theorem qc_X3_init : Cond.code yX3_init cX3_init 2 none ∈ ALLW := inT1 (List.mem_of_getElem? (i := 17) rfl) rfl
theorem qm_X3_3 : Cond.methodLink RX3 3 objectInit ∈ ALLW := inT1 (List.mem_of_getElem? (i := 18) rfl) rfl
theorem qi_objectInit : Cond.instanceMethod objectInit ∈ ALLW := inT1 (List.mem_of_getElem? (i := 19) rfl) rfl
theorem qc_objectInit : Cond.code objectInit ⟨#[0xb1]⟩ 1 none ∈ ALLW := inT1 (List.mem_of_getElem? (i := 20) rfl) rfl
theorem ql_X3_9 : Cond.classLink RX3 9 RX1 ∈ ALLW := inT1 (List.mem_of_getElem? (i := 21) rfl) rfl
theorem qa_X1 : Cond.instantiable RX1 10 ∈ ALLW := inT1 (List.mem_of_getElem? (i := 22) rfl) rfl
theorem qm_X3_11 : Cond.methodLink RX3 11 yX1_init ∈ ALLW := inT1 (List.mem_of_getElem? (i := 23) rfl) rfl
theorem qi_X1_init : Cond.instanceMethod yX1_init ∈ ALLW := inT1 (List.mem_of_getElem? (i := 24) rfl) rfl
theorem qc_X1_init : Cond.code yX1_init cX1_init 2 none ∈ ALLW := inT1 (List.mem_of_getElem? (i := 25) rfl) rfl
theorem qm_X1_3 : Cond.methodLink RX1 3 objectInit ∈ ALLW := inT1 (List.mem_of_getElem? (i := 26) rfl) rfl
theorem qf_X1_9 : Cond.fieldLink RX1 9 "PennyLedge$Shelf" "kinds" "[I" ∈ ALLW := inT1 (List.mem_of_getElem? (i := 27) rfl) rfl
theorem qf_X3_70 : Cond.fieldLink RX3 70 "PennyLedge$Shelf" "kinds" "[I" ∈ ALLW := inT1 (List.mem_of_getElem? (i := 28) rfl) rfl
theorem qf_X1_15 : Cond.fieldLink RX1 15 "PennyLedge$Shelf" "places" "[I" ∈ ALLW := inT1 (List.mem_of_getElem? (i := 29) rfl) rfl
theorem qf_X3_92 : Cond.fieldLink RX3 92 "PennyLedge$Shelf" "places" "[I" ∈ ALLW := inT1 (List.mem_of_getElem? (i := 30) rfl) rfl
theorem qf_X1_18 : Cond.fieldLink RX1 18 "PennyLedge$Shelf" "heights" "[I" ∈ ALLW := inT1 (List.mem_of_getElem? (i := 31) rfl) rfl
theorem qf_X3_106 : Cond.fieldLink RX3 106 "PennyLedge$Shelf" "heights" "[I" ∈ ALLW := inT1 (List.mem_of_getElem? (i := 32) rfl) rfl
theorem qf_X1_21 : Cond.fieldLink RX1 21 "PennyLedge$Shelf" "stacks" "[I" ∈ ALLW := inT1 (List.mem_of_getElem? (i := 33) rfl) rfl
theorem qf_X3_112 : Cond.fieldLink RX3 112 "PennyLedge$Shelf" "stacks" "[I" ∈ ALLW := inT1 (List.mem_of_getElem? (i := 34) rfl) rfl
theorem qf_X1_24 : Cond.fieldLink RX1 24 "PennyLedge$Shelf" "settings" "[I" ∈ ALLW := inT1 (List.mem_of_getElem? (i := 35) rfl) rfl
theorem qf_X3_118 : Cond.fieldLink RX3 118 "PennyLedge$Shelf" "settings" "[I" ∈ ALLW := inT1 (List.mem_of_getElem? (i := 36) rfl) rfl
theorem qf_X1_27 : Cond.fieldLink RX1 27 "PennyLedge$Shelf" "spots" "[I" ∈ ALLW := inT1 (List.mem_of_getElem? (i := 37) rfl) rfl
theorem qf_X3_242 : Cond.fieldLink RX3 242 "PennyLedge$Shelf" "spots" "[I" ∈ ALLW := inT1 (List.mem_of_getElem? (i := 38) rfl) rfl
theorem qf_X1_30 : Cond.fieldLink RX1 30 "PennyLedge$Shelf" "coins" "I" ∈ ALLW := inT1 (List.mem_of_getElem? (i := 39) rfl) rfl
theorem qf_X3_56 : Cond.fieldLink RX3 56 "PennyLedge$Shelf" "coins" "I" ∈ ALLW := inT1 (List.mem_of_getElem? (i := 40) rfl) rfl
theorem qf_X1_34 : Cond.fieldLink RX1 34 "PennyLedge$Shelf" "beat" "I" ∈ ALLW := inT1 (List.mem_of_getElem? (i := 41) rfl) rfl
theorem qf_X3_141 : Cond.fieldLink RX3 141 "PennyLedge$Shelf" "beat" "I" ∈ ALLW := inT1 (List.mem_of_getElem? (i := 42) rfl) rfl
theorem qf_X1_37 : Cond.fieldLink RX1 37 "PennyLedge$Shelf" "dropped" "I" ∈ ALLW := inT1 (List.mem_of_getElem? (i := 43) rfl) rfl
theorem qf_X3_147 : Cond.fieldLink RX3 147 "PennyLedge$Shelf" "dropped" "I" ∈ ALLW := inT1 (List.mem_of_getElem? (i := 44) rfl) rfl
theorem qf_X1_40 : Cond.fieldLink RX1 40 "PennyLedge$Shelf" "z" "I" ∈ ALLW := inT1 (List.mem_of_getElem? (i := 45) rfl) rfl
theorem qf_X3_229 : Cond.fieldLink RX3 229 "PennyLedge$Shelf" "z" "I" ∈ ALLW := inT1 (List.mem_of_getElem? (i := 46) rfl) rfl
theorem ql_X3_30 : Cond.classLink RX3 30 RX2 ∈ ALLW := inT1 (List.mem_of_getElem? (i := 70) rfl) rfl
theorem qa_X2 : Cond.instantiable RX2 6 ∈ ALLW := inT1 (List.mem_of_getElem? (i := 71) rfl) rfl
theorem qm_X3_32 : Cond.methodLink RX3 32 yX2_init ∈ ALLW := inT1 (List.mem_of_getElem? (i := 72) rfl) rfl
theorem qi_X2_init : Cond.instanceMethod yX2_init ∈ ALLW := inT1 (List.mem_of_getElem? (i := 73) rfl) rfl
theorem qc_X2_init : Cond.code yX2_init cX2_init 1 none ∈ ALLW := inT1 (List.mem_of_getElem? (i := 74) rfl) rfl
theorem qm_X2_3 : Cond.methodLink RX2 3 objectInit ∈ ALLW := inT1 (List.mem_of_getElem? (i := 75) rfl) rfl
theorem qf_X2_9 : Cond.fieldLink RX2 9 "PennyLedge$Tape" "bytes" "[I" ∈ ALLW := inT1 (List.mem_of_getElem? (i := 76) rfl) rfl
theorem qf_X2_15 : Cond.fieldLink RX2 15 "PennyLedge$Tape" "length" "I" ∈ ALLW := inT1 (List.mem_of_getElem? (i := 77) rfl) rfl
theorem qf_X3_232 : Cond.fieldLink RX3 232 "PennyLedge$Tape" "length" "I" ∈ ALLW := inT1 (List.mem_of_getElem? (i := 78) rfl) rfl
theorem qf_X2_19 : Cond.fieldLink RX2 19 "PennyLedge$Tape" "token" "I" ∈ ALLW := inT1 (List.mem_of_getElem? (i := 79) rfl) rfl
theorem qf_X3_307 : Cond.fieldLink RX3 307 "PennyLedge$Tape" "token" "I" ∈ ALLW := inT1 (List.mem_of_getElem? (i := 80) rfl) rfl
theorem qf_X2_22 : Cond.fieldLink RX2 22 "PennyLedge$Tape" "start" "I" ∈ ALLW := inT1 (List.mem_of_getElem? (i := 81) rfl) rfl
theorem qf_X3_304 : Cond.fieldLink RX3 304 "PennyLedge$Tape" "start" "I" ∈ ALLW := inT1 (List.mem_of_getElem? (i := 82) rfl) rfl
theorem qf_X2_25 : Cond.fieldLink RX2 25 "PennyLedge$Tape" "behind" "I" ∈ ALLW := inT1 (List.mem_of_getElem? (i := 83) rfl) rfl
theorem qf_X2_28 : Cond.fieldLink RX2 28 "PennyLedge$Tape" "value" "I" ∈ ALLW := inT1 (List.mem_of_getElem? (i := 84) rfl) rfl
theorem qf_X3_330 : Cond.fieldLink RX3 330 "PennyLedge$Tape" "value" "I" ∈ ALLW := inT1 (List.mem_of_getElem? (i := 85) rfl) rfl
theorem ql_X3_37 : Cond.classLink RX3 37 RX0 ∈ ALLW := inT1 (List.mem_of_getElem? (i := 99) rfl) rfl
theorem qa_X0 : Cond.instantiable RX0 3 ∈ ALLW := inT1 (List.mem_of_getElem? (i := 101) rfl) rfl
theorem qm_X3_47 : Cond.methodLink RX3 47 yX0_init ∈ ALLW := inT1 (List.mem_of_getElem? (i := 102) rfl) rfl
theorem qi_X0_init : Cond.instanceMethod yX0_init ∈ ALLW := inT1 (List.mem_of_getElem? (i := 103) rfl) rfl
theorem qc_X0_init : Cond.code yX0_init cX0_init 1 none ∈ ALLW := inT1 (List.mem_of_getElem? (i := 104) rfl) rfl
theorem qm_X0_3 : Cond.methodLink RX0 3 objectInit ∈ ALLW := inT1 (List.mem_of_getElem? (i := 105) rfl) rfl
theorem qf_X0_9 : Cond.fieldLink RX0 9 "PennyLedge$Sheet" "numbers" "[I" ∈ ALLW := inT1 (List.mem_of_getElem? (i := 106) rfl) rfl
theorem qf_X3_267 : Cond.fieldLink RX3 267 "PennyLedge$Sheet" "numbers" "[I" ∈ ALLW := inT1 (List.mem_of_getElem? (i := 107) rfl) rfl
theorem qf_X0_15 : Cond.fieldLink RX0 15 "PennyLedge$Sheet" "bits" "I" ∈ ALLW := inT1 (List.mem_of_getElem? (i := 108) rfl) rfl
theorem qf_X3_260 : Cond.fieldLink RX3 260 "PennyLedge$Sheet" "bits" "I" ∈ ALLW := inT1 (List.mem_of_getElem? (i := 109) rfl) rfl
theorem qf_X0_19 : Cond.fieldLink RX0 19 "PennyLedge$Sheet" "size" "I" ∈ ALLW := inT1 (List.mem_of_getElem? (i := 110) rfl) rfl
theorem qf_X3_257 : Cond.fieldLink RX3 257 "PennyLedge$Sheet" "size" "I" ∈ ALLW := inT1 (List.mem_of_getElem? (i := 111) rfl) rfl
theorem qf_X3_12 : Cond.fieldLink RX3 12 "PennyLedge" "shelf" "LPennyLedge$Shelf;" ∈ ALLW := inT1 (List.mem_of_getElem? (i := 119) rfl) rfl
theorem qf_X3_16 : Cond.fieldLink RX3 16 "PennyLedge" "kept" "LPennyLedge$Shelf;" ∈ ALLW := inT1 (List.mem_of_getElem? (i := 120) rfl) rfl
theorem qf_X3_19 : Cond.fieldLink RX3 19 "PennyLedge" "isKept" "Z" ∈ ALLW := inT1 (List.mem_of_getElem? (i := 121) rfl) rfl
theorem qf_X3_23 : Cond.fieldLink RX3 23 "PennyLedge" "trial" "LPennyLedge$Shelf;" ∈ ALLW := inT1 (List.mem_of_getElem? (i := 122) rfl) rfl
theorem qf_X3_26 : Cond.fieldLink RX3 26 "PennyLedge" "levels" "[LPennyLedge$Shelf;" ∈ ALLW := inT1 (List.mem_of_getElem? (i := 123) rfl) rfl
theorem qf_X3_33 : Cond.fieldLink RX3 33 "PennyLedge" "tape" "LPennyLedge$Tape;" ∈ ALLW := inT1 (List.mem_of_getElem? (i := 124) rfl) rfl
theorem qf_X3_39 : Cond.fieldLink RX3 39 "PennyLedge" "sheets" "[LPennyLedge$Sheet;" ∈ ALLW := inT1 (List.mem_of_getElem? (i := 125) rfl) rfl
theorem qf_X3_43 : Cond.fieldLink RX3 43 "PennyLedge" "findings" "[I" ∈ ALLW := inT1 (List.mem_of_getElem? (i := 126) rfl) rfl
theorem qm_L_13 : Cond.methodLink RL 13 yX3_coin ∈ ALLW := inT1 (List.mem_of_getElem? (i := 144) rfl) rfl
theorem qi_X3_coin : Cond.instanceMethod yX3_coin ∈ ALLW := inT1 (List.mem_of_getElem? (i := 145) rfl) rfl
theorem qs_X3_coin : Cond.selects RX3 yX3_coin yX3_coin ∈ ALLW := inT1 (List.mem_of_getElem? (i := 146) rfl) rfl
theorem qc_X3_coin : Cond.code yX3_coin cX3_coin 2 (some .int) ∈ ALLW := inT1 (List.mem_of_getElem? (i := 147) rfl) rfl
theorem qm_X3_48 : Cond.methodLink RX3 48 yX3_isKind ∈ ALLW := inT1 (List.mem_of_getElem? (i := 148) rfl) rfl
theorem qs_X3_isKind : Cond.static yX3_isKind ∈ ALLW := inT1 (List.mem_of_getElem? (i := 149) rfl) rfl
theorem qc_X3_isKind : Cond.code yX3_isKind cX3_isKind 1 (some .boolean) ∈ ALLW := inT1 (List.mem_of_getElem? (i := 150) rfl) rfl
theorem qm_X3_66 : Cond.methodLink RX3 66 yX3_within ∈ ALLW := inT1 (List.mem_of_getElem? (i := 151) rfl) rfl
theorem qs_X3_within : Cond.static yX3_within ∈ ALLW := inT1 (List.mem_of_getElem? (i := 152) rfl) rfl
theorem qc_X3_within : Cond.code yX3_within cX3_within 3 (some .boolean) ∈ ALLW := inT1 (List.mem_of_getElem? (i := 153) rfl) rfl
theorem qm_X3_52 : Cond.methodLink RX3 52 yX3_found ∈ ALLW := inT1 (List.mem_of_getElem? (i := 154) rfl) rfl
theorem qi_X3_found : Cond.instanceMethod yX3_found ∈ ALLW := inT1 (List.mem_of_getElem? (i := 156) rfl) rfl
theorem qc_X3_found : Cond.code yX3_found cX3_found 2 (some .int) ∈ ALLW := inT1 (List.mem_of_getElem? (i := 157) rfl) rfl
theorem qk_X3_290 : Cond.constant RX3 290 (-1000001) ∈ ALLW := inT1 (List.mem_of_getElem? (i := 158) rfl) rfl
theorem qm_X3_60 : Cond.methodLink RX3 60 yX1_mint ∈ ALLW := inT1 (List.mem_of_getElem? (i := 159) rfl) rfl
theorem qi_X1_mint : Cond.instanceMethod yX1_mint ∈ ALLW := inT1 (List.mem_of_getElem? (i := 160) rfl) rfl
theorem qs_X1_mint : Cond.selects RX1 yX1_mint yX1_mint ∈ ALLW := inT1 (List.mem_of_getElem? (i := 161) rfl) rfl
theorem qc_X1_mint : Cond.code yX1_mint cX1_mint 3 (some .int) ∈ ALLW := inT1 (List.mem_of_getElem? (i := 162) rfl) rfl
theorem qm_L_18 : Cond.methodLink RL 18 yX3_of ∈ ALLW := inT1 (List.mem_of_getElem? (i := 163) rfl) rfl
theorem qi_X3_of : Cond.instanceMethod yX3_of ∈ ALLW := inT1 (List.mem_of_getElem? (i := 164) rfl) rfl
theorem qs_X3_of : Cond.selects RX3 yX3_of yX3_of ∈ ALLW := inT1 (List.mem_of_getElem? (i := 165) rfl) rfl
theorem qc_X3_of : Cond.code yX3_of cX3_of 4 (some .int) ∈ ALLW := inT1 (List.mem_of_getElem? (i := 166) rfl) rfl
theorem qm_X3_63 : Cond.methodLink RX3 63 yX3_isCoin ∈ ALLW := inT1 (List.mem_of_getElem? (i := 167) rfl) rfl
theorem qi_X3_isCoin : Cond.instanceMethod yX3_isCoin ∈ ALLW := inT1 (List.mem_of_getElem? (i := 169) rfl) rfl
theorem qc_X3_isCoin : Cond.code yX3_isCoin cX3_isCoin 2 (some .boolean) ∈ ALLW := inT1 (List.mem_of_getElem? (i := 170) rfl) rfl
theorem qm_X3_73 : Cond.methodLink RX3 73 yX1_toldPlace ∈ ALLW := inT1 (List.mem_of_getElem? (i := 171) rfl) rfl
theorem qi_X1_toldPlace : Cond.instanceMethod yX1_toldPlace ∈ ALLW := inT1 (List.mem_of_getElem? (i := 172) rfl) rfl
theorem qs_X1_toldPlace : Cond.selects RX1 yX1_toldPlace yX1_toldPlace ∈ ALLW := inT1 (List.mem_of_getElem? (i := 173) rfl) rfl
theorem qc_X1_toldPlace : Cond.code yX1_toldPlace cX1_toldPlace 3 (some .int) ∈ ALLW := inT1 (List.mem_of_getElem? (i := 174) rfl) rfl
theorem qm_X1_49 : Cond.methodLink RX1 49 yX1_isOnShelf ∈ ALLW := inT1 (List.mem_of_getElem? (i := 175) rfl) rfl
theorem qi_X1_isOnShelf : Cond.instanceMethod yX1_isOnShelf ∈ ALLW := inT1 (List.mem_of_getElem? (i := 176) rfl) rfl
theorem qs_X1_isOnShelf : Cond.selects RX1 yX1_isOnShelf yX1_isOnShelf ∈ ALLW := inT1 (List.mem_of_getElem? (i := 177) rfl) rfl
theorem qc_X1_isOnShelf : Cond.code yX1_isOnShelf cX1_isOnShelf 2 (some .boolean) ∈ ALLW := inT1 (List.mem_of_getElem? (i := 178) rfl) rfl
theorem qm_X3_76 : Cond.methodLink RX3 76 yX1_depthOf ∈ ALLW := inT1 (List.mem_of_getElem? (i := 179) rfl) rfl
theorem qi_X1_depthOf : Cond.instanceMethod yX1_depthOf ∈ ALLW := inT1 (List.mem_of_getElem? (i := 180) rfl) rfl
theorem qs_X1_depthOf : Cond.selects RX1 yX1_depthOf yX1_depthOf ∈ ALLW := inT1 (List.mem_of_getElem? (i := 181) rfl) rfl
theorem qc_X1_depthOf : Cond.code yX1_depthOf cX1_depthOf 4 (some .int) ∈ ALLW := inT1 (List.mem_of_getElem? (i := 182) rfl) rfl
theorem qf_X3_79 : Cond.fieldLink RX3 79 "PennyLedge" "WORTH" "[I" ∈ ALLW := inT1 (List.mem_of_getElem? (i := 183) rfl) rfl
theorem qf_X3_82 : Cond.fieldLink RX3 82 "PennyLedge" "WEIGHS" "[I" ∈ ALLW := inT1 (List.mem_of_getElem? (i := 185) rfl) rfl
theorem qf_X3_85 : Cond.fieldLink RX3 85 "PennyLedge" "SLIDES" "[I" ∈ ALLW := inT1 (List.mem_of_getElem? (i := 187) rfl) rfl
theorem qm_L_23 : Cond.methodLink RL 23 yX3_change ∈ ALLW := inT1 (List.mem_of_getElem? (i := 189) rfl) rfl
theorem qi_X3_change : Cond.instanceMethod yX3_change ∈ ALLW := inT1 (List.mem_of_getElem? (i := 190) rfl) rfl
theorem qs_X3_change : Cond.selects RX3 yX3_change yX3_change ∈ ALLW := inT1 (List.mem_of_getElem? (i := 191) rfl) rfl
theorem qc_X3_change : Cond.code yX3_change cX3_change 4 (some .int) ∈ ALLW := inT1 (List.mem_of_getElem? (i := 192) rfl) rfl
theorem qm_L_27 : Cond.methodLink RL 27 yX3_lay ∈ ALLW := inT1 (List.mem_of_getElem? (i := 193) rfl) rfl
theorem qi_X3_lay : Cond.instanceMethod yX3_lay ∈ ALLW := inT1 (List.mem_of_getElem? (i := 194) rfl) rfl
theorem qs_X3_lay : Cond.selects RX3 yX3_lay yX3_lay ∈ ALLW := inT1 (List.mem_of_getElem? (i := 195) rfl) rfl
theorem qc_X3_lay : Cond.code yX3_lay cX3_lay 5 (some .int) ∈ ALLW := inT1 (List.mem_of_getElem? (i := 196) rfl) rfl
theorem qm_X3_88 : Cond.methodLink RX3 88 yX3_isCell ∈ ALLW := inT1 (List.mem_of_getElem? (i := 197) rfl) rfl
theorem qs_X3_isCell : Cond.static yX3_isCell ∈ ALLW := inT1 (List.mem_of_getElem? (i := 198) rfl) rfl
theorem qc_X3_isCell : Cond.code yX3_isCell cX3_isCell 2 (some .boolean) ∈ ALLW := inT1 (List.mem_of_getElem? (i := 199) rfl) rfl
theorem qm_X3_121 : Cond.methodLink RX3 121 yX3_isColumn ∈ ALLW := inT1 (List.mem_of_getElem? (i := 200) rfl) rfl
theorem qs_X3_isColumn : Cond.static yX3_isColumn ∈ ALLW := inT1 (List.mem_of_getElem? (i := 201) rfl) rfl
theorem qc_X3_isColumn : Cond.code yX3_isColumn cX3_isColumn 1 (some .boolean) ∈ ALLW := inT1 (List.mem_of_getElem? (i := 202) rfl) rfl
theorem qm_X3_95 : Cond.methodLink RX3 95 yX3_cellOf ∈ ALLW := inT1 (List.mem_of_getElem? (i := 203) rfl) rfl
theorem qs_X3_cellOf : Cond.static yX3_cellOf ∈ ALLW := inT1 (List.mem_of_getElem? (i := 204) rfl) rfl
theorem qc_X3_cellOf : Cond.code yX3_cellOf cX3_cellOf 2 (some .int) ∈ ALLW := inT1 (List.mem_of_getElem? (i := 205) rfl) rfl
theorem qm_X3_99 : Cond.methodLink RX3 99 yX1_hasRoom ∈ ALLW := inT1 (List.mem_of_getElem? (i := 206) rfl) rfl
theorem qi_X1_hasRoom : Cond.instanceMethod yX1_hasRoom ∈ ALLW := inT1 (List.mem_of_getElem? (i := 207) rfl) rfl
theorem qs_X1_hasRoom : Cond.selects RX1 yX1_hasRoom yX1_hasRoom ∈ ALLW := inT1 (List.mem_of_getElem? (i := 208) rfl) rfl
theorem qc_X1_hasRoom : Cond.code yX1_hasRoom cX1_hasRoom 2 (some .boolean) ∈ ALLW := inT1 (List.mem_of_getElem? (i := 209) rfl) rfl
theorem qm_X3_102 : Cond.methodLink RX3 102 yX1_put ∈ ALLW := inT1 (List.mem_of_getElem? (i := 210) rfl) rfl
theorem qi_X1_put : Cond.instanceMethod yX1_put ∈ ALLW := inT1 (List.mem_of_getElem? (i := 211) rfl) rfl
theorem qs_X1_put : Cond.selects RX1 yX1_put yX1_put ∈ ALLW := inT1 (List.mem_of_getElem? (i := 212) rfl) rfl
theorem qc_X1_put : Cond.code yX1_put cX1_put 3 none ∈ ALLW := inT1 (List.mem_of_getElem? (i := 213) rfl) rfl
theorem qm_L_32 : Cond.methodLink RL 32 yX3_lift ∈ ALLW := inT1 (List.mem_of_getElem? (i := 214) rfl) rfl
theorem qi_X3_lift : Cond.instanceMethod yX3_lift ∈ ALLW := inT1 (List.mem_of_getElem? (i := 215) rfl) rfl
theorem qs_X3_lift : Cond.selects RX3 yX3_lift yX3_lift ∈ ALLW := inT1 (List.mem_of_getElem? (i := 216) rfl) rfl
theorem qc_X3_lift : Cond.code yX3_lift cX3_lift 4 (some .int) ∈ ALLW := inT1 (List.mem_of_getElem? (i := 217) rfl) rfl
theorem qm_X3_109 : Cond.methodLink RX3 109 yX1_pull ∈ ALLW := inT1 (List.mem_of_getElem? (i := 218) rfl) rfl
theorem qi_X1_pull : Cond.instanceMethod yX1_pull ∈ ALLW := inT1 (List.mem_of_getElem? (i := 219) rfl) rfl
theorem qs_X1_pull : Cond.selects RX1 yX1_pull yX1_pull ∈ ALLW := inT1 (List.mem_of_getElem? (i := 220) rfl) rfl
theorem qc_X1_pull : Cond.code yX1_pull cX1_pull 3 (some .int) ∈ ALLW := inT1 (List.mem_of_getElem? (i := 221) rfl) rfl
theorem qm_L_36 : Cond.methodLink RL 36 yX3_height ∈ ALLW := inT1 (List.mem_of_getElem? (i := 222) rfl) rfl
theorem qi_X3_height : Cond.instanceMethod yX3_height ∈ ALLW := inT1 (List.mem_of_getElem? (i := 223) rfl) rfl
theorem qs_X3_height : Cond.selects RX3 yX3_height yX3_height ∈ ALLW := inT1 (List.mem_of_getElem? (i := 224) rfl) rfl
theorem qc_X3_height : Cond.code yX3_height cX3_height 3 (some .int) ∈ ALLW := inT1 (List.mem_of_getElem? (i := 225) rfl) rfl
theorem qm_L_40 : Cond.methodLink RL 40 yX3_seen ∈ ALLW := inT1 (List.mem_of_getElem? (i := 226) rfl) rfl
theorem qi_X3_seen : Cond.instanceMethod yX3_seen ∈ ALLW := inT1 (List.mem_of_getElem? (i := 227) rfl) rfl
theorem qs_X3_seen : Cond.selects RX3 yX3_seen yX3_seen ∈ ALLW := inT1 (List.mem_of_getElem? (i := 228) rfl) rfl
theorem qc_X3_seen : Cond.code yX3_seen cX3_seen 5 (some .int) ∈ ALLW := inT1 (List.mem_of_getElem? (i := 229) rfl) rfl
theorem qm_L_44 : Cond.methodLink RL 44 yX3_set ∈ ALLW := inT1 (List.mem_of_getElem? (i := 230) rfl) rfl
theorem qi_X3_set : Cond.instanceMethod yX3_set ∈ ALLW := inT1 (List.mem_of_getElem? (i := 231) rfl) rfl
theorem qs_X3_set : Cond.selects RX3 yX3_set yX3_set ∈ ALLW := inT1 (List.mem_of_getElem? (i := 232) rfl) rfl
theorem qc_X3_set : Cond.code yX3_set cX3_set 4 (some .int) ∈ ALLW := inT1 (List.mem_of_getElem? (i := 233) rfl) rfl
theorem qm_X3_115 : Cond.methodLink RX3 115 yX3_isSetting ∈ ALLW := inT1 (List.mem_of_getElem? (i := 234) rfl) rfl
theorem qs_X3_isSetting : Cond.static yX3_isSetting ∈ ALLW := inT1 (List.mem_of_getElem? (i := 235) rfl) rfl
theorem qc_X3_isSetting : Cond.code yX3_isSetting cX3_isSetting 2 (some .boolean) ∈ ALLW := inT1 (List.mem_of_getElem? (i := 236) rfl) rfl
theorem qf_X3_223 : Cond.fieldLink RX3 223 "PennyLedge" "LEAST_SETTING" "[I" ∈ ALLW := inT1 (List.mem_of_getElem? (i := 237) rfl) rfl
theorem qf_X3_226 : Cond.fieldLink RX3 226 "PennyLedge" "MOST_SETTING" "[I" ∈ ALLW := inT1 (List.mem_of_getElem? (i := 239) rfl) rfl
theorem qm_L_48 : Cond.methodLink RL 48 yX3_drop ∈ ALLW := inT2 (List.mem_of_getElem? (i := 1) rfl) rfl
theorem qi_X3_drop : Cond.instanceMethod yX3_drop ∈ ALLW := inT2 (List.mem_of_getElem? (i := 2) rfl) rfl
theorem qs_X3_drop : Cond.selects RX3 yX3_drop yX3_drop ∈ ALLW := inT2 (List.mem_of_getElem? (i := 3) rfl) rfl
theorem qc_X3_drop : Cond.code yX3_drop cX3_drop 4 (some .int) ∈ ALLW := inT2 (List.mem_of_getElem? (i := 4) rfl) rfl
theorem qm_X3_124 : Cond.methodLink RX3 124 yX3_passesEnd ∈ ALLW := inT2 (List.mem_of_getElem? (i := 5) rfl) rfl
theorem qi_X3_passesEnd : Cond.instanceMethod yX3_passesEnd ∈ ALLW := inT2 (List.mem_of_getElem? (i := 7) rfl) rfl
theorem qc_X3_passesEnd : Cond.code yX3_passesEnd cX3_passesEnd 2 (some .boolean) ∈ ALLW := inT2 (List.mem_of_getElem? (i := 8) rfl) rfl
theorem qm_X3_127 : Cond.methodLink RX3 127 yX1_gain ∈ ALLW := inT2 (List.mem_of_getElem? (i := 9) rfl) rfl
theorem qi_X1_gain : Cond.instanceMethod yX1_gain ∈ ALLW := inT2 (List.mem_of_getElem? (i := 10) rfl) rfl
theorem qs_X1_gain : Cond.selects RX1 yX1_gain yX1_gain ∈ ALLW := inT2 (List.mem_of_getElem? (i := 11) rfl) rfl
theorem qc_X1_gain : Cond.code yX1_gain cX1_gain 1 (some .int) ∈ ALLW := inT2 (List.mem_of_getElem? (i := 12) rfl) rfl
theorem qm_X1_68 : Cond.methodLink RX1 68 yX1_worthAt ∈ ALLW := inT2 (List.mem_of_getElem? (i := 13) rfl) rfl
theorem qi_X1_worthAt : Cond.instanceMethod yX1_worthAt ∈ ALLW := inT2 (List.mem_of_getElem? (i := 14) rfl) rfl
theorem qs_X1_worthAt : Cond.selects RX1 yX1_worthAt yX1_worthAt ∈ ALLW := inT2 (List.mem_of_getElem? (i := 15) rfl) rfl
theorem qc_X1_worthAt : Cond.code yX1_worthAt cX1_worthAt 2 (some .int) ∈ ALLW := inT2 (List.mem_of_getElem? (i := 16) rfl) rfl
theorem qm_X1_53 : Cond.methodLink RX1 53 yX1_bitsAt ∈ ALLW := inT2 (List.mem_of_getElem? (i := 17) rfl) rfl
theorem qi_X1_bitsAt : Cond.instanceMethod yX1_bitsAt ∈ ALLW := inT2 (List.mem_of_getElem? (i := 18) rfl) rfl
theorem qs_X1_bitsAt : Cond.selects RX1 yX1_bitsAt yX1_bitsAt ∈ ALLW := inT2 (List.mem_of_getElem? (i := 19) rfl) rfl
theorem qc_X1_bitsAt : Cond.code yX1_bitsAt cX1_bitsAt 4 (some .int) ∈ ALLW := inT2 (List.mem_of_getElem? (i := 20) rfl) rfl
theorem qm_X1_57 : Cond.methodLink RX1 57 yX1_worthOf ∈ ALLW := inT2 (List.mem_of_getElem? (i := 21) rfl) rfl
theorem qi_X1_worthOf : Cond.instanceMethod yX1_worthOf ∈ ALLW := inT2 (List.mem_of_getElem? (i := 22) rfl) rfl
theorem qs_X1_worthOf : Cond.selects RX1 yX1_worthOf yX1_worthOf ∈ ALLW := inT2 (List.mem_of_getElem? (i := 23) rfl) rfl
theorem qc_X1_worthOf : Cond.code yX1_worthOf cX1_worthOf 4 (some .int) ∈ ALLW := inT2 (List.mem_of_getElem? (i := 24) rfl) rfl
theorem qm_X3_131 : Cond.methodLink RX3 131 yX1_release ∈ ALLW := inT2 (List.mem_of_getElem? (i := 26) rfl) rfl
theorem qi_X1_release : Cond.instanceMethod yX1_release ∈ ALLW := inT2 (List.mem_of_getElem? (i := 27) rfl) rfl
theorem qs_X1_release : Cond.selects RX1 yX1_release yX1_release ∈ ALLW := inT2 (List.mem_of_getElem? (i := 28) rfl) rfl
theorem qc_X1_release : Cond.code yX1_release cX1_release 4 none ∈ ALLW := inT2 (List.mem_of_getElem? (i := 29) rfl) rfl
theorem qm_X1_96 : Cond.methodLink RX1 96 yX1_put ∈ ALLW := inT2 (List.mem_of_getElem? (i := 30) rfl) rfl
theorem qm_X1_122 : Cond.methodLink RX1 122 yX1_passBeat ∈ ALLW := inT2 (List.mem_of_getElem? (i := 31) rfl) rfl
theorem qi_X1_passBeat : Cond.instanceMethod yX1_passBeat ∈ ALLW := inT2 (List.mem_of_getElem? (i := 32) rfl) rfl
theorem qs_X1_passBeat : Cond.selects RX1 yX1_passBeat yX1_passBeat ∈ ALLW := inT2 (List.mem_of_getElem? (i := 33) rfl) rfl
theorem qc_X1_passBeat : Cond.code yX1_passBeat cX1_passBeat 4 (some .boolean) ∈ ALLW := inT2 (List.mem_of_getElem? (i := 34) rfl) rfl
theorem qm_X1_115 : Cond.methodLink RX1 115 yX1_pushAll ∈ ALLW := inT2 (List.mem_of_getElem? (i := 35) rfl) rfl
theorem qi_X1_pushAll : Cond.instanceMethod yX1_pushAll ∈ ALLW := inT2 (List.mem_of_getElem? (i := 36) rfl) rfl
theorem qs_X1_pushAll : Cond.selects RX1 yX1_pushAll yX1_pushAll ∈ ALLW := inT2 (List.mem_of_getElem? (i := 37) rfl) rfl
theorem qc_X1_pushAll : Cond.code yX1_pushAll cX1_pushAll 3 (some .boolean) ∈ ALLW := inT2 (List.mem_of_getElem? (i := 38) rfl) rfl
theorem qm_X1_102 : Cond.methodLink RX1 102 yX1_pushMoves ∈ ALLW := inT2 (List.mem_of_getElem? (i := 39) rfl) rfl
theorem qi_X1_pushMoves : Cond.instanceMethod yX1_pushMoves ∈ ALLW := inT2 (List.mem_of_getElem? (i := 40) rfl) rfl
theorem qs_X1_pushMoves : Cond.selects RX1 yX1_pushMoves yX1_pushMoves ∈ ALLW := inT2 (List.mem_of_getElem? (i := 41) rfl) rfl
theorem qc_X1_pushMoves : Cond.code yX1_pushMoves cX1_pushMoves 3 (some .boolean) ∈ ALLW := inT2 (List.mem_of_getElem? (i := 42) rfl) rfl
theorem qm_X1_80 : Cond.methodLink RX1 80 yX1_runWeight ∈ ALLW := inT2 (List.mem_of_getElem? (i := 43) rfl) rfl
theorem qi_X1_runWeight : Cond.instanceMethod yX1_runWeight ∈ ALLW := inT2 (List.mem_of_getElem? (i := 44) rfl) rfl
theorem qs_X1_runWeight : Cond.selects RX1 yX1_runWeight yX1_runWeight ∈ ALLW := inT2 (List.mem_of_getElem? (i := 45) rfl) rfl
theorem qc_X1_runWeight : Cond.code yX1_runWeight cX1_runWeight 6 (some .int) ∈ ALLW := inT2 (List.mem_of_getElem? (i := 46) rfl) rfl
theorem qm_X1_105 : Cond.methodLink RX1 105 yX1_pushRun ∈ ALLW := inT2 (List.mem_of_getElem? (i := 48) rfl) rfl
theorem qi_X1_pushRun : Cond.instanceMethod yX1_pushRun ∈ ALLW := inT2 (List.mem_of_getElem? (i := 49) rfl) rfl
theorem qs_X1_pushRun : Cond.selects RX1 yX1_pushRun yX1_pushRun ∈ ALLW := inT2 (List.mem_of_getElem? (i := 50) rfl) rfl
theorem qc_X1_pushRun : Cond.code yX1_pushRun cX1_pushRun 6 none ∈ ALLW := inT2 (List.mem_of_getElem? (i := 51) rfl) rfl
theorem qm_X1_99 : Cond.methodLink RX1 99 yX1_runRows ∈ ALLW := inT2 (List.mem_of_getElem? (i := 52) rfl) rfl
theorem qi_X1_runRows : Cond.instanceMethod yX1_runRows ∈ ALLW := inT2 (List.mem_of_getElem? (i := 53) rfl) rfl
theorem qs_X1_runRows : Cond.selects RX1 yX1_runRows yX1_runRows ∈ ALLW := inT2 (List.mem_of_getElem? (i := 54) rfl) rfl
theorem qc_X1_runRows : Cond.code yX1_runRows cX1_runRows 3 (some .int) ∈ ALLW := inT2 (List.mem_of_getElem? (i := 55) rfl) rfl
theorem qm_X1_92 : Cond.methodLink RX1 92 yX1_goOver ∈ ALLW := inT2 (List.mem_of_getElem? (i := 56) rfl) rfl
theorem qi_X1_goOver : Cond.instanceMethod yX1_goOver ∈ ALLW := inT2 (List.mem_of_getElem? (i := 57) rfl) rfl
theorem qs_X1_goOver : Cond.selects RX1 yX1_goOver yX1_goOver ∈ ALLW := inT2 (List.mem_of_getElem? (i := 58) rfl) rfl
theorem qc_X1_goOver : Cond.code yX1_goOver cX1_goOver 4 none ∈ ALLW := inT2 (List.mem_of_getElem? (i := 59) rfl) rfl
theorem qm_X1_119 : Cond.methodLink RX1 119 yX1_slideAll ∈ ALLW := inT2 (List.mem_of_getElem? (i := 60) rfl) rfl
theorem qi_X1_slideAll : Cond.instanceMethod yX1_slideAll ∈ ALLW := inT2 (List.mem_of_getElem? (i := 61) rfl) rfl
theorem qs_X1_slideAll : Cond.selects RX1 yX1_slideAll yX1_slideAll ∈ ALLW := inT2 (List.mem_of_getElem? (i := 62) rfl) rfl
theorem qc_X1_slideAll : Cond.code yX1_slideAll cX1_slideAll 4 (some .boolean) ∈ ALLW := inT2 (List.mem_of_getElem? (i := 63) rfl) rfl
theorem qm_X1_109 : Cond.methodLink RX1 109 yX1_leans ∈ ALLW := inT2 (List.mem_of_getElem? (i := 64) rfl) rfl
theorem qi_X1_leans : Cond.instanceMethod yX1_leans ∈ ALLW := inT2 (List.mem_of_getElem? (i := 65) rfl) rfl
theorem qs_X1_leans : Cond.selects RX1 yX1_leans yX1_leans ∈ ALLW := inT2 (List.mem_of_getElem? (i := 66) rfl) rfl
theorem qc_X1_leans : Cond.code yX1_leans cX1_leans 4 (some .boolean) ∈ ALLW := inT2 (List.mem_of_getElem? (i := 67) rfl) rfl
theorem qm_X1_83 : Cond.methodLink RX1 83 yX1_topSlides ∈ ALLW := inT2 (List.mem_of_getElem? (i := 68) rfl) rfl
theorem qi_X1_topSlides : Cond.instanceMethod yX1_topSlides ∈ ALLW := inT2 (List.mem_of_getElem? (i := 69) rfl) rfl
theorem qs_X1_topSlides : Cond.selects RX1 yX1_topSlides yX1_topSlides ∈ ALLW := inT2 (List.mem_of_getElem? (i := 70) rfl) rfl
theorem qc_X1_topSlides : Cond.code yX1_topSlides cX1_topSlides 3 (some .boolean) ∈ ALLW := inT2 (List.mem_of_getElem? (i := 71) rfl) rfl
theorem qm_X1_112 : Cond.methodLink RX1 112 yX1_slideTop ∈ ALLW := inT2 (List.mem_of_getElem? (i := 73) rfl) rfl
theorem qi_X1_slideTop : Cond.instanceMethod yX1_slideTop ∈ ALLW := inT2 (List.mem_of_getElem? (i := 74) rfl) rfl
theorem qs_X1_slideTop : Cond.selects RX1 yX1_slideTop yX1_slideTop ∈ ALLW := inT2 (List.mem_of_getElem? (i := 75) rfl) rfl
theorem qc_X1_slideTop : Cond.code yX1_slideTop cX1_slideTop 3 none ∈ ALLW := inT2 (List.mem_of_getElem? (i := 76) rfl) rfl
theorem qm_X1_89 : Cond.methodLink RX1 89 yX1_pull ∈ ALLW := inT2 (List.mem_of_getElem? (i := 77) rfl) rfl
theorem qm_L_52 : Cond.methodLink RL 52 yX3_beats ∈ ALLW := inT2 (List.mem_of_getElem? (i := 78) rfl) rfl
theorem qi_X3_beats : Cond.instanceMethod yX3_beats ∈ ALLW := inT2 (List.mem_of_getElem? (i := 79) rfl) rfl
theorem qs_X3_beats : Cond.selects RX3 yX3_beats yX3_beats ∈ ALLW := inT2 (List.mem_of_getElem? (i := 80) rfl) rfl
theorem qc_X3_beats : Cond.code yX3_beats cX3_beats 3 (some .int) ∈ ALLW := inT2 (List.mem_of_getElem? (i := 81) rfl) rfl
theorem qm_X3_134 : Cond.methodLink RX3 134 yX1_goneOver ∈ ALLW := inT2 (List.mem_of_getElem? (i := 82) rfl) rfl
theorem qi_X1_goneOver : Cond.instanceMethod yX1_goneOver ∈ ALLW := inT2 (List.mem_of_getElem? (i := 83) rfl) rfl
theorem qs_X1_goneOver : Cond.selects RX1 yX1_goneOver yX1_goneOver ∈ ALLW := inT2 (List.mem_of_getElem? (i := 84) rfl) rfl
theorem qc_X1_goneOver : Cond.code yX1_goneOver cX1_goneOver 1 (some .int) ∈ ALLW := inT2 (List.mem_of_getElem? (i := 85) rfl) rfl
theorem qm_X1_63 : Cond.methodLink RX1 63 yJ6_bitCount_0f7a4 ∈ ALLW := inT2 (List.mem_of_getElem? (i := 86) rfl) rfl
theorem qs_J6_bitCount_0f7a4 : Cond.static yJ6_bitCount_0f7a4 ∈ ALLW := inT2 (List.mem_of_getElem? (i := 87) rfl) rfl
theorem qc_J6_bitCount_0f7a4 : Cond.code yJ6_bitCount_0f7a4 cJ6_bitCount_0f7a4 1 (some .int) ∈ ALLW := inT2 (List.mem_of_getElem? (i := 88) rfl) rfl
theorem qk_J6_265 : Cond.constant RJ6 265 (1431655765) ∈ ALLW := inT2 (List.mem_of_getElem? (i := 89) rfl) rfl
theorem qk_J6_266 : Cond.constant RJ6 266 (858993459) ∈ ALLW := inT2 (List.mem_of_getElem? (i := 90) rfl) rfl
theorem qk_J6_267 : Cond.constant RJ6 267 (252645135) ∈ ALLW := inT2 (List.mem_of_getElem? (i := 91) rfl) rfl
theorem qm_X3_137 : Cond.methodLink RX3 137 yX1_advance ∈ ALLW := inT2 (List.mem_of_getElem? (i := 92) rfl) rfl
theorem qi_X1_advance : Cond.instanceMethod yX1_advance ∈ ALLW := inT2 (List.mem_of_getElem? (i := 93) rfl) rfl
theorem qs_X1_advance : Cond.selects RX1 yX1_advance yX1_advance ∈ ALLW := inT2 (List.mem_of_getElem? (i := 94) rfl) rfl
theorem qc_X1_advance : Cond.code yX1_advance cX1_advance 4 none ∈ ALLW := inT2 (List.mem_of_getElem? (i := 95) rfl) rfl
theorem qm_L_56 : Cond.methodLink RL 56 yX3_now ∈ ALLW := inT2 (List.mem_of_getElem? (i := 96) rfl) rfl
theorem qi_X3_now : Cond.instanceMethod yX3_now ∈ ALLW := inT2 (List.mem_of_getElem? (i := 97) rfl) rfl
theorem qs_X3_now : Cond.selects RX3 yX3_now yX3_now ∈ ALLW := inT2 (List.mem_of_getElem? (i := 98) rfl) rfl
theorem qc_X3_now : Cond.code yX3_now cX3_now 2 (some .int) ∈ ALLW := inT2 (List.mem_of_getElem? (i := 99) rfl) rfl
theorem qm_X3_144 : Cond.methodLink RX3 144 yX1_bitsAt ∈ ALLW := inT2 (List.mem_of_getElem? (i := 100) rfl) rfl
theorem qm_X3_150 : Cond.methodLink RX3 150 yX1_worthAt ∈ ALLW := inT2 (List.mem_of_getElem? (i := 101) rfl) rfl
theorem qm_L_60 : Cond.methodLink RL 60 yX3_run ∈ ALLW := inT2 (List.mem_of_getElem? (i := 102) rfl) rfl
theorem qi_X3_run : Cond.instanceMethod yX3_run ∈ ALLW := inT2 (List.mem_of_getElem? (i := 103) rfl) rfl
theorem qs_X3_run : Cond.selects RX3 yX3_run yX3_run ∈ ALLW := inT2 (List.mem_of_getElem? (i := 104) rfl) rfl
theorem qc_X3_run : Cond.code yX3_run cX3_run 2 (some .int) ∈ ALLW := inT2 (List.mem_of_getElem? (i := 105) rfl) rfl
theorem qm_X3_153 : Cond.methodLink RX3 153 yX1_runRows ∈ ALLW := inT2 (List.mem_of_getElem? (i := 106) rfl) rfl
theorem qm_L_64 : Cond.methodLink RL 64 yX3_weight ∈ ALLW := inT2 (List.mem_of_getElem? (i := 107) rfl) rfl
theorem qi_X3_weight : Cond.instanceMethod yX3_weight ∈ ALLW := inT2 (List.mem_of_getElem? (i := 108) rfl) rfl
theorem qs_X3_weight : Cond.selects RX3 yX3_weight yX3_weight ∈ ALLW := inT2 (List.mem_of_getElem? (i := 109) rfl) rfl
theorem qc_X3_weight : Cond.code yX3_weight cX3_weight 2 (some .int) ∈ ALLW := inT2 (List.mem_of_getElem? (i := 110) rfl) rfl
theorem qm_X3_156 : Cond.methodLink RX3 156 yX1_runWeight ∈ ALLW := inT2 (List.mem_of_getElem? (i := 111) rfl) rfl
theorem qm_L_68 : Cond.methodLink RL 68 yX3_moved ∈ ALLW := inT2 (List.mem_of_getElem? (i := 112) rfl) rfl
theorem qi_X3_moved : Cond.instanceMethod yX3_moved ∈ ALLW := inT2 (List.mem_of_getElem? (i := 113) rfl) rfl
theorem qs_X3_moved : Cond.selects RX3 yX3_moved yX3_moved ∈ ALLW := inT2 (List.mem_of_getElem? (i := 114) rfl) rfl
theorem qc_X3_moved : Cond.code yX3_moved cX3_moved 3 (some .int) ∈ ALLW := inT2 (List.mem_of_getElem? (i := 115) rfl) rfl
theorem qm_X3_159 : Cond.methodLink RX3 159 yX1_pushMoves ∈ ALLW := inT2 (List.mem_of_getElem? (i := 116) rfl) rfl
theorem qm_L_73 : Cond.methodLink RL 73 yX3_leaning ∈ ALLW := inT2 (List.mem_of_getElem? (i := 117) rfl) rfl
theorem qi_X3_leaning : Cond.instanceMethod yX3_leaning ∈ ALLW := inT2 (List.mem_of_getElem? (i := 118) rfl) rfl
theorem qs_X3_leaning : Cond.selects RX3 yX3_leaning yX3_leaning ∈ ALLW := inT2 (List.mem_of_getElem? (i := 119) rfl) rfl
theorem qc_X3_leaning : Cond.code yX3_leaning cX3_leaning 3 (some .int) ∈ ALLW := inT2 (List.mem_of_getElem? (i := 120) rfl) rfl
theorem qm_X3_162 : Cond.methodLink RX3 162 yX1_leans ∈ ALLW := inT2 (List.mem_of_getElem? (i := 121) rfl) rfl
theorem qm_L_77 : Cond.methodLink RL 77 yX3_ahead ∈ ALLW := inT2 (List.mem_of_getElem? (i := 122) rfl) rfl
theorem qi_X3_ahead : Cond.instanceMethod yX3_ahead ∈ ALLW := inT2 (List.mem_of_getElem? (i := 123) rfl) rfl
theorem qs_X3_ahead : Cond.selects RX3 yX3_ahead yX3_ahead ∈ ALLW := inT2 (List.mem_of_getElem? (i := 124) rfl) rfl
theorem qc_X3_ahead : Cond.code yX3_ahead cX3_ahead 3 (some .int) ∈ ALLW := inT2 (List.mem_of_getElem? (i := 125) rfl) rfl
theorem qm_X3_165 : Cond.methodLink RX3 165 yX1_become ∈ ALLW := inT2 (List.mem_of_getElem? (i := 126) rfl) rfl
theorem qi_X1_become : Cond.instanceMethod yX1_become ∈ ALLW := inT2 (List.mem_of_getElem? (i := 127) rfl) rfl
theorem qs_X1_become : Cond.selects RX1 yX1_become yX1_become ∈ ALLW := inT2 (List.mem_of_getElem? (i := 128) rfl) rfl
theorem qc_X1_become : Cond.code yX1_become cX1_become 2 none ∈ ALLW := inT2 (List.mem_of_getElem? (i := 129) rfl) rfl
theorem qm_X1_43 : Cond.methodLink RX1 43 arraycopyName ∈ ALLW := inT2 (List.mem_of_getElem? (i := 130) rfl) rfl
theorem qs_arraycopyName : Cond.static arraycopyName ∈ ALLW := inT2 (List.mem_of_getElem? (i := 131) rfl) rfl
theorem qn_arraycopyName : Cond.native arraycopyName ∈ ALLW := inT2 (List.mem_of_getElem? (i := 132) rfl) rfl
theorem qm_X3_169 : Cond.methodLink RX3 169 yX1_bitsOnShelf ∈ ALLW := inT2 (List.mem_of_getElem? (i := 133) rfl) rfl
theorem qi_X1_bitsOnShelf : Cond.instanceMethod yX1_bitsOnShelf ∈ ALLW := inT2 (List.mem_of_getElem? (i := 134) rfl) rfl
theorem qs_X1_bitsOnShelf : Cond.selects RX1 yX1_bitsOnShelf yX1_bitsOnShelf ∈ ALLW := inT2 (List.mem_of_getElem? (i := 135) rfl) rfl
theorem qc_X1_bitsOnShelf : Cond.code yX1_bitsOnShelf cX1_bitsOnShelf 3 (some .int) ∈ ALLW := inT2 (List.mem_of_getElem? (i := 136) rfl) rfl
theorem qm_X3_172 : Cond.methodLink RX3 172 yX1_highest ∈ ALLW := inT2 (List.mem_of_getElem? (i := 137) rfl) rfl
theorem qi_X1_highest : Cond.instanceMethod yX1_highest ∈ ALLW := inT2 (List.mem_of_getElem? (i := 138) rfl) rfl
theorem qs_X1_highest : Cond.selects RX1 yX1_highest yX1_highest ∈ ALLW := inT2 (List.mem_of_getElem? (i := 139) rfl) rfl
theorem qc_X1_highest : Cond.code yX1_highest cX1_highest 3 (some .int) ∈ ALLW := inT2 (List.mem_of_getElem? (i := 140) rfl) rfl
theorem qm_X1_71 : Cond.methodLink RX1 71 yJ9_max_7cf53 ∈ ALLW := inT2 (List.mem_of_getElem? (i := 141) rfl) rfl
theorem qs_J9_max_7cf53 : Cond.static yJ9_max_7cf53 ∈ ALLW := inT2 (List.mem_of_getElem? (i := 142) rfl) rfl
theorem qc_J9_max_7cf53 : Cond.code yJ9_max_7cf53 cJ9_max_7cf53 2 (some .int) ∈ ALLW := inT2 (List.mem_of_getElem? (i := 143) rfl) rfl
theorem qm_L_81 : Cond.methodLink RL 81 yX3_falls ∈ ALLW := inT2 (List.mem_of_getElem? (i := 144) rfl) rfl
theorem qi_X3_falls : Cond.instanceMethod yX3_falls ∈ ALLW := inT2 (List.mem_of_getElem? (i := 145) rfl) rfl
theorem qs_X3_falls : Cond.selects RX3 yX3_falls yX3_falls ∈ ALLW := inT2 (List.mem_of_getElem? (i := 146) rfl) rfl
theorem qc_X3_falls : Cond.code yX3_falls cX3_falls 3 (some .int) ∈ ALLW := inT2 (List.mem_of_getElem? (i := 147) rfl) rfl
theorem qm_X3_175 : Cond.methodLink RX3 175 yX1_isOnShelf ∈ ALLW := inT2 (List.mem_of_getElem? (i := 148) rfl) rfl
theorem qm_L_85 : Cond.methodLink RL 85 yX3_rest ∈ ALLW := inT2 (List.mem_of_getElem? (i := 149) rfl) rfl
theorem qi_X3_rest : Cond.instanceMethod yX3_rest ∈ ALLW := inT2 (List.mem_of_getElem? (i := 150) rfl) rfl
theorem qs_X3_rest : Cond.selects RX3 yX3_rest yX3_rest ∈ ALLW := inT2 (List.mem_of_getElem? (i := 151) rfl) rfl
theorem qc_X3_rest : Cond.code yX3_rest cX3_rest 4 (some .int) ∈ ALLW := inT2 (List.mem_of_getElem? (i := 152) rfl) rfl
theorem qm_X3_178 : Cond.methodLink RX3 178 yX1_passBeat ∈ ALLW := inT2 (List.mem_of_getElem? (i := 153) rfl) rfl
theorem qm_L_89 : Cond.methodLink RL 89 yX3_brings ∈ ALLW := inT2 (List.mem_of_getElem? (i := 154) rfl) rfl
theorem qi_X3_brings : Cond.instanceMethod yX3_brings ∈ ALLW := inT2 (List.mem_of_getElem? (i := 155) rfl) rfl
theorem qs_X3_brings : Cond.selects RX3 yX3_brings yX3_brings ∈ ALLW := inT2 (List.mem_of_getElem? (i := 156) rfl) rfl
theorem qc_X3_brings : Cond.code yX3_brings cX3_brings 4 (some .int) ∈ ALLW := inT2 (List.mem_of_getElem? (i := 157) rfl) rfl
theorem qm_X3_182 : Cond.methodLink RX3 182 yX3_isSearched ∈ ALLW := inT2 (List.mem_of_getElem? (i := 158) rfl) rfl
theorem qi_X3_isSearched : Cond.instanceMethod yX3_isSearched ∈ ALLW := inT2 (List.mem_of_getElem? (i := 160) rfl) rfl
theorem qc_X3_isSearched : Cond.code yX3_isSearched cX3_isSearched 2 (some .boolean) ∈ ALLW := inT2 (List.mem_of_getElem? (i := 161) rfl) rfl
theorem qm_X3_185 : Cond.methodLink RX3 185 yX3_gainBy ∈ ALLW := inT2 (List.mem_of_getElem? (i := 162) rfl) rfl
theorem qi_X3_gainBy : Cond.instanceMethod yX3_gainBy ∈ ALLW := inT2 (List.mem_of_getElem? (i := 164) rfl) rfl
theorem qc_X3_gainBy : Cond.code yX3_gainBy cX3_gainBy 5 (some .int) ∈ ALLW := inT2 (List.mem_of_getElem? (i := 165) rfl) rfl
theorem qm_L_93 : Cond.methodLink RL 93 yX3_best ∈ ALLW := inT2 (List.mem_of_getElem? (i := 166) rfl) rfl
theorem qi_X3_best : Cond.instanceMethod yX3_best ∈ ALLW := inT2 (List.mem_of_getElem? (i := 167) rfl) rfl
theorem qs_X3_best : Cond.selects RX3 yX3_best yX3_best ∈ ALLW := inT2 (List.mem_of_getElem? (i := 168) rfl) rfl
theorem qc_X3_best : Cond.code yX3_best cX3_best 7 (some .int) ∈ ALLW := inT2 (List.mem_of_getElem? (i := 169) rfl) rfl
theorem qm_L_97 : Cond.methodLink RL 97 yX3_wait ∈ ALLW := inT2 (List.mem_of_getElem? (i := 170) rfl) rfl
theorem qi_X3_wait : Cond.instanceMethod yX3_wait ∈ ALLW := inT2 (List.mem_of_getElem? (i := 171) rfl) rfl
theorem qs_X3_wait : Cond.selects RX3 yX3_wait yX3_wait ∈ ALLW := inT2 (List.mem_of_getElem? (i := 172) rfl) rfl
theorem qc_X3_wait : Cond.code yX3_wait cX3_wait 9 (some .int) ∈ ALLW := inT2 (List.mem_of_getElem? (i := 173) rfl) rfl
theorem qm_L_101 : Cond.methodLink RL 101 yX3_three ∈ ALLW := inT2 (List.mem_of_getElem? (i := 174) rfl) rfl
theorem qi_X3_three : Cond.instanceMethod yX3_three ∈ ALLW := inT2 (List.mem_of_getElem? (i := 175) rfl) rfl
theorem qs_X3_three : Cond.selects RX3 yX3_three yX3_three ∈ ALLW := inT2 (List.mem_of_getElem? (i := 176) rfl) rfl
theorem qc_X3_three : Cond.code yX3_three cX3_three 7 (some .int) ∈ ALLW := inT2 (List.mem_of_getElem? (i := 177) rfl) rfl
theorem qm_X3_189 : Cond.methodLink RX3 189 yX3_canDrop ∈ ALLW := inT2 (List.mem_of_getElem? (i := 178) rfl) rfl
theorem qi_X3_canDrop : Cond.instanceMethod yX3_canDrop ∈ ALLW := inT2 (List.mem_of_getElem? (i := 180) rfl) rfl
theorem qc_X3_canDrop : Cond.code yX3_canDrop cX3_canDrop 2 (some .boolean) ∈ ALLW := inT2 (List.mem_of_getElem? (i := 181) rfl) rfl
theorem qm_X3_276 : Cond.methodLink RX3 276 yJ6_bitCount_0f7a4 ∈ ALLW := inT2 (List.mem_of_getElem? (i := 182) rfl) rfl
theorem qm_X3_192 : Cond.methodLink RX3 192 yX3_gainOfThree ∈ ALLW := inT2 (List.mem_of_getElem? (i := 183) rfl) rfl
theorem qi_X3_gainOfThree : Cond.instanceMethod yX3_gainOfThree ∈ ALLW := inT2 (List.mem_of_getElem? (i := 185) rfl) rfl
theorem qc_X3_gainOfThree : Cond.code yX3_gainOfThree cX3_gainOfThree 3 (some .int) ∈ ALLW := inT2 (List.mem_of_getElem? (i := 186) rfl) rfl
theorem qm_X3_210 : Cond.methodLink RX3 210 yX3_walk ∈ ALLW := inT2 (List.mem_of_getElem? (i := 187) rfl) rfl
theorem qi_X3_walk : Cond.instanceMethod yX3_walk ∈ ALLW := inT2 (List.mem_of_getElem? (i := 189) rfl) rfl
theorem qc_X3_walk : Cond.code yX3_walk cX3_walk 5 (some (.object "PennyLedge$Shelf")) ∈ ALLW := inT2 (List.mem_of_getElem? (i := 190) rfl) rfl
theorem qf_X3_195 : Cond.fieldLink RX3 195 "PennyLedge" "WAYS" "[I" ∈ ALLW := inT2 (List.mem_of_getElem? (i := 191) rfl) rfl
theorem qm_X3_214 : Cond.methodLink RX3 214 yX1_leastInHand ∈ ALLW := inT2 (List.mem_of_getElem? (i := 193) rfl) rfl
theorem qi_X1_leastInHand : Cond.instanceMethod yX1_leastInHand ∈ ALLW := inT2 (List.mem_of_getElem? (i := 194) rfl) rfl
theorem qs_X1_leastInHand : Cond.selects RX1 yX1_leastInHand yX1_leastInHand ∈ ALLW := inT2 (List.mem_of_getElem? (i := 195) rfl) rfl
theorem qc_X1_leastInHand : Cond.code yX1_leastInHand cX1_leastInHand 2 (some .int) ∈ ALLW := inT2 (List.mem_of_getElem? (i := 196) rfl) rfl
theorem qm_X3_198 : Cond.methodLink RX3 198 yX3_columnOf ∈ ALLW := inT2 (List.mem_of_getElem? (i := 197) rfl) rfl
theorem qs_X3_columnOf : Cond.static yX3_columnOf ∈ ALLW := inT2 (List.mem_of_getElem? (i := 198) rfl) rfl
theorem qc_X3_columnOf : Cond.code yX3_columnOf cX3_columnOf 3 (some .int) ∈ ALLW := inT2 (List.mem_of_getElem? (i := 199) rfl) rfl
theorem qm_L_105 : Cond.methodLink RL 105 yX3_threeBring ∈ ALLW := inT2 (List.mem_of_getElem? (i := 200) rfl) rfl
theorem qi_X3_threeBring : Cond.instanceMethod yX3_threeBring ∈ ALLW := inT2 (List.mem_of_getElem? (i := 201) rfl) rfl
theorem qs_X3_threeBring : Cond.selects RX3 yX3_threeBring yX3_threeBring ∈ ALLW := inT2 (List.mem_of_getElem? (i := 202) rfl) rfl
theorem qc_X3_threeBring : Cond.code yX3_threeBring cX3_threeBring 4 (some .int) ∈ ALLW := inT2 (List.mem_of_getElem? (i := 203) rfl) rfl
theorem qm_X3_202 : Cond.methodLink RX3 202 yJ9_max_7cf53 ∈ ALLW := inT2 (List.mem_of_getElem? (i := 204) rfl) rfl
theorem qm_L_109 : Cond.methodLink RL 109 yX3_soonest ∈ ALLW := inT2 (List.mem_of_getElem? (i := 205) rfl) rfl
theorem qi_X3_soonest : Cond.instanceMethod yX3_soonest ∈ ALLW := inT2 (List.mem_of_getElem? (i := 206) rfl) rfl
theorem qs_X3_soonest : Cond.selects RX3 yX3_soonest yX3_soonest ∈ ALLW := inT2 (List.mem_of_getElem? (i := 207) rfl) rfl
theorem qc_X3_soonest : Cond.code yX3_soonest cX3_soonest 3 (some .int) ∈ ALLW := inT2 (List.mem_of_getElem? (i := 208) rfl) rfl
theorem qm_X3_207 : Cond.methodLink RX3 207 yX3_soonestWay ∈ ALLW := inT2 (List.mem_of_getElem? (i := 209) rfl) rfl
theorem qi_X3_soonestWay : Cond.instanceMethod yX3_soonestWay ∈ ALLW := inT2 (List.mem_of_getElem? (i := 211) rfl) rfl
theorem qc_X3_soonestWay : Cond.code yX3_soonestWay cX3_soonestWay 4 (some .int) ∈ ALLW := inT2 (List.mem_of_getElem? (i := 212) rfl) rfl
theorem qm_L_113 : Cond.methodLink RL 113 yX3_firstFor ∈ ALLW := inT2 (List.mem_of_getElem? (i := 213) rfl) rfl
theorem qi_X3_firstFor : Cond.instanceMethod yX3_firstFor ∈ ALLW := inT2 (List.mem_of_getElem? (i := 214) rfl) rfl
theorem qs_X3_firstFor : Cond.selects RX3 yX3_firstFor yX3_firstFor ∈ ALLW := inT2 (List.mem_of_getElem? (i := 215) rfl) rfl
theorem qc_X3_firstFor : Cond.code yX3_firstFor cX3_firstFor 5 (some .int) ∈ ALLW := inT2 (List.mem_of_getElem? (i := 216) rfl) rfl
theorem qm_L_117 : Cond.methodLink RL 117 yX3_ways ∈ ALLW := inT2 (List.mem_of_getElem? (i := 217) rfl) rfl
theorem qi_X3_ways : Cond.instanceMethod yX3_ways ∈ ALLW := inT2 (List.mem_of_getElem? (i := 218) rfl) rfl
theorem qs_X3_ways : Cond.selects RX3 yX3_ways yX3_ways ∈ ALLW := inT2 (List.mem_of_getElem? (i := 219) rfl) rfl
theorem qc_X3_ways : Cond.code yX3_ways cX3_ways 5 (some .long) ∈ ALLW := inT2 (List.mem_of_getElem? (i := 220) rfl) rfl
theorem qm_L_122 : Cond.methodLink RL 122 yX3_total ∈ ALLW := inT2 (List.mem_of_getElem? (i := 221) rfl) rfl
theorem qi_X3_total : Cond.instanceMethod yX3_total ∈ ALLW := inT2 (List.mem_of_getElem? (i := 222) rfl) rfl
theorem qs_X3_total : Cond.selects RX3 yX3_total yX3_total ∈ ALLW := inT2 (List.mem_of_getElem? (i := 223) rfl) rfl
theorem qc_X3_total : Cond.code yX3_total cX3_total 6 (some .long) ∈ ALLW := inT2 (List.mem_of_getElem? (i := 224) rfl) rfl
theorem qm_L_127 : Cond.methodLink RL 127 yX3_luck ∈ ALLW := inT2 (List.mem_of_getElem? (i := 225) rfl) rfl
theorem qi_X3_luck : Cond.instanceMethod yX3_luck ∈ ALLW := inT2 (List.mem_of_getElem? (i := 226) rfl) rfl
theorem qs_X3_luck : Cond.selects RX3 yX3_luck yX3_luck ∈ ALLW := inT2 (List.mem_of_getElem? (i := 227) rfl) rfl
theorem qc_X3_luck : Cond.code yX3_luck cX3_luck 5 (some .long) ∈ ALLW := inT2 (List.mem_of_getElem? (i := 228) rfl) rfl
theorem qm_L_131 : Cond.methodLink RL 131 yX3_play ∈ ALLW := inT2 (List.mem_of_getElem? (i := 229) rfl) rfl
theorem qi_X3_play : Cond.instanceMethod yX3_play ∈ ALLW := inT2 (List.mem_of_getElem? (i := 230) rfl) rfl
theorem qs_X3_play : Cond.selects RX3 yX3_play yX3_play ∈ ALLW := inT2 (List.mem_of_getElem? (i := 231) rfl) rfl
theorem qc_X3_play : Cond.code yX3_play cX3_play 4 (some .int) ∈ ALLW := inT2 (List.mem_of_getElem? (i := 232) rfl) rfl
theorem qm_X3_217 : Cond.methodLink RX3 217 yX1_draw ∈ ALLW := inT2 (List.mem_of_getElem? (i := 233) rfl) rfl
theorem qi_X1_draw : Cond.instanceMethod yX1_draw ∈ ALLW := inT2 (List.mem_of_getElem? (i := 234) rfl) rfl
theorem qs_X1_draw : Cond.selects RX1 yX1_draw yX1_draw ∈ ALLW := inT2 (List.mem_of_getElem? (i := 235) rfl) rfl
theorem qc_X1_draw : Cond.code yX1_draw cX1_draw 1 (some .int) ∈ ALLW := inT2 (List.mem_of_getElem? (i := 236) rfl) rfl
theorem qk_X1_128 : Cond.constant RX1 128 (1103515245) ∈ ALLW := inT2 (List.mem_of_getElem? (i := 237) rfl) rfl
theorem qm_L_135 : Cond.methodLink RL 135 yX3_jolt ∈ ALLW := inT2 (List.mem_of_getElem? (i := 238) rfl) rfl
theorem qi_X3_jolt : Cond.instanceMethod yX3_jolt ∈ ALLW := inT2 (List.mem_of_getElem? (i := 239) rfl) rfl
theorem qs_X3_jolt : Cond.selects RX3 yX3_jolt yX3_jolt ∈ ALLW := inT3 (List.mem_of_getElem? (i := 0) rfl) rfl
theorem qc_X3_jolt : Cond.code yX3_jolt cX3_jolt 1 (some .int) ∈ ALLW := inT3 (List.mem_of_getElem? (i := 1) rfl) rfl
theorem qm_X3_220 : Cond.methodLink RX3 220 yX1_shake ∈ ALLW := inT3 (List.mem_of_getElem? (i := 2) rfl) rfl
theorem qi_X1_shake : Cond.instanceMethod yX1_shake ∈ ALLW := inT3 (List.mem_of_getElem? (i := 3) rfl) rfl
theorem qs_X1_shake : Cond.selects RX1 yX1_shake yX1_shake ∈ ALLW := inT3 (List.mem_of_getElem? (i := 4) rfl) rfl
theorem qc_X1_shake : Cond.code yX1_shake cX1_shake 5 (some .int) ∈ ALLW := inT3 (List.mem_of_getElem? (i := 5) rfl) rfl
theorem qm_X1_125 : Cond.methodLink RX1 125 yX1_hasRoom ∈ ALLW := inT3 (List.mem_of_getElem? (i := 6) rfl) rfl
theorem qm_L_139 : Cond.methodLink RL 139 yX3_jolted ∈ ALLW := inT3 (List.mem_of_getElem? (i := 7) rfl) rfl
theorem qi_X3_jolted : Cond.instanceMethod yX3_jolted ∈ ALLW := inT3 (List.mem_of_getElem? (i := 8) rfl) rfl
theorem qs_X3_jolted : Cond.selects RX3 yX3_jolted yX3_jolted ∈ ALLW := inT3 (List.mem_of_getElem? (i := 9) rfl) rfl
theorem qc_X3_jolted : Cond.code yX3_jolted cX3_jolted 1 (some .int) ∈ ALLW := inT3 (List.mem_of_getElem? (i := 10) rfl) rfl
theorem qm_L_143 : Cond.methodLink RL 143 yX3_stroke ∈ ALLW := inT3 (List.mem_of_getElem? (i := 11) rfl) rfl
theorem qi_X3_stroke : Cond.instanceMethod yX3_stroke ∈ ALLW := inT3 (List.mem_of_getElem? (i := 12) rfl) rfl
theorem qs_X3_stroke : Cond.selects RX3 yX3_stroke yX3_stroke ∈ ALLW := inT3 (List.mem_of_getElem? (i := 13) rfl) rfl
theorem qc_X3_stroke : Cond.code yX3_stroke cX3_stroke 6 (some .int) ∈ ALLW := inT3 (List.mem_of_getElem? (i := 14) rfl) rfl
theorem qm_L_147 : Cond.methodLink RL 147 yX3_force ∈ ALLW := inT3 (List.mem_of_getElem? (i := 15) rfl) rfl
theorem qi_X3_force : Cond.instanceMethod yX3_force ∈ ALLW := inT3 (List.mem_of_getElem? (i := 16) rfl) rfl
theorem qs_X3_force : Cond.selects RX3 yX3_force yX3_force ∈ ALLW := inT3 (List.mem_of_getElem? (i := 17) rfl) rfl
theorem qc_X3_force : Cond.code yX3_force cX3_force 4 (some .int) ∈ ALLW := inT3 (List.mem_of_getElem? (i := 18) rfl) rfl
theorem qm_L_151 : Cond.methodLink RL 151 yX3_kindFor ∈ ALLW := inT3 (List.mem_of_getElem? (i := 19) rfl) rfl
theorem qi_X3_kindFor : Cond.instanceMethod yX3_kindFor ∈ ALLW := inT3 (List.mem_of_getElem? (i := 20) rfl) rfl
theorem qs_X3_kindFor : Cond.selects RX3 yX3_kindFor yX3_kindFor ∈ ALLW := inT3 (List.mem_of_getElem? (i := 21) rfl) rfl
theorem qc_X3_kindFor : Cond.code yX3_kindFor cX3_kindFor 8 (some .int) ∈ ALLW := inT3 (List.mem_of_getElem? (i := 22) rfl) rfl
theorem qm_L_155 : Cond.methodLink RL 155 yX3_seed ∈ ALLW := inT3 (List.mem_of_getElem? (i := 23) rfl) rfl
theorem qi_X3_seed : Cond.instanceMethod yX3_seed ∈ ALLW := inT3 (List.mem_of_getElem? (i := 24) rfl) rfl
theorem qs_X3_seed : Cond.selects RX3 yX3_seed yX3_seed ∈ ALLW := inT3 (List.mem_of_getElem? (i := 25) rfl) rfl
theorem qc_X3_seed : Cond.code yX3_seed cX3_seed 3 (some .int) ∈ ALLW := inT3 (List.mem_of_getElem? (i := 26) rfl) rfl
theorem qm_L_159 : Cond.methodLink RL 159 yX3_feed ∈ ALLW := inT3 (List.mem_of_getElem? (i := 27) rfl) rfl
theorem qi_X3_feed : Cond.instanceMethod yX3_feed ∈ ALLW := inT3 (List.mem_of_getElem? (i := 28) rfl) rfl
theorem qs_X3_feed : Cond.selects RX3 yX3_feed yX3_feed ∈ ALLW := inT3 (List.mem_of_getElem? (i := 29) rfl) rfl
theorem qc_X3_feed : Cond.code yX3_feed cX3_feed 4 (some .int) ∈ ALLW := inT3 (List.mem_of_getElem? (i := 30) rfl) rfl
theorem qm_X3_235 : Cond.methodLink RX3 235 yX2_append ∈ ALLW := inT3 (List.mem_of_getElem? (i := 31) rfl) rfl
theorem qi_X2_append : Cond.instanceMethod yX2_append ∈ ALLW := inT3 (List.mem_of_getElem? (i := 32) rfl) rfl
theorem qs_X2_append : Cond.selects RX2 yX2_append yX2_append ∈ ALLW := inT3 (List.mem_of_getElem? (i := 33) rfl) rfl
theorem qc_X2_append : Cond.code yX2_append cX2_append 2 none ∈ ALLW := inT3 (List.mem_of_getElem? (i := 34) rfl) rfl
theorem qm_L_163 : Cond.methodLink RL 163 yX3_wipe ∈ ALLW := inT3 (List.mem_of_getElem? (i := 35) rfl) rfl
theorem qi_X3_wipe : Cond.instanceMethod yX3_wipe ∈ ALLW := inT3 (List.mem_of_getElem? (i := 36) rfl) rfl
theorem qs_X3_wipe : Cond.selects RX3 yX3_wipe yX3_wipe ∈ ALLW := inT3 (List.mem_of_getElem? (i := 37) rfl) rfl
theorem qc_X3_wipe : Cond.code yX3_wipe cX3_wipe 2 (some .int) ∈ ALLW := inT3 (List.mem_of_getElem? (i := 38) rfl) rfl
theorem qm_L_167 : Cond.methodLink RL 167 yX3_text ∈ ALLW := inT3 (List.mem_of_getElem? (i := 39) rfl) rfl
theorem qi_X3_text : Cond.instanceMethod yX3_text ∈ ALLW := inT3 (List.mem_of_getElem? (i := 40) rfl) rfl
theorem qs_X3_text : Cond.selects RX3 yX3_text yX3_text ∈ ALLW := inT3 (List.mem_of_getElem? (i := 41) rfl) rfl
theorem qc_X3_text : Cond.code yX3_text cX3_text 2 (some .int) ∈ ALLW := inT3 (List.mem_of_getElem? (i := 42) rfl) rfl
theorem qm_X3_238 : Cond.methodLink RX3 238 yX3_readText ∈ ALLW := inT3 (List.mem_of_getElem? (i := 43) rfl) rfl
theorem qi_X3_readText : Cond.instanceMethod yX3_readText ∈ ALLW := inT3 (List.mem_of_getElem? (i := 45) rfl) rfl
theorem qc_X3_readText : Cond.code yX3_readText cX3_readText 3 (some .int) ∈ ALLW := inT3 (List.mem_of_getElem? (i := 46) rfl) rfl
theorem qm_X3_294 : Cond.methodLink RX3 294 yX2_rewind ∈ ALLW := inT3 (List.mem_of_getElem? (i := 47) rfl) rfl
theorem qi_X2_rewind : Cond.instanceMethod yX2_rewind ∈ ALLW := inT3 (List.mem_of_getElem? (i := 48) rfl) rfl
theorem qs_X2_rewind : Cond.selects RX2 yX2_rewind yX2_rewind ∈ ALLW := inT3 (List.mem_of_getElem? (i := 49) rfl) rfl
theorem qc_X2_rewind : Cond.code yX2_rewind cX2_rewind 1 none ∈ ALLW := inT3 (List.mem_of_getElem? (i := 50) rfl) rfl
theorem qm_X3_297 : Cond.methodLink RX3 297 yX2_next ∈ ALLW := inT3 (List.mem_of_getElem? (i := 51) rfl) rfl
theorem qi_X2_next : Cond.instanceMethod yX2_next ∈ ALLW := inT3 (List.mem_of_getElem? (i := 52) rfl) rfl
theorem qs_X2_next : Cond.selects RX2 yX2_next yX2_next ∈ ALLW := inT3 (List.mem_of_getElem? (i := 53) rfl) rfl
theorem qc_X2_next : Cond.code yX2_next cX2_next 1 none ∈ ALLW := inT3 (List.mem_of_getElem? (i := 54) rfl) rfl
theorem qm_X2_31 : Cond.methodLink RX2 31 yX2_isLetter ∈ ALLW := inT3 (List.mem_of_getElem? (i := 55) rfl) rfl
theorem qs_X2_isLetter : Cond.static yX2_isLetter ∈ ALLW := inT3 (List.mem_of_getElem? (i := 56) rfl) rfl
theorem qc_X2_isLetter : Cond.code yX2_isLetter cX2_isLetter 1 (some .boolean) ∈ ALLW := inT3 (List.mem_of_getElem? (i := 57) rfl) rfl
theorem qm_X2_35 : Cond.methodLink RX2 35 yX2_readWord ∈ ALLW := inT3 (List.mem_of_getElem? (i := 58) rfl) rfl
theorem qi_X2_readWord : Cond.instanceMethod yX2_readWord ∈ ALLW := inT3 (List.mem_of_getElem? (i := 59) rfl) rfl
theorem qs_X2_readWord : Cond.selects RX2 yX2_readWord yX2_readWord ∈ ALLW := inT3 (List.mem_of_getElem? (i := 60) rfl) rfl
theorem qc_X2_readWord : Cond.code yX2_readWord cX2_readWord 1 none ∈ ALLW := inT3 (List.mem_of_getElem? (i := 61) rfl) rfl
theorem qm_X2_38 : Cond.methodLink RX2 38 yX2_isDigit ∈ ALLW := inT3 (List.mem_of_getElem? (i := 62) rfl) rfl
theorem qs_X2_isDigit : Cond.static yX2_isDigit ∈ ALLW := inT3 (List.mem_of_getElem? (i := 63) rfl) rfl
theorem qc_X2_isDigit : Cond.code yX2_isDigit cX2_isDigit 1 (some .boolean) ∈ ALLW := inT3 (List.mem_of_getElem? (i := 64) rfl) rfl
theorem qm_X2_41 : Cond.methodLink RX2 41 yX2_readNumber ∈ ALLW := inT3 (List.mem_of_getElem? (i := 65) rfl) rfl
theorem qi_X2_readNumber : Cond.instanceMethod yX2_readNumber ∈ ALLW := inT3 (List.mem_of_getElem? (i := 66) rfl) rfl
theorem qs_X2_readNumber : Cond.selects RX2 yX2_readNumber yX2_readNumber ∈ ALLW := inT3 (List.mem_of_getElem? (i := 67) rfl) rfl
theorem qc_X2_readNumber : Cond.code yX2_readNumber cX2_readNumber 1 none ∈ ALLW := inT3 (List.mem_of_getElem? (i := 68) rfl) rfl
theorem qm_X2_44 : Cond.methodLink RX2 44 yJ9_min_7cf53 ∈ ALLW := inT3 (List.mem_of_getElem? (i := 69) rfl) rfl
theorem qs_J9_min_7cf53 : Cond.static yJ9_min_7cf53 ∈ ALLW := inT3 (List.mem_of_getElem? (i := 70) rfl) rfl
theorem qc_J9_min_7cf53 : Cond.code yJ9_min_7cf53 cJ9_min_7cf53 2 (some .int) ∈ ALLW := inT3 (List.mem_of_getElem? (i := 71) rfl) rfl
theorem qm_X3_300 : Cond.methodLink RX3 300 yX3_readItem ∈ ALLW := inT3 (List.mem_of_getElem? (i := 72) rfl) rfl
theorem qi_X3_readItem : Cond.instanceMethod yX3_readItem ∈ ALLW := inT3 (List.mem_of_getElem? (i := 74) rfl) rfl
theorem qc_X3_readItem : Cond.code yX3_readItem cX3_readItem 3 (some .boolean) ∈ ALLW := inT3 (List.mem_of_getElem? (i := 75) rfl) rfl
theorem qm_X3_310 : Cond.methodLink RX3 310 yX3_kindWord ∈ ALLW := inT3 (List.mem_of_getElem? (i := 76) rfl) rfl
theorem qs_X3_kindWord : Cond.static yX3_kindWord ∈ ALLW := inT3 (List.mem_of_getElem? (i := 77) rfl) rfl
theorem qc_X3_kindWord : Cond.code yX3_kindWord cX3_kindWord 1 (some (.object "java/lang/String")) ∈ ALLW := inT3 (List.mem_of_getElem? (i := 78) rfl) rfl
theorem qm_X3_314 : Cond.methodLink RX3 314 yX2_isWord ∈ ALLW := inT3 (List.mem_of_getElem? (i := 86) rfl) rfl
theorem qi_X2_isWord : Cond.instanceMethod yX2_isWord ∈ ALLW := inT3 (List.mem_of_getElem? (i := 87) rfl) rfl
theorem qs_X2_isWord : Cond.selects RX2 yX2_isWord yX2_isWord ∈ ALLW := inT3 (List.mem_of_getElem? (i := 88) rfl) rfl
theorem qc_X2_isWord : Cond.code yX2_isWord cX2_isWord 3 (some .boolean) ∈ ALLW := inT3 (List.mem_of_getElem? (i := 89) rfl) rfl
theorem qm_X2_50 : Cond.methodLink RX2 50 yJ0_length_8abf5 ∈ ALLW := inT3 (List.mem_of_getElem? (i := 90) rfl) rfl
theorem qi_J0_length_8abf5 : Cond.instanceMethod yJ0_length_8abf5 ∈ ALLW := inT3 (List.mem_of_getElem? (i := 91) rfl) rfl
theorem qs_J0_length_8abf5 : Cond.selects RJ0 yJ0_length_8abf5 yJ0_length_8abf5 ∈ ALLW := inT3 (List.mem_of_getElem? (i := 92) rfl) rfl
theorem qc_J0_length_8abf5 : Cond.code yJ0_length_8abf5 cJ0_length_8abf5 1 (some .int) ∈ ALLW := inT3 (List.mem_of_getElem? (i := 93) rfl) rfl
theorem qm_J0_335 : Cond.methodLink RJ0 335 yJ0_coder_7d493 ∈ ALLW := inT3 (List.mem_of_getElem? (i := 94) rfl) rfl
theorem qi_J0_coder_7d493 : Cond.instanceMethod yJ0_coder_7d493 ∈ ALLW := inT3 (List.mem_of_getElem? (i := 95) rfl) rfl
theorem qs_J0_coder_7d493 : Cond.selects RJ0 yJ0_coder_7d493 yJ0_coder_7d493 ∈ ALLW := inT3 (List.mem_of_getElem? (i := 96) rfl) rfl
theorem qc_J0_coder_7d493 : Cond.code yJ0_coder_7d493 cJ0_coder_7d493 1 (some .byte) ∈ ALLW := inT3 (List.mem_of_getElem? (i := 97) rfl) rfl
theorem qf_J0_38 : Cond.fieldLink RJ0 38 "java/lang/String" "COMPACT_STRINGS" "Z" ∈ ALLW := inT3 (List.mem_of_getElem? (i := 98) rfl) rfl
theorem qm_X2_55 : Cond.methodLink RX2 55 yJ0_charAt_5068e ∈ ALLW := inT3 (List.mem_of_getElem? (i := 100) rfl) rfl
theorem qi_J0_charAt_5068e : Cond.instanceMethod yJ0_charAt_5068e ∈ ALLW := inT3 (List.mem_of_getElem? (i := 101) rfl) rfl
theorem qs_J0_charAt_5068e : Cond.selects RJ0 yJ0_charAt_5068e yJ0_charAt_5068e ∈ ALLW := inT3 (List.mem_of_getElem? (i := 102) rfl) rfl
theorem qc_J0_charAt_5068e : Cond.code yJ0_charAt_5068e cJ0_charAt_5068e 2 (some .char) ∈ ALLW := inT3 (List.mem_of_getElem? (i := 103) rfl) rfl
theorem qm_J0_492 : Cond.methodLink RJ0 492 yJ0_isLatin1_aae02 ∈ ALLW := inT3 (List.mem_of_getElem? (i := 104) rfl) rfl
theorem qi_J0_isLatin1_aae02 : Cond.instanceMethod yJ0_isLatin1_aae02 ∈ ALLW := inT3 (List.mem_of_getElem? (i := 105) rfl) rfl
theorem qs_J0_isLatin1_aae02 : Cond.selects RJ0 yJ0_isLatin1_aae02 yJ0_isLatin1_aae02 ∈ ALLW := inT3 (List.mem_of_getElem? (i := 106) rfl) rfl
theorem qc_J0_isLatin1_aae02 : Cond.code yJ0_isLatin1_aae02 cJ0_isLatin1_aae02 1 (some .boolean) ∈ ALLW := inT3 (List.mem_of_getElem? (i := 107) rfl) rfl
theorem qm_J0_495 : Cond.methodLink RJ0 495 yJ1_charAt_3b067 ∈ ALLW := inT3 (List.mem_of_getElem? (i := 108) rfl) rfl
theorem qs_J1_charAt_3b067 : Cond.static yJ1_charAt_3b067 ∈ ALLW := inT3 (List.mem_of_getElem? (i := 109) rfl) rfl
theorem qc_J1_charAt_3b067 : Cond.code yJ1_charAt_3b067 cJ1_charAt_3b067 2 (some .char) ∈ ALLW := inT3 (List.mem_of_getElem? (i := 110) rfl) rfl
theorem qm_J1_9 : Cond.methodLink RJ1 9 yJ0_checkIndex_df160 ∈ ALLW := inT3 (List.mem_of_getElem? (i := 111) rfl) rfl
theorem qs_J0_checkIndex_df160 : Cond.static yJ0_checkIndex_df160 ∈ ALLW := inT3 (List.mem_of_getElem? (i := 112) rfl) rfl
theorem qc_J0_checkIndex_df160 : Cond.code yJ0_checkIndex_df160 cJ0_checkIndex_df160 2 none ∈ ALLW := inT3 (List.mem_of_getElem? (i := 113) rfl) rfl
theorem qf_J0_1053 : Cond.fieldLink RJ0 1053 "jdk/internal/util/Preconditions" "SIOOBE_FORMATTER" "Ljava/util/function/BiFunction;" ∈ ALLW := inT3 (List.mem_of_getElem? (i := 114) rfl) rfl
theorem qm_J0_1059 : Cond.methodLink RJ0 1059 yJ3_checkIndex_8e157 ∈ ALLW := inT3 (List.mem_of_getElem? (i := 116) rfl) rfl
theorem qs_J3_checkIndex_8e157 : Cond.static yJ3_checkIndex_8e157 ∈ ALLW := inT3 (List.mem_of_getElem? (i := 117) rfl) rfl
theorem qc_J3_checkIndex_8e157 : Cond.code yJ3_checkIndex_8e157 cJ3_checkIndex_8e157 3 (some .int) ∈ ALLW := inT3 (List.mem_of_getElem? (i := 118) rfl) rfl
theorem qm_J0_498 : Cond.methodLink RJ0 498 yJ2_charAt_3b067 ∈ ALLW := inT3 (List.mem_of_getElem? (i := 119) rfl) rfl
theorem qs_J2_charAt_3b067 : Cond.static yJ2_charAt_3b067 ∈ ALLW := inT3 (List.mem_of_getElem? (i := 120) rfl) rfl
theorem qc_J2_charAt_3b067 : Cond.code yJ2_charAt_3b067 cJ2_charAt_3b067 2 (some .char) ∈ ALLW := inT3 (List.mem_of_getElem? (i := 121) rfl) rfl
theorem qm_J2_67 : Cond.methodLink RJ2 67 yJ2_checkIndex_2214a ∈ ALLW := inT3 (List.mem_of_getElem? (i := 122) rfl) rfl
theorem qs_J2_checkIndex_2214a : Cond.static yJ2_checkIndex_2214a ∈ ALLW := inT3 (List.mem_of_getElem? (i := 123) rfl) rfl
theorem qc_J2_checkIndex_2214a : Cond.code yJ2_checkIndex_2214a cJ2_checkIndex_2214a 2 none ∈ ALLW := inT3 (List.mem_of_getElem? (i := 124) rfl) rfl
theorem qm_J2_48 : Cond.methodLink RJ2 48 yJ2_length_9d52b ∈ ALLW := inT3 (List.mem_of_getElem? (i := 125) rfl) rfl
theorem qs_J2_length_9d52b : Cond.static yJ2_length_9d52b ∈ ALLW := inT3 (List.mem_of_getElem? (i := 126) rfl) rfl
theorem qc_J2_length_9d52b : Cond.code yJ2_length_9d52b cJ2_length_9d52b 1 (some .int) ∈ ALLW := inT3 (List.mem_of_getElem? (i := 127) rfl) rfl
theorem qm_J2_414 : Cond.methodLink RJ2 414 yJ0_checkIndex_df160 ∈ ALLW := inT3 (List.mem_of_getElem? (i := 128) rfl) rfl
theorem qm_J2_71 : Cond.methodLink RJ2 71 yJ2_getChar_3b067 ∈ ALLW := inT3 (List.mem_of_getElem? (i := 129) rfl) rfl
theorem qs_J2_getChar_3b067 : Cond.static yJ2_getChar_3b067 ∈ ALLW := inT3 (List.mem_of_getElem? (i := 130) rfl) rfl
theorem qc_J2_getChar_3b067 : Cond.code yJ2_getChar_3b067 cJ2_getChar_3b067 2 (some .char) ∈ ALLW := inT3 (List.mem_of_getElem? (i := 131) rfl) rfl
theorem qf_J2_44 : Cond.fieldLink RJ2 44 "java/lang/StringUTF16" "$assertionsDisabled" "Z" ∈ ALLW := inT3 (List.mem_of_getElem? (i := 132) rfl) rfl
theorem qf_J2_59 : Cond.fieldLink RJ2 59 "java/lang/StringUTF16" "HI_BYTE_SHIFT" "I" ∈ ALLW := inT3 (List.mem_of_getElem? (i := 134) rfl) rfl
theorem qf_J2_63 : Cond.fieldLink RJ2 63 "java/lang/StringUTF16" "LO_BYTE_SHIFT" "I" ∈ ALLW := inT3 (List.mem_of_getElem? (i := 136) rfl) rfl
theorem qm_X3_318 : Cond.methodLink RX3 318 yX3_readCoin ∈ ALLW := inT3 (List.mem_of_getElem? (i := 138) rfl) rfl
theorem qi_X3_readCoin : Cond.instanceMethod yX3_readCoin ∈ ALLW := inT3 (List.mem_of_getElem? (i := 140) rfl) rfl
theorem qc_X3_readCoin : Cond.code yX3_readCoin cX3_readCoin 5 (some .boolean) ∈ ALLW := inT3 (List.mem_of_getElem? (i := 141) rfl) rfl
theorem qm_X3_322 : Cond.methodLink RX3 322 yX3_settingWord ∈ ALLW := inT3 (List.mem_of_getElem? (i := 143) rfl) rfl
theorem qs_X3_settingWord : Cond.static yX3_settingWord ∈ ALLW := inT3 (List.mem_of_getElem? (i := 144) rfl) rfl
theorem qc_X3_settingWord : Cond.code yX3_settingWord cX3_settingWord 1 (some (.object "java/lang/String")) ∈ ALLW := inT3 (List.mem_of_getElem? (i := 145) rfl) rfl
theorem qm_X3_325 : Cond.methodLink RX3 325 yX3_readSetting ∈ ALLW := inT3 (List.mem_of_getElem? (i := 149) rfl) rfl
theorem qi_X3_readSetting : Cond.instanceMethod yX3_readSetting ∈ ALLW := inT3 (List.mem_of_getElem? (i := 151) rfl) rfl
theorem qc_X3_readSetting : Cond.code yX3_readSetting cX3_readSetting 3 (some .boolean) ∈ ALLW := inT3 (List.mem_of_getElem? (i := 152) rfl) rfl
theorem qm_L_171 : Cond.methodLink RL 171 yX3_hold ∈ ALLW := inT3 (List.mem_of_getElem? (i := 154) rfl) rfl
theorem qi_X3_hold : Cond.instanceMethod yX3_hold ∈ ALLW := inT3 (List.mem_of_getElem? (i := 155) rfl) rfl
theorem qs_X3_hold : Cond.selects RX3 yX3_hold yX3_hold ∈ ALLW := inT3 (List.mem_of_getElem? (i := 156) rfl) rfl
theorem qc_X3_hold : Cond.code yX3_hold cX3_hold 3 (some .int) ∈ ALLW := inT3 (List.mem_of_getElem? (i := 157) rfl) rfl
theorem qm_L_175 : Cond.methodLink RL 175 yX3_as ∈ ALLW := inT3 (List.mem_of_getElem? (i := 158) rfl) rfl
theorem qi_X3_as : Cond.instanceMethod yX3_as ∈ ALLW := inT3 (List.mem_of_getElem? (i := 159) rfl) rfl
theorem qs_X3_as : Cond.selects RX3 yX3_as yX3_as ∈ ALLW := inT3 (List.mem_of_getElem? (i := 160) rfl) rfl
theorem qc_X3_as : Cond.code yX3_as cX3_as 4 (some .int) ∈ ALLW := inT3 (List.mem_of_getElem? (i := 161) rfl) rfl
theorem qm_X3_245 : Cond.methodLink RX3 245 yX3_isUnder ∈ ALLW := inT3 (List.mem_of_getElem? (i := 162) rfl) rfl
theorem qs_X3_isUnder : Cond.static yX3_isUnder ∈ ALLW := inT3 (List.mem_of_getElem? (i := 163) rfl) rfl
theorem qc_X3_isUnder : Cond.code yX3_isUnder cX3_isUnder 4 (some .boolean) ∈ ALLW := inT3 (List.mem_of_getElem? (i := 164) rfl) rfl
theorem qf_X3_291 : Cond.fieldLink RX3 291 "PennyLedge" "OVER" "[I" ∈ ALLW := inT3 (List.mem_of_getElem? (i := 165) rfl) rfl
theorem qm_L_179 : Cond.methodLink RL 179 yX3_sheet ∈ ALLW := inT3 (List.mem_of_getElem? (i := 167) rfl) rfl
theorem qi_X3_sheet : Cond.instanceMethod yX3_sheet ∈ ALLW := inT3 (List.mem_of_getElem? (i := 168) rfl) rfl
theorem qs_X3_sheet : Cond.selects RX3 yX3_sheet yX3_sheet ∈ ALLW := inT3 (List.mem_of_getElem? (i := 169) rfl) rfl
theorem qc_X3_sheet : Cond.code yX3_sheet cX3_sheet 4 (some .int) ∈ ALLW := inT3 (List.mem_of_getElem? (i := 170) rfl) rfl
theorem qm_X3_248 : Cond.methodLink RX3 248 yX3_isSheet ∈ ALLW := inT3 (List.mem_of_getElem? (i := 171) rfl) rfl
theorem qs_X3_isSheet : Cond.static yX3_isSheet ∈ ALLW := inT3 (List.mem_of_getElem? (i := 172) rfl) rfl
theorem qc_X3_isSheet : Cond.code yX3_isSheet cX3_isSheet 1 (some .boolean) ∈ ALLW := inT3 (List.mem_of_getElem? (i := 173) rfl) rfl
theorem qm_X3_251 : Cond.methodLink RX3 251 yX3_isWidth ∈ ALLW := inT3 (List.mem_of_getElem? (i := 174) rfl) rfl
theorem qs_X3_isWidth : Cond.static yX3_isWidth ∈ ALLW := inT3 (List.mem_of_getElem? (i := 175) rfl) rfl
theorem qc_X3_isWidth : Cond.code yX3_isWidth cX3_isWidth 1 (some .boolean) ∈ ALLW := inT3 (List.mem_of_getElem? (i := 176) rfl) rfl
theorem qm_X3_254 : Cond.methodLink RX3 254 yX0_renew ∈ ALLW := inT3 (List.mem_of_getElem? (i := 177) rfl) rfl
theorem qi_X0_renew : Cond.instanceMethod yX0_renew ∈ ALLW := inT3 (List.mem_of_getElem? (i := 178) rfl) rfl
theorem qs_X0_renew : Cond.selects RX0 yX0_renew yX0_renew ∈ ALLW := inT3 (List.mem_of_getElem? (i := 179) rfl) rfl
theorem qc_X0_renew : Cond.code yX0_renew cX0_renew 4 none ∈ ALLW := inT3 (List.mem_of_getElem? (i := 180) rfl) rfl
theorem qm_L_183 : Cond.methodLink RL 183 yX3_write ∈ ALLW := inT3 (List.mem_of_getElem? (i := 181) rfl) rfl
theorem qi_X3_write : Cond.instanceMethod yX3_write ∈ ALLW := inT3 (List.mem_of_getElem? (i := 182) rfl) rfl
theorem qs_X3_write : Cond.selects RX3 yX3_write yX3_write ∈ ALLW := inT3 (List.mem_of_getElem? (i := 183) rfl) rfl
theorem qc_X3_write : Cond.code yX3_write cX3_write 4 (some .int) ∈ ALLW := inT3 (List.mem_of_getElem? (i := 184) rfl) rfl
theorem qm_X3_263 : Cond.methodLink RX3 263 yX0_put ∈ ALLW := inT3 (List.mem_of_getElem? (i := 185) rfl) rfl
theorem qi_X0_put : Cond.instanceMethod yX0_put ∈ ALLW := inT3 (List.mem_of_getElem? (i := 186) rfl) rfl
theorem qs_X0_put : Cond.selects RX0 yX0_put yX0_put ∈ ALLW := inT3 (List.mem_of_getElem? (i := 187) rfl) rfl
theorem qc_X0_put : Cond.code yX0_put cX0_put 3 none ∈ ALLW := inT3 (List.mem_of_getElem? (i := 188) rfl) rfl
theorem qm_L_187 : Cond.methodLink RL 187 yX3_copy ∈ ALLW := inT3 (List.mem_of_getElem? (i := 189) rfl) rfl
theorem qi_X3_copy : Cond.instanceMethod yX3_copy ∈ ALLW := inT3 (List.mem_of_getElem? (i := 190) rfl) rfl
theorem qs_X3_copy : Cond.selects RX3 yX3_copy yX3_copy ∈ ALLW := inT3 (List.mem_of_getElem? (i := 191) rfl) rfl
theorem qc_X3_copy : Cond.code yX3_copy cX3_copy 8 (some .int) ∈ ALLW := inT3 (List.mem_of_getElem? (i := 192) rfl) rfl
theorem qm_X3_264 : Cond.methodLink RX3 264 yX0_hasFrom ∈ ALLW := inT3 (List.mem_of_getElem? (i := 193) rfl) rfl
theorem qi_X0_hasFrom : Cond.instanceMethod yX0_hasFrom ∈ ALLW := inT3 (List.mem_of_getElem? (i := 194) rfl) rfl
theorem qs_X0_hasFrom : Cond.selects RX0 yX0_hasFrom yX0_hasFrom ∈ ALLW := inT3 (List.mem_of_getElem? (i := 195) rfl) rfl
theorem qc_X0_hasFrom : Cond.code yX0_hasFrom cX0_hasFrom 3 (some .boolean) ∈ ALLW := inT3 (List.mem_of_getElem? (i := 196) rfl) rfl
theorem qm_X3_270 : Cond.methodLink RX3 270 arraycopyName ∈ ALLW := inT3 (List.mem_of_getElem? (i := 197) rfl) rfl
theorem qm_L_192 : Cond.methodLink RL 192 yX3_load ∈ ALLW := inT3 (List.mem_of_getElem? (i := 198) rfl) rfl
theorem qi_X3_load : Cond.instanceMethod yX3_load ∈ ALLW := inT3 (List.mem_of_getElem? (i := 199) rfl) rfl
theorem qs_X3_load : Cond.selects RX3 yX3_load yX3_load ∈ ALLW := inT3 (List.mem_of_getElem? (i := 200) rfl) rfl
theorem qc_X3_load : Cond.code yX3_load cX3_load 6 (some .int) ∈ ALLW := inT3 (List.mem_of_getElem? (i := 201) rfl) rfl
theorem qm_L_196 : Cond.methodLink RL 196 yX3_judge ∈ ALLW := inT3 (List.mem_of_getElem? (i := 202) rfl) rfl
theorem qi_X3_judge : Cond.instanceMethod yX3_judge ∈ ALLW := inT3 (List.mem_of_getElem? (i := 203) rfl) rfl
theorem qs_X3_judge : Cond.selects RX3 yX3_judge yX3_judge ∈ ALLW := inT3 (List.mem_of_getElem? (i := 204) rfl) rfl
theorem qc_X3_judge : Cond.code yX3_judge cX3_judge 5 (some .int) ∈ ALLW := inT3 (List.mem_of_getElem? (i := 205) rfl) rfl
theorem qm_L_200 : Cond.methodLink RL 200 yX3_image ∈ ALLW := inT3 (List.mem_of_getElem? (i := 206) rfl) rfl
theorem qi_X3_image : Cond.instanceMethod yX3_image ∈ ALLW := inT3 (List.mem_of_getElem? (i := 207) rfl) rfl
theorem qs_X3_image : Cond.selects RX3 yX3_image yX3_image ∈ ALLW := inT3 (List.mem_of_getElem? (i := 208) rfl) rfl
theorem qc_X3_image : Cond.code yX3_image cX3_image 1 (some .int) ∈ ALLW := inT3 (List.mem_of_getElem? (i := 209) rfl) rfl
theorem qm_L_204 : Cond.methodLink RL 204 yX3_undo ∈ ALLW := inT3 (List.mem_of_getElem? (i := 210) rfl) rfl
theorem qi_X3_undo : Cond.instanceMethod yX3_undo ∈ ALLW := inT3 (List.mem_of_getElem? (i := 211) rfl) rfl
theorem qs_X3_undo : Cond.selects RX3 yX3_undo yX3_undo ∈ ALLW := inT3 (List.mem_of_getElem? (i := 212) rfl) rfl
theorem qc_X3_undo : Cond.code yX3_undo cX3_undo 1 (some .int) ∈ ALLW := inT3 (List.mem_of_getElem? (i := 213) rfl) rfl
theorem qm_L_208 : Cond.methodLink RL 208 yX3_tear ∈ ALLW := inT3 (List.mem_of_getElem? (i := 214) rfl) rfl
theorem qi_X3_tear : Cond.instanceMethod yX3_tear ∈ ALLW := inT3 (List.mem_of_getElem? (i := 215) rfl) rfl
theorem qs_X3_tear : Cond.selects RX3 yX3_tear yX3_tear ∈ ALLW := inT3 (List.mem_of_getElem? (i := 216) rfl) rfl
theorem qc_X3_tear : Cond.code yX3_tear cX3_tear 2 (some .int) ∈ ALLW := inT3 (List.mem_of_getElem? (i := 217) rfl) rfl
theorem qm_L_212 : Cond.methodLink RL 212 yX3_count ∈ ALLW := inT3 (List.mem_of_getElem? (i := 218) rfl) rfl
theorem qi_X3_count : Cond.instanceMethod yX3_count ∈ ALLW := inT3 (List.mem_of_getElem? (i := 219) rfl) rfl
theorem qs_X3_count : Cond.selects RX3 yX3_count yX3_count ∈ ALLW := inT3 (List.mem_of_getElem? (i := 220) rfl) rfl
theorem qc_X3_count : Cond.code yX3_count cX3_count 2 (some .int) ∈ ALLW := inT3 (List.mem_of_getElem? (i := 221) rfl) rfl
theorem qm_X3_281 : Cond.methodLink RX3 281 yX1_worthOf ∈ ALLW := inT3 (List.mem_of_getElem? (i := 222) rfl) rfl
theorem qm_X3_284 : Cond.methodLink RX3 284 yX1_manyStacks ∈ ALLW := inT3 (List.mem_of_getElem? (i := 223) rfl) rfl
theorem qi_X1_manyStacks : Cond.instanceMethod yX1_manyStacks ∈ ALLW := inT3 (List.mem_of_getElem? (i := 224) rfl) rfl
theorem qs_X1_manyStacks : Cond.selects RX1 yX1_manyStacks yX1_manyStacks ∈ ALLW := inT3 (List.mem_of_getElem? (i := 225) rfl) rfl
theorem qc_X1_manyStacks : Cond.code yX1_manyStacks cX1_manyStacks 3 (some .int) ∈ ALLW := inT3 (List.mem_of_getElem? (i := 226) rfl) rfl
theorem qm_X3_287 : Cond.methodLink RX3 287 yX1_manySpotsHeld ∈ ALLW := inT3 (List.mem_of_getElem? (i := 227) rfl) rfl
theorem qi_X1_manySpotsHeld : Cond.instanceMethod yX1_manySpotsHeld ∈ ALLW := inT3 (List.mem_of_getElem? (i := 228) rfl) rfl
theorem qs_X1_manySpotsHeld : Cond.selects RX1 yX1_manySpotsHeld yX1_manySpotsHeld ∈ ALLW := inT3 (List.mem_of_getElem? (i := 229) rfl) rfl
theorem qc_X1_manySpotsHeld : Cond.code yX1_manySpotsHeld cX1_manySpotsHeld 3 (some .int) ∈ ALLW := inT3 (List.mem_of_getElem? (i := 230) rfl) rfl
theorem qm_L_216 : Cond.methodLink RL 216 yX3_status ∈ ALLW := inT3 (List.mem_of_getElem? (i := 231) rfl) rfl
theorem qi_X3_status : Cond.instanceMethod yX3_status ∈ ALLW := inT3 (List.mem_of_getElem? (i := 232) rfl) rfl
theorem qs_X3_status : Cond.selects RX3 yX3_status yX3_status ∈ ALLW := inT3 (List.mem_of_getElem? (i := 233) rfl) rfl
theorem qc_X3_status : Cond.code yX3_status cX3_status 4 (some .int) ∈ ALLW := inT3 (List.mem_of_getElem? (i := 234) rfl) rfl
theorem ql_L_10 : Cond.classLink RL 10 RX4 ∈ ALLW := inT3 (List.mem_of_getElem? (i := 235) rfl) rfl
theorem qa_X4 : Cond.instantiable RX4 27 ∈ ALLW := inT3 (List.mem_of_getElem? (i := 236) rfl) rfl
theorem qm_L_12 : Cond.methodLink RL 12 yX4_init ∈ ALLW := inT3 (List.mem_of_getElem? (i := 237) rfl) rfl
theorem qi_X4_init : Cond.instanceMethod yX4_init ∈ ALLW := inT3 (List.mem_of_getElem? (i := 238) rfl) rfl
theorem qc_X4_init : Cond.code yX4_init cX4_init 2 none ∈ ALLW := inT3 (List.mem_of_getElem? (i := 239) rfl) rfl
theorem qm_X4_1 : Cond.methodLink RX4 1 objectInit ∈ ALLW := inT4 (List.mem_of_getElem? (i := 0) rfl) rfl
theorem ql_X4_25 : Cond.classLink RX4 25 RJ0 ∈ ALLW := inT4 (List.mem_of_getElem? (i := 1) rfl) rfl
theorem qf_X4_9 : Cond.fieldLink RX4 9 "PennyLedgeModel" "now" "[I" ∈ ALLW := inT4 (List.mem_of_getElem? (i := 13) rfl) rfl
theorem qf_X4_13 : Cond.fieldLink RX4 13 "PennyLedgeModel" "kept" "[I" ∈ ALLW := inT4 (List.mem_of_getElem? (i := 14) rfl) rfl
theorem qf_X4_16 : Cond.fieldLink RX4 16 "PennyLedgeModel" "aside" "[I" ∈ ALLW := inT4 (List.mem_of_getElem? (i := 15) rfl) rfl
theorem qf_X4_358 : Cond.fieldLink RX4 358 "PennyLedgeModel" "isKept" "Z" ∈ ALLW := inT4 (List.mem_of_getElem? (i := 16) rfl) rfl
theorem qf_X4_19 : Cond.fieldLink RX4 19 "PennyLedgeModel" "found" "[I" ∈ ALLW := inT4 (List.mem_of_getElem? (i := 17) rfl) rfl
theorem qf_X4_146 : Cond.fieldLink RX4 146 "PennyLedgeModel" "overMany" "I" ∈ ALLW := inT4 (List.mem_of_getElem? (i := 18) rfl) rfl
theorem qf_X4_159 : Cond.fieldLink RX4 159 "PennyLedgeModel" "moves" "I" ∈ ALLW := inT4 (List.mem_of_getElem? (i := 19) rfl) rfl
theorem qf_X4_239 : Cond.fieldLink RX4 239 "PennyLedgeModel" "bestThree" "I" ∈ ALLW := inT4 (List.mem_of_getElem? (i := 20) rfl) rfl
theorem qf_X4_245 : Cond.fieldLink RX4 245 "PennyLedgeModel" "mostThree" "I" ∈ ALLW := inT4 (List.mem_of_getElem? (i := 21) rfl) rfl
theorem qf_X4_254 : Cond.fieldLink RX4 254 "PennyLedgeModel" "soonWay" "I" ∈ ALLW := inT4 (List.mem_of_getElem? (i := 22) rfl) rfl
theorem qf_X4_22 : Cond.fieldLink RX4 22 "PennyLedgeModel" "tape" "[I" ∈ ALLW := inT4 (List.mem_of_getElem? (i := 23) rfl) rfl
theorem qf_X4_279 : Cond.fieldLink RX4 279 "PennyLedgeModel" "taped" "I" ∈ ALLW := inT4 (List.mem_of_getElem? (i := 24) rfl) rfl
theorem qf_X4_285 : Cond.fieldLink RX4 285 "PennyLedgeModel" "begins" "I" ∈ ALLW := inT4 (List.mem_of_getElem? (i := 25) rfl) rfl
theorem qf_X4_282 : Cond.fieldLink RX4 282 "PennyLedgeModel" "ends" "I" ∈ ALLW := inT4 (List.mem_of_getElem? (i := 26) rfl) rfl
theorem qf_X4_294 : Cond.fieldLink RX4 294 "PennyLedgeModel" "sort" "I" ∈ ALLW := inT4 (List.mem_of_getElem? (i := 27) rfl) rfl
theorem qf_X4_291 : Cond.fieldLink RX4 291 "PennyLedgeModel" "value" "I" ∈ ALLW := inT4 (List.mem_of_getElem? (i := 28) rfl) rfl
theorem qf_X4_304 : Cond.fieldLink RX4 304 "PennyLedgeModel" "isWrong" "Z" ∈ ALLW := inT4 (List.mem_of_getElem? (i := 29) rfl) rfl
theorem qf_X4_41 : Cond.fieldLink RX4 41 "PennyLedgeModel" "kinds" "[Ljava/lang/String;" ∈ ALLW := inT4 (List.mem_of_getElem? (i := 30) rfl) rfl
theorem qf_X4_51 : Cond.fieldLink RX4 51 "PennyLedgeModel" "sets" "[Ljava/lang/String;" ∈ ALLW := inT4 (List.mem_of_getElem? (i := 31) rfl) rfl
theorem qf_X4_54 : Cond.fieldLink RX4 54 "PennyLedgeModel" "items" "[I" ∈ ALLW := inT4 (List.mem_of_getElem? (i := 32) rfl) rfl
theorem qf_X4_315 : Cond.fieldLink RX4 315 "PennyLedgeModel" "itemMany" "I" ∈ ALLW := inT4 (List.mem_of_getElem? (i := 33) rfl) rfl
theorem qf_X4_326 : Cond.fieldLink RX4 326 "PennyLedgeModel" "coinThen" "I" ∈ ALLW := inT4 (List.mem_of_getElem? (i := 34) rfl) rfl
theorem qf_X4_57 : Cond.fieldLink RX4 57 "PennyLedgeModel" "highThen" "[I" ∈ ALLW := inT4 (List.mem_of_getElem? (i := 35) rfl) rfl
theorem qf_X4_60 : Cond.fieldLink RX4 60 "PennyLedgeModel" "widths" "[I" ∈ ALLW := inT4 (List.mem_of_getElem? (i := 36) rfl) rfl
theorem qf_X4_63 : Cond.fieldLink RX4 63 "PennyLedgeModel" "sizes" "[I" ∈ ALLW := inT4 (List.mem_of_getElem? (i := 37) rfl) rfl
theorem qf_X4_66 : Cond.fieldLink RX4 66 "PennyLedgeModel" "numbers" "[I" ∈ ALLW := inT4 (List.mem_of_getElem? (i := 38) rfl) rfl
theorem qf_X4_69 : Cond.fieldLink RX4 69 "PennyLedgeModel" "moved" "[I" ∈ ALLW := inT4 (List.mem_of_getElem? (i := 39) rfl) rfl
theorem qm_L_17 : Cond.methodLink RL 17 yX4_coin ∈ ALLW := inT4 (List.mem_of_getElem? (i := 95) rfl) rfl
theorem qi_X4_coin : Cond.instanceMethod yX4_coin ∈ ALLW := inT4 (List.mem_of_getElem? (i := 96) rfl) rfl
theorem qs_X4_coin : Cond.selects RX4 yX4_coin yX4_coin ∈ ALLW := inT4 (List.mem_of_getElem? (i := 97) rfl) rfl
theorem qc_X4_coin : Cond.code yX4_coin cX4_coin 2 (some .int) ∈ ALLW := inT4 (List.mem_of_getElem? (i := 98) rfl) rfl
theorem qm_X4_96 : Cond.methodLink RX4 96 yX4_isKind ∈ ALLW := inT4 (List.mem_of_getElem? (i := 99) rfl) rfl
theorem qs_X4_isKind : Cond.static yX4_isKind ∈ ALLW := inT4 (List.mem_of_getElem? (i := 100) rfl) rfl
theorem qc_X4_isKind : Cond.code yX4_isKind cX4_isKind 1 (some .boolean) ∈ ALLW := inT4 (List.mem_of_getElem? (i := 101) rfl) rfl
theorem qm_X4_77 : Cond.methodLink RX4 77 yX4_within ∈ ALLW := inT4 (List.mem_of_getElem? (i := 102) rfl) rfl
theorem qs_X4_within : Cond.static yX4_within ∈ ALLW := inT4 (List.mem_of_getElem? (i := 103) rfl) rfl
theorem qc_X4_within : Cond.code yX4_within cX4_within 3 (some .boolean) ∈ ALLW := inT4 (List.mem_of_getElem? (i := 104) rfl) rfl
theorem qk_X4_72 : Cond.constant RX4 72 (-1000001) ∈ ALLW := inT4 (List.mem_of_getElem? (i := 105) rfl) rfl
theorem qm_X4_99 : Cond.methodLink RX4 99 yX4_finding ∈ ALLW := inT4 (List.mem_of_getElem? (i := 106) rfl) rfl
theorem qi_X4_finding : Cond.instanceMethod yX4_finding ∈ ALLW := inT4 (List.mem_of_getElem? (i := 108) rfl) rfl
theorem qc_X4_finding : Cond.code yX4_finding cX4_finding 2 (some .int) ∈ ALLW := inT4 (List.mem_of_getElem? (i := 109) rfl) rfl
theorem qk_X4_102 : Cond.constant RX4 102 (-1000002) ∈ ALLW := inT4 (List.mem_of_getElem? (i := 110) rfl) rfl
theorem qm_X4_103 : Cond.methodLink RX4 103 yX4_struck ∈ ALLW := inT4 (List.mem_of_getElem? (i := 111) rfl) rfl
theorem qi_X4_struck : Cond.instanceMethod yX4_struck ∈ ALLW := inT4 (List.mem_of_getElem? (i := 113) rfl) rfl
theorem qc_X4_struck : Cond.code yX4_struck cX4_struck 3 (some .int) ∈ ALLW := inT4 (List.mem_of_getElem? (i := 114) rfl) rfl
theorem qm_L_22 : Cond.methodLink RL 22 yX4_of ∈ ALLW := inT4 (List.mem_of_getElem? (i := 115) rfl) rfl
theorem qi_X4_of : Cond.instanceMethod yX4_of ∈ ALLW := inT4 (List.mem_of_getElem? (i := 116) rfl) rfl
theorem qs_X4_of : Cond.selects RX4 yX4_of yX4_of ∈ ALLW := inT4 (List.mem_of_getElem? (i := 117) rfl) rfl
theorem qc_X4_of : Cond.code yX4_of cX4_of 6 (some .int) ∈ ALLW := inT4 (List.mem_of_getElem? (i := 118) rfl) rfl
theorem qm_X4_116 : Cond.methodLink RX4 116 yX4_isCoin ∈ ALLW := inT4 (List.mem_of_getElem? (i := 119) rfl) rfl
theorem qi_X4_isCoin : Cond.instanceMethod yX4_isCoin ∈ ALLW := inT4 (List.mem_of_getElem? (i := 121) rfl) rfl
theorem qc_X4_isCoin : Cond.code yX4_isCoin cX4_isCoin 2 (some .boolean) ∈ ALLW := inT4 (List.mem_of_getElem? (i := 122) rfl) rfl
theorem qm_X4_109 : Cond.methodLink RX4 109 yX4_kindOf ∈ ALLW := inT4 (List.mem_of_getElem? (i := 123) rfl) rfl
theorem qi_X4_kindOf : Cond.instanceMethod yX4_kindOf ∈ ALLW := inT4 (List.mem_of_getElem? (i := 125) rfl) rfl
theorem qc_X4_kindOf : Cond.code yX4_kindOf cX4_kindOf 2 (some .int) ∈ ALLW := inT4 (List.mem_of_getElem? (i := 126) rfl) rfl
theorem qm_X4_119 : Cond.methodLink RX4 119 yX4_cellOf ∈ ALLW := inT4 (List.mem_of_getElem? (i := 127) rfl) rfl
theorem qs_X4_cellOf : Cond.static yX4_cellOf ∈ ALLW := inT4 (List.mem_of_getElem? (i := 128) rfl) rfl
theorem qc_X4_cellOf : Cond.code yX4_cellOf cX4_cellOf 2 (some .int) ∈ ALLW := inT4 (List.mem_of_getElem? (i := 129) rfl) rfl
theorem qm_X4_85 : Cond.methodLink RX4 85 yX4_highOf ∈ ALLW := inT4 (List.mem_of_getElem? (i := 130) rfl) rfl
theorem qi_X4_highOf : Cond.instanceMethod yX4_highOf ∈ ALLW := inT4 (List.mem_of_getElem? (i := 132) rfl) rfl
theorem qc_X4_highOf : Cond.code yX4_highOf cX4_highOf 2 (some .int) ∈ ALLW := inT4 (List.mem_of_getElem? (i := 133) rfl) rfl
theorem qm_X4_89 : Cond.methodLink RX4 89 yX4_coinAt ∈ ALLW := inT4 (List.mem_of_getElem? (i := 134) rfl) rfl
theorem qi_X4_coinAt : Cond.instanceMethod yX4_coinAt ∈ ALLW := inT4 (List.mem_of_getElem? (i := 136) rfl) rfl
theorem qc_X4_coinAt : Cond.code yX4_coinAt cX4_coinAt 3 (some .int) ∈ ALLW := inT4 (List.mem_of_getElem? (i := 137) rfl) rfl
theorem qm_X4_122 : Cond.methodLink RX4 122 yX4_worth ∈ ALLW := inT4 (List.mem_of_getElem? (i := 138) rfl) rfl
theorem qi_X4_worth : Cond.instanceMethod yX4_worth ∈ ALLW := inT4 (List.mem_of_getElem? (i := 140) rfl) rfl
theorem qc_X4_worth : Cond.code yX4_worth cX4_worth 2 (some .int) ∈ ALLW := inT4 (List.mem_of_getElem? (i := 141) rfl) rfl
theorem qm_X4_125 : Cond.methodLink RX4 125 yX4_weighs ∈ ALLW := inT4 (List.mem_of_getElem? (i := 142) rfl) rfl
theorem qi_X4_weighs : Cond.instanceMethod yX4_weighs ∈ ALLW := inT4 (List.mem_of_getElem? (i := 144) rfl) rfl
theorem qc_X4_weighs : Cond.code yX4_weighs cX4_weighs 3 (some .int) ∈ ALLW := inT4 (List.mem_of_getElem? (i := 145) rfl) rfl
theorem qm_X4_112 : Cond.methodLink RX4 112 yX4_isUnder ∈ ALLW := inT4 (List.mem_of_getElem? (i := 146) rfl) rfl
theorem qs_X4_isUnder : Cond.static yX4_isUnder ∈ ALLW := inT4 (List.mem_of_getElem? (i := 147) rfl) rfl
theorem qc_X4_isUnder : Cond.code yX4_isUnder cX4_isUnder 3 (some .boolean) ∈ ALLW := inT4 (List.mem_of_getElem? (i := 148) rfl) rfl
theorem qm_X4_106 : Cond.methodLink RX4 106 yX4_above ∈ ALLW := inT4 (List.mem_of_getElem? (i := 149) rfl) rfl
theorem qs_X4_above : Cond.static yX4_above ∈ ALLW := inT4 (List.mem_of_getElem? (i := 150) rfl) rfl
theorem qc_X4_above : Cond.code yX4_above cX4_above 1 (some .int) ∈ ALLW := inT4 (List.mem_of_getElem? (i := 151) rfl) rfl
theorem qm_X4_128 : Cond.methodLink RX4 128 yX4_slides ∈ ALLW := inT4 (List.mem_of_getElem? (i := 152) rfl) rfl
theorem qi_X4_slides : Cond.instanceMethod yX4_slides ∈ ALLW := inT4 (List.mem_of_getElem? (i := 154) rfl) rfl
theorem qc_X4_slides : Cond.code yX4_slides cX4_slides 2 (some .boolean) ∈ ALLW := inT4 (List.mem_of_getElem? (i := 155) rfl) rfl
theorem qm_L_26 : Cond.methodLink RL 26 yX4_change ∈ ALLW := inT4 (List.mem_of_getElem? (i := 156) rfl) rfl
theorem qi_X4_change : Cond.instanceMethod yX4_change ∈ ALLW := inT4 (List.mem_of_getElem? (i := 157) rfl) rfl
theorem qs_X4_change : Cond.selects RX4 yX4_change yX4_change ∈ ALLW := inT4 (List.mem_of_getElem? (i := 158) rfl) rfl
theorem qc_X4_change : Cond.code yX4_change cX4_change 3 (some .int) ∈ ALLW := inT4 (List.mem_of_getElem? (i := 159) rfl) rfl
theorem qm_X4_131 : Cond.methodLink RX4 131 yX4_become ∈ ALLW := inT4 (List.mem_of_getElem? (i := 160) rfl) rfl
theorem qi_X4_become : Cond.instanceMethod yX4_become ∈ ALLW := inT4 (List.mem_of_getElem? (i := 162) rfl) rfl
theorem qc_X4_become : Cond.code yX4_become cX4_become 4 (some .int) ∈ ALLW := inT4 (List.mem_of_getElem? (i := 163) rfl) rfl
theorem qm_L_31 : Cond.methodLink RL 31 yX4_lay ∈ ALLW := inT4 (List.mem_of_getElem? (i := 164) rfl) rfl
theorem qi_X4_lay : Cond.instanceMethod yX4_lay ∈ ALLW := inT4 (List.mem_of_getElem? (i := 165) rfl) rfl
theorem qs_X4_lay : Cond.selects RX4 yX4_lay yX4_lay ∈ ALLW := inT4 (List.mem_of_getElem? (i := 166) rfl) rfl
theorem qc_X4_lay : Cond.code yX4_lay cX4_lay 5 (some .int) ∈ ALLW := inT4 (List.mem_of_getElem? (i := 167) rfl) rfl
theorem qm_X4_134 : Cond.methodLink RX4 134 yX4_isCell ∈ ALLW := inT4 (List.mem_of_getElem? (i := 168) rfl) rfl
theorem qs_X4_isCell : Cond.static yX4_isCell ∈ ALLW := inT4 (List.mem_of_getElem? (i := 169) rfl) rfl
theorem qc_X4_isCell : Cond.code yX4_isCell cX4_isCell 2 (some .boolean) ∈ ALLW := inT4 (List.mem_of_getElem? (i := 170) rfl) rfl
theorem qm_X4_81 : Cond.methodLink RX4 81 yX4_isColumn ∈ ALLW := inT4 (List.mem_of_getElem? (i := 171) rfl) rfl
theorem qs_X4_isColumn : Cond.static yX4_isColumn ∈ ALLW := inT4 (List.mem_of_getElem? (i := 172) rfl) rfl
theorem qc_X4_isColumn : Cond.code yX4_isColumn cX4_isColumn 1 (some .boolean) ∈ ALLW := inT4 (List.mem_of_getElem? (i := 173) rfl) rfl
theorem qk_X4_137 : Cond.constant RX4 137 (-1000005) ∈ ALLW := inT4 (List.mem_of_getElem? (i := 174) rfl) rfl
theorem qm_X4_138 : Cond.methodLink RX4 138 yX4_comesOn ∈ ALLW := inT4 (List.mem_of_getElem? (i := 175) rfl) rfl
theorem qi_X4_comesOn : Cond.instanceMethod yX4_comesOn ∈ ALLW := inT4 (List.mem_of_getElem? (i := 177) rfl) rfl
theorem qc_X4_comesOn : Cond.code yX4_comesOn cX4_comesOn 3 none ∈ ALLW := inT4 (List.mem_of_getElem? (i := 178) rfl) rfl
theorem qm_L_35 : Cond.methodLink RL 35 yX4_lift ∈ ALLW := inT4 (List.mem_of_getElem? (i := 179) rfl) rfl
theorem qi_X4_lift : Cond.instanceMethod yX4_lift ∈ ALLW := inT4 (List.mem_of_getElem? (i := 180) rfl) rfl
theorem qs_X4_lift : Cond.selects RX4 yX4_lift yX4_lift ∈ ALLW := inT4 (List.mem_of_getElem? (i := 181) rfl) rfl
theorem qc_X4_lift : Cond.code yX4_lift cX4_lift 5 (some .int) ∈ ALLW := inT4 (List.mem_of_getElem? (i := 182) rfl) rfl
theorem qk_X4_142 : Cond.constant RX4 142 (-1000004) ∈ ALLW := inT4 (List.mem_of_getElem? (i := 183) rfl) rfl
theorem qm_X4_143 : Cond.methodLink RX4 143 yX4_taken ∈ ALLW := inT4 (List.mem_of_getElem? (i := 184) rfl) rfl
theorem qi_X4_taken : Cond.instanceMethod yX4_taken ∈ ALLW := inT4 (List.mem_of_getElem? (i := 186) rfl) rfl
theorem qc_X4_taken : Cond.code yX4_taken cX4_taken 3 (some .int) ∈ ALLW := inT4 (List.mem_of_getElem? (i := 187) rfl) rfl
theorem qm_X4_93 : Cond.methodLink RX4 93 yX4_topOf ∈ ALLW := inT4 (List.mem_of_getElem? (i := 188) rfl) rfl
theorem qi_X4_topOf : Cond.instanceMethod yX4_topOf ∈ ALLW := inT4 (List.mem_of_getElem? (i := 190) rfl) rfl
theorem qc_X4_topOf : Cond.code yX4_topOf cX4_topOf 2 (some .int) ∈ ALLW := inT4 (List.mem_of_getElem? (i := 191) rfl) rfl
theorem qm_L_39 : Cond.methodLink RL 39 yX4_height ∈ ALLW := inT4 (List.mem_of_getElem? (i := 192) rfl) rfl
theorem qi_X4_height : Cond.instanceMethod yX4_height ∈ ALLW := inT4 (List.mem_of_getElem? (i := 193) rfl) rfl
theorem qs_X4_height : Cond.selects RX4 yX4_height yX4_height ∈ ALLW := inT4 (List.mem_of_getElem? (i := 194) rfl) rfl
theorem qc_X4_height : Cond.code yX4_height cX4_height 3 (some .int) ∈ ALLW := inT4 (List.mem_of_getElem? (i := 195) rfl) rfl
theorem qm_L_43 : Cond.methodLink RL 43 yX4_seen ∈ ALLW := inT4 (List.mem_of_getElem? (i := 196) rfl) rfl
theorem qi_X4_seen : Cond.instanceMethod yX4_seen ∈ ALLW := inT4 (List.mem_of_getElem? (i := 197) rfl) rfl
theorem qs_X4_seen : Cond.selects RX4 yX4_seen yX4_seen ∈ ALLW := inT4 (List.mem_of_getElem? (i := 198) rfl) rfl
theorem qc_X4_seen : Cond.code yX4_seen cX4_seen 5 (some .int) ∈ ALLW := inT4 (List.mem_of_getElem? (i := 199) rfl) rfl
theorem qm_L_47 : Cond.methodLink RL 47 yX4_set ∈ ALLW := inT4 (List.mem_of_getElem? (i := 200) rfl) rfl
theorem qi_X4_set : Cond.instanceMethod yX4_set ∈ ALLW := inT4 (List.mem_of_getElem? (i := 201) rfl) rfl
theorem qs_X4_set : Cond.selects RX4 yX4_set yX4_set ∈ ALLW := inT4 (List.mem_of_getElem? (i := 202) rfl) rfl
theorem qc_X4_set : Cond.code yX4_set cX4_set 4 (some .int) ∈ ALLW := inT4 (List.mem_of_getElem? (i := 203) rfl) rfl
theorem qm_L_51 : Cond.methodLink RL 51 yX4_drop ∈ ALLW := inT4 (List.mem_of_getElem? (i := 204) rfl) rfl
theorem qi_X4_drop : Cond.instanceMethod yX4_drop ∈ ALLW := inT4 (List.mem_of_getElem? (i := 205) rfl) rfl
theorem qs_X4_drop : Cond.selects RX4 yX4_drop yX4_drop ∈ ALLW := inT4 (List.mem_of_getElem? (i := 206) rfl) rfl
theorem qc_X4_drop : Cond.code yX4_drop cX4_drop 4 (some .int) ∈ ALLW := inT4 (List.mem_of_getElem? (i := 207) rfl) rfl
theorem qm_X4_183 : Cond.methodLink RX4 183 yX4_isInHand ∈ ALLW := inT4 (List.mem_of_getElem? (i := 208) rfl) rfl
theorem qi_X4_isInHand : Cond.instanceMethod yX4_isInHand ∈ ALLW := inT4 (List.mem_of_getElem? (i := 210) rfl) rfl
theorem qc_X4_isInHand : Cond.code yX4_isInHand cX4_isInHand 2 (some .boolean) ∈ ALLW := inT4 (List.mem_of_getElem? (i := 211) rfl) rfl
theorem qm_X4_186 : Cond.methodLink RX4 186 yX4_gain ∈ ALLW := inT4 (List.mem_of_getElem? (i := 212) rfl) rfl
theorem qi_X4_gain : Cond.instanceMethod yX4_gain ∈ ALLW := inT4 (List.mem_of_getElem? (i := 214) rfl) rfl
theorem qc_X4_gain : Cond.code yX4_gain cX4_gain 1 (some .int) ∈ ALLW := inT4 (List.mem_of_getElem? (i := 215) rfl) rfl
theorem qm_X4_177 : Cond.methodLink RX4 177 yX4_setOf ∈ ALLW := inT4 (List.mem_of_getElem? (i := 216) rfl) rfl
theorem qi_X4_setOf : Cond.instanceMethod yX4_setOf ∈ ALLW := inT4 (List.mem_of_getElem? (i := 218) rfl) rfl
theorem qc_X4_setOf : Cond.code yX4_setOf cX4_setOf 4 (some .int) ∈ ALLW := inT4 (List.mem_of_getElem? (i := 219) rfl) rfl
theorem qm_X4_180 : Cond.methodLink RX4 180 yX4_worthOf ∈ ALLW := inT4 (List.mem_of_getElem? (i := 220) rfl) rfl
theorem qi_X4_worthOf : Cond.instanceMethod yX4_worthOf ∈ ALLW := inT4 (List.mem_of_getElem? (i := 222) rfl) rfl
theorem qc_X4_worthOf : Cond.code yX4_worthOf cX4_worthOf 4 (some .int) ∈ ALLW := inT4 (List.mem_of_getElem? (i := 223) rfl) rfl
theorem qm_X4_190 : Cond.methodLink RX4 190 yX4_dropped ∈ ALLW := inT4 (List.mem_of_getElem? (i := 224) rfl) rfl
theorem qi_X4_dropped : Cond.instanceMethod yX4_dropped ∈ ALLW := inT4 (List.mem_of_getElem? (i := 226) rfl) rfl
theorem qc_X4_dropped : Cond.code yX4_dropped cX4_dropped 5 none ∈ ALLW := inT4 (List.mem_of_getElem? (i := 227) rfl) rfl
theorem qm_X4_174 : Cond.methodLink RX4 174 yX4_beat ∈ ALLW := inT4 (List.mem_of_getElem? (i := 228) rfl) rfl
theorem qi_X4_beat : Cond.instanceMethod yX4_beat ∈ ALLW := inT4 (List.mem_of_getElem? (i := 230) rfl) rfl
theorem qc_X4_beat : Cond.code yX4_beat cX4_beat 3 none ∈ ALLW := inT4 (List.mem_of_getElem? (i := 231) rfl) rfl
theorem qm_X4_162 : Cond.methodLink RX4 162 yX4_isMoved ∈ ALLW := inT4 (List.mem_of_getElem? (i := 232) rfl) rfl
theorem qi_X4_isMoved : Cond.instanceMethod yX4_isMoved ∈ ALLW := inT4 (List.mem_of_getElem? (i := 234) rfl) rfl
theorem qc_X4_isMoved : Cond.code yX4_isMoved cX4_isMoved 2 (some .boolean) ∈ ALLW := inT4 (List.mem_of_getElem? (i := 235) rfl) rfl
theorem qm_X4_150 : Cond.methodLink RX4 150 yX4_runOf ∈ ALLW := inT4 (List.mem_of_getElem? (i := 236) rfl) rfl
theorem qi_X4_runOf : Cond.instanceMethod yX4_runOf ∈ ALLW := inT4 (List.mem_of_getElem? (i := 238) rfl) rfl
theorem qc_X4_runOf : Cond.code yX4_runOf cX4_runOf 3 (some .int) ∈ ALLW := inT4 (List.mem_of_getElem? (i := 239) rfl) rfl
theorem qm_X4_153 : Cond.methodLink RX4 153 yX4_weightOf ∈ ALLW := inT5 (List.mem_of_getElem? (i := 0) rfl) rfl
theorem qi_X4_weightOf : Cond.instanceMethod yX4_weightOf ∈ ALLW := inT5 (List.mem_of_getElem? (i := 2) rfl) rfl
theorem qc_X4_weightOf : Cond.code yX4_weightOf cX4_weightOf 6 (some .int) ∈ ALLW := inT5 (List.mem_of_getElem? (i := 3) rfl) rfl
theorem qm_X4_165 : Cond.methodLink RX4 165 yX4_goesOn ∈ ALLW := inT5 (List.mem_of_getElem? (i := 4) rfl) rfl
theorem qi_X4_goesOn : Cond.instanceMethod yX4_goesOn ∈ ALLW := inT5 (List.mem_of_getElem? (i := 6) rfl) rfl
theorem qc_X4_goesOn : Cond.code yX4_goesOn cX4_goesOn 7 none ∈ ALLW := inT5 (List.mem_of_getElem? (i := 7) rfl) rfl
theorem qm_X4_156 : Cond.methodLink RX4 156 yX4_goesOver ∈ ALLW := inT5 (List.mem_of_getElem? (i := 8) rfl) rfl
theorem qi_X4_goesOver : Cond.instanceMethod yX4_goesOver ∈ ALLW := inT5 (List.mem_of_getElem? (i := 10) rfl) rfl
theorem qc_X4_goesOver : Cond.code yX4_goesOver cX4_goesOver 3 none ∈ ALLW := inT5 (List.mem_of_getElem? (i := 11) rfl) rfl
theorem qm_X4_168 : Cond.methodLink RX4 168 yX4_isLeaning ∈ ALLW := inT5 (List.mem_of_getElem? (i := 12) rfl) rfl
theorem qi_X4_isLeaning : Cond.instanceMethod yX4_isLeaning ∈ ALLW := inT5 (List.mem_of_getElem? (i := 14) rfl) rfl
theorem qc_X4_isLeaning : Cond.code yX4_isLeaning cX4_isLeaning 5 (some .boolean) ∈ ALLW := inT5 (List.mem_of_getElem? (i := 15) rfl) rfl
theorem qm_X4_171 : Cond.methodLink RX4 171 yX4_slidesOff ∈ ALLW := inT5 (List.mem_of_getElem? (i := 16) rfl) rfl
theorem qi_X4_slidesOff : Cond.instanceMethod yX4_slidesOff ∈ ALLW := inT5 (List.mem_of_getElem? (i := 18) rfl) rfl
theorem qc_X4_slidesOff : Cond.code yX4_slidesOff cX4_slidesOff 4 none ∈ ALLW := inT5 (List.mem_of_getElem? (i := 19) rfl) rfl
theorem qm_L_55 : Cond.methodLink RL 55 yX4_beats ∈ ALLW := inT5 (List.mem_of_getElem? (i := 20) rfl) rfl
theorem qi_X4_beats : Cond.instanceMethod yX4_beats ∈ ALLW := inT5 (List.mem_of_getElem? (i := 21) rfl) rfl
theorem qs_X4_beats : Cond.selects RX4 yX4_beats yX4_beats ∈ ALLW := inT5 (List.mem_of_getElem? (i := 22) rfl) rfl
theorem qc_X4_beats : Cond.code yX4_beats cX4_beats 2 (some .int) ∈ ALLW := inT5 (List.mem_of_getElem? (i := 23) rfl) rfl
theorem qm_X4_193 : Cond.methodLink RX4 193 yX4_isTooLate ∈ ALLW := inT5 (List.mem_of_getElem? (i := 24) rfl) rfl
theorem qi_X4_isTooLate : Cond.instanceMethod yX4_isTooLate ∈ ALLW := inT5 (List.mem_of_getElem? (i := 26) rfl) rfl
theorem qc_X4_isTooLate : Cond.code yX4_isTooLate cX4_isTooLate 2 (some .boolean) ∈ ALLW := inT5 (List.mem_of_getElem? (i := 27) rfl) rfl
theorem qm_X4_196 : Cond.methodLink RX4 196 yX4_beatsGo ∈ ALLW := inT5 (List.mem_of_getElem? (i := 28) rfl) rfl
theorem qi_X4_beatsGo : Cond.instanceMethod yX4_beatsGo ∈ ALLW := inT5 (List.mem_of_getElem? (i := 30) rfl) rfl
theorem qc_X4_beatsGo : Cond.code yX4_beatsGo cX4_beatsGo 4 (some .int) ∈ ALLW := inT5 (List.mem_of_getElem? (i := 31) rfl) rfl
theorem qm_L_59 : Cond.methodLink RL 59 yX4_now ∈ ALLW := inT5 (List.mem_of_getElem? (i := 32) rfl) rfl
theorem qi_X4_now : Cond.instanceMethod yX4_now ∈ ALLW := inT5 (List.mem_of_getElem? (i := 33) rfl) rfl
theorem qs_X4_now : Cond.selects RX4 yX4_now yX4_now ∈ ALLW := inT5 (List.mem_of_getElem? (i := 34) rfl) rfl
theorem qc_X4_now : Cond.code yX4_now cX4_now 2 (some .int) ∈ ALLW := inT5 (List.mem_of_getElem? (i := 35) rfl) rfl
theorem qm_L_63 : Cond.methodLink RL 63 yX4_run ∈ ALLW := inT5 (List.mem_of_getElem? (i := 36) rfl) rfl
theorem qi_X4_run : Cond.instanceMethod yX4_run ∈ ALLW := inT5 (List.mem_of_getElem? (i := 37) rfl) rfl
theorem qs_X4_run : Cond.selects RX4 yX4_run yX4_run ∈ ALLW := inT5 (List.mem_of_getElem? (i := 38) rfl) rfl
theorem qc_X4_run : Cond.code yX4_run cX4_run 2 (some .int) ∈ ALLW := inT5 (List.mem_of_getElem? (i := 39) rfl) rfl
theorem qm_L_67 : Cond.methodLink RL 67 yX4_weight ∈ ALLW := inT5 (List.mem_of_getElem? (i := 40) rfl) rfl
theorem qi_X4_weight : Cond.instanceMethod yX4_weight ∈ ALLW := inT5 (List.mem_of_getElem? (i := 41) rfl) rfl
theorem qs_X4_weight : Cond.selects RX4 yX4_weight yX4_weight ∈ ALLW := inT5 (List.mem_of_getElem? (i := 42) rfl) rfl
theorem qc_X4_weight : Cond.code yX4_weight cX4_weight 2 (some .int) ∈ ALLW := inT5 (List.mem_of_getElem? (i := 43) rfl) rfl
theorem qm_L_72 : Cond.methodLink RL 72 yX4_moved ∈ ALLW := inT5 (List.mem_of_getElem? (i := 44) rfl) rfl
theorem qi_X4_moved : Cond.instanceMethod yX4_moved ∈ ALLW := inT5 (List.mem_of_getElem? (i := 45) rfl) rfl
theorem qs_X4_moved : Cond.selects RX4 yX4_moved yX4_moved ∈ ALLW := inT5 (List.mem_of_getElem? (i := 46) rfl) rfl
theorem qc_X4_moved : Cond.code yX4_moved cX4_moved 3 (some .int) ∈ ALLW := inT5 (List.mem_of_getElem? (i := 47) rfl) rfl
theorem qm_L_76 : Cond.methodLink RL 76 yX4_leaning ∈ ALLW := inT5 (List.mem_of_getElem? (i := 48) rfl) rfl
theorem qi_X4_leaning : Cond.instanceMethod yX4_leaning ∈ ALLW := inT5 (List.mem_of_getElem? (i := 49) rfl) rfl
theorem qs_X4_leaning : Cond.selects RX4 yX4_leaning yX4_leaning ∈ ALLW := inT5 (List.mem_of_getElem? (i := 50) rfl) rfl
theorem qc_X4_leaning : Cond.code yX4_leaning cX4_leaning 4 (some .int) ∈ ALLW := inT5 (List.mem_of_getElem? (i := 51) rfl) rfl
theorem qm_L_80 : Cond.methodLink RL 80 yX4_ahead ∈ ALLW := inT5 (List.mem_of_getElem? (i := 52) rfl) rfl
theorem qi_X4_ahead : Cond.instanceMethod yX4_ahead ∈ ALLW := inT5 (List.mem_of_getElem? (i := 53) rfl) rfl
theorem qs_X4_ahead : Cond.selects RX4 yX4_ahead yX4_ahead ∈ ALLW := inT5 (List.mem_of_getElem? (i := 54) rfl) rfl
theorem qc_X4_ahead : Cond.code yX4_ahead cX4_ahead 5 (some .int) ∈ ALLW := inT5 (List.mem_of_getElem? (i := 55) rfl) rfl
theorem qm_X4_73 : Cond.methodLink RX4 73 yX4_copyRow ∈ ALLW := inT5 (List.mem_of_getElem? (i := 56) rfl) rfl
theorem qs_X4_copyRow : Cond.static yX4_copyRow ∈ ALLW := inT5 (List.mem_of_getElem? (i := 57) rfl) rfl
theorem qc_X4_copyRow : Cond.code yX4_copyRow cX4_copyRow 3 none ∈ ALLW := inT5 (List.mem_of_getElem? (i := 58) rfl) rfl
theorem qm_X4_204 : Cond.methodLink RX4 204 yX4_shelf ∈ ALLW := inT5 (List.mem_of_getElem? (i := 59) rfl) rfl
theorem qi_X4_shelf : Cond.instanceMethod yX4_shelf ∈ ALLW := inT5 (List.mem_of_getElem? (i := 61) rfl) rfl
theorem qc_X4_shelf : Cond.code yX4_shelf cX4_shelf 1 (some .int) ∈ ALLW := inT5 (List.mem_of_getElem? (i := 62) rfl) rfl
theorem qm_X4_207 : Cond.methodLink RX4 207 yX4_highest ∈ ALLW := inT5 (List.mem_of_getElem? (i := 63) rfl) rfl
theorem qi_X4_highest : Cond.instanceMethod yX4_highest ∈ ALLW := inT5 (List.mem_of_getElem? (i := 65) rfl) rfl
theorem qc_X4_highest : Cond.code yX4_highest cX4_highest 3 (some .int) ∈ ALLW := inT5 (List.mem_of_getElem? (i := 66) rfl) rfl
theorem qm_X4_199 : Cond.methodLink RX4 199 yJ9_max_7cf53 ∈ ALLW := inT5 (List.mem_of_getElem? (i := 67) rfl) rfl
theorem qm_X4_210 : Cond.methodLink RX4 210 yX4_putBack ∈ ALLW := inT5 (List.mem_of_getElem? (i := 68) rfl) rfl
theorem qi_X4_putBack : Cond.instanceMethod yX4_putBack ∈ ALLW := inT5 (List.mem_of_getElem? (i := 70) rfl) rfl
theorem qc_X4_putBack : Cond.code yX4_putBack cX4_putBack 2 (some .int) ∈ ALLW := inT5 (List.mem_of_getElem? (i := 71) rfl) rfl
theorem qm_L_84 : Cond.methodLink RL 84 yX4_falls ∈ ALLW := inT5 (List.mem_of_getElem? (i := 72) rfl) rfl
theorem qi_X4_falls : Cond.instanceMethod yX4_falls ∈ ALLW := inT5 (List.mem_of_getElem? (i := 73) rfl) rfl
theorem qs_X4_falls : Cond.selects RX4 yX4_falls yX4_falls ∈ ALLW := inT5 (List.mem_of_getElem? (i := 74) rfl) rfl
theorem qc_X4_falls : Cond.code yX4_falls cX4_falls 3 (some .int) ∈ ALLW := inT5 (List.mem_of_getElem? (i := 75) rfl) rfl
theorem qm_X4_213 : Cond.methodLink RX4 213 yX4_isOnShelf ∈ ALLW := inT5 (List.mem_of_getElem? (i := 76) rfl) rfl
theorem qi_X4_isOnShelf : Cond.instanceMethod yX4_isOnShelf ∈ ALLW := inT5 (List.mem_of_getElem? (i := 78) rfl) rfl
theorem qc_X4_isOnShelf : Cond.code yX4_isOnShelf cX4_isOnShelf 2 (some .boolean) ∈ ALLW := inT5 (List.mem_of_getElem? (i := 79) rfl) rfl
theorem qm_L_88 : Cond.methodLink RL 88 yX4_rest ∈ ALLW := inT5 (List.mem_of_getElem? (i := 80) rfl) rfl
theorem qi_X4_rest : Cond.instanceMethod yX4_rest ∈ ALLW := inT5 (List.mem_of_getElem? (i := 81) rfl) rfl
theorem qs_X4_rest : Cond.selects RX4 yX4_rest yX4_rest ∈ ALLW := inT5 (List.mem_of_getElem? (i := 82) rfl) rfl
theorem qc_X4_rest : Cond.code yX4_rest cX4_rest 4 (some .int) ∈ ALLW := inT5 (List.mem_of_getElem? (i := 83) rfl) rfl
theorem qm_L_92 : Cond.methodLink RL 92 yX4_brings ∈ ALLW := inT5 (List.mem_of_getElem? (i := 84) rfl) rfl
theorem qi_X4_brings : Cond.instanceMethod yX4_brings ∈ ALLW := inT5 (List.mem_of_getElem? (i := 85) rfl) rfl
theorem qs_X4_brings : Cond.selects RX4 yX4_brings yX4_brings ∈ ALLW := inT5 (List.mem_of_getElem? (i := 86) rfl) rfl
theorem qc_X4_brings : Cond.code yX4_brings cX4_brings 5 (some .int) ∈ ALLW := inT5 (List.mem_of_getElem? (i := 87) rfl) rfl
theorem qm_X4_216 : Cond.methodLink RX4 216 yX4_refuses ∈ ALLW := inT5 (List.mem_of_getElem? (i := 88) rfl) rfl
theorem qi_X4_refuses : Cond.instanceMethod yX4_refuses ∈ ALLW := inT5 (List.mem_of_getElem? (i := 90) rfl) rfl
theorem qc_X4_refuses : Cond.code yX4_refuses cX4_refuses 3 (some .int) ∈ ALLW := inT5 (List.mem_of_getElem? (i := 91) rfl) rfl
theorem qm_X4_219 : Cond.methodLink RX4 219 yX4_gainBy ∈ ALLW := inT5 (List.mem_of_getElem? (i := 92) rfl) rfl
theorem qi_X4_gainBy : Cond.instanceMethod yX4_gainBy ∈ ALLW := inT5 (List.mem_of_getElem? (i := 94) rfl) rfl
theorem qc_X4_gainBy : Cond.code yX4_gainBy cX4_gainBy 6 (some .int) ∈ ALLW := inT5 (List.mem_of_getElem? (i := 95) rfl) rfl
theorem qm_L_96 : Cond.methodLink RL 96 yX4_best ∈ ALLW := inT5 (List.mem_of_getElem? (i := 96) rfl) rfl
theorem qi_X4_best : Cond.instanceMethod yX4_best ∈ ALLW := inT5 (List.mem_of_getElem? (i := 97) rfl) rfl
theorem qs_X4_best : Cond.selects RX4 yX4_best yX4_best ∈ ALLW := inT5 (List.mem_of_getElem? (i := 98) rfl) rfl
theorem qc_X4_best : Cond.code yX4_best cX4_best 4 (some .int) ∈ ALLW := inT5 (List.mem_of_getElem? (i := 99) rfl) rfl
theorem qm_X4_223 : Cond.methodLink RX4 223 yX4_bestWay ∈ ALLW := inT5 (List.mem_of_getElem? (i := 100) rfl) rfl
theorem qi_X4_bestWay : Cond.instanceMethod yX4_bestWay ∈ ALLW := inT5 (List.mem_of_getElem? (i := 102) rfl) rfl
theorem qc_X4_bestWay : Cond.code yX4_bestWay cX4_bestWay 9 (some .int) ∈ ALLW := inT5 (List.mem_of_getElem? (i := 103) rfl) rfl
theorem qm_L_100 : Cond.methodLink RL 100 yX4_wait ∈ ALLW := inT5 (List.mem_of_getElem? (i := 104) rfl) rfl
theorem qi_X4_wait : Cond.instanceMethod yX4_wait ∈ ALLW := inT5 (List.mem_of_getElem? (i := 105) rfl) rfl
theorem qs_X4_wait : Cond.selects RX4 yX4_wait yX4_wait ∈ ALLW := inT5 (List.mem_of_getElem? (i := 106) rfl) rfl
theorem qc_X4_wait : Cond.code yX4_wait cX4_wait 4 (some .int) ∈ ALLW := inT5 (List.mem_of_getElem? (i := 107) rfl) rfl
theorem qm_L_104 : Cond.methodLink RL 104 yX4_three ∈ ALLW := inT5 (List.mem_of_getElem? (i := 108) rfl) rfl
theorem qi_X4_three : Cond.instanceMethod yX4_three ∈ ALLW := inT5 (List.mem_of_getElem? (i := 109) rfl) rfl
theorem qs_X4_three : Cond.selects RX4 yX4_three yX4_three ∈ ALLW := inT5 (List.mem_of_getElem? (i := 110) rfl) rfl
theorem qc_X4_three : Cond.code yX4_three cX4_three 3 (some .int) ∈ ALLW := inT5 (List.mem_of_getElem? (i := 111) rfl) rfl
theorem qm_X4_248 : Cond.methodLink RX4 248 yX4_refusesThree ∈ ALLW := inT5 (List.mem_of_getElem? (i := 112) rfl) rfl
theorem qi_X4_refusesThree : Cond.instanceMethod yX4_refusesThree ∈ ALLW := inT5 (List.mem_of_getElem? (i := 114) rfl) rfl
theorem qc_X4_refusesThree : Cond.code yX4_refusesThree cX4_refusesThree 5 (some .int) ∈ ALLW := inT5 (List.mem_of_getElem? (i := 115) rfl) rfl
theorem qm_X4_236 : Cond.methodLink RX4 236 yX4_bits ∈ ALLW := inT5 (List.mem_of_getElem? (i := 116) rfl) rfl
theorem qs_X4_bits : Cond.static yX4_bits ∈ ALLW := inT5 (List.mem_of_getElem? (i := 117) rfl) rfl
theorem qc_X4_bits : Cond.code yX4_bits cX4_bits 3 (some .int) ∈ ALLW := inT5 (List.mem_of_getElem? (i := 118) rfl) rfl
theorem qm_X4_227 : Cond.methodLink RX4 227 yX4_ways ∈ ALLW := inT5 (List.mem_of_getElem? (i := 119) rfl) rfl
theorem qs_X4_ways : Cond.static yX4_ways ∈ ALLW := inT5 (List.mem_of_getElem? (i := 120) rfl) rfl
theorem qc_X4_ways : Cond.code yX4_ways cX4_ways 1 (some .int) ∈ ALLW := inT5 (List.mem_of_getElem? (i := 121) rfl) rfl
theorem qm_X4_242 : Cond.methodLink RX4 242 yX4_dropsBy ∈ ALLW := inT5 (List.mem_of_getElem? (i := 122) rfl) rfl
theorem qi_X4_dropsBy : Cond.instanceMethod yX4_dropsBy ∈ ALLW := inT5 (List.mem_of_getElem? (i := 124) rfl) rfl
theorem qc_X4_dropsBy : Cond.code yX4_dropsBy cX4_dropsBy 4 none ∈ ALLW := inT5 (List.mem_of_getElem? (i := 125) rfl) rfl
theorem qm_X4_230 : Cond.methodLink RX4 230 yX4_leastInHand ∈ ALLW := inT5 (List.mem_of_getElem? (i := 126) rfl) rfl
theorem qi_X4_leastInHand : Cond.instanceMethod yX4_leastInHand ∈ ALLW := inT5 (List.mem_of_getElem? (i := 128) rfl) rfl
theorem qc_X4_leastInHand : Cond.code yX4_leastInHand cX4_leastInHand 2 (some .int) ∈ ALLW := inT5 (List.mem_of_getElem? (i := 129) rfl) rfl
theorem qm_X4_233 : Cond.methodLink RX4 233 yX4_columnOf ∈ ALLW := inT5 (List.mem_of_getElem? (i := 130) rfl) rfl
theorem qs_X4_columnOf : Cond.static yX4_columnOf ∈ ALLW := inT5 (List.mem_of_getElem? (i := 131) rfl) rfl
theorem qc_X4_columnOf : Cond.code yX4_columnOf cX4_columnOf 3 (some .int) ∈ ALLW := inT5 (List.mem_of_getElem? (i := 132) rfl) rfl
theorem qm_L_108 : Cond.methodLink RL 108 yX4_threeBring ∈ ALLW := inT5 (List.mem_of_getElem? (i := 133) rfl) rfl
theorem qi_X4_threeBring : Cond.instanceMethod yX4_threeBring ∈ ALLW := inT5 (List.mem_of_getElem? (i := 134) rfl) rfl
theorem qs_X4_threeBring : Cond.selects RX4 yX4_threeBring yX4_threeBring ∈ ALLW := inT5 (List.mem_of_getElem? (i := 135) rfl) rfl
theorem qc_X4_threeBring : Cond.code yX4_threeBring cX4_threeBring 3 (some .int) ∈ ALLW := inT5 (List.mem_of_getElem? (i := 136) rfl) rfl
theorem qm_L_112 : Cond.methodLink RL 112 yX4_soonest ∈ ALLW := inT5 (List.mem_of_getElem? (i := 137) rfl) rfl
theorem qi_X4_soonest : Cond.instanceMethod yX4_soonest ∈ ALLW := inT5 (List.mem_of_getElem? (i := 138) rfl) rfl
theorem qs_X4_soonest : Cond.selects RX4 yX4_soonest yX4_soonest ∈ ALLW := inT5 (List.mem_of_getElem? (i := 139) rfl) rfl
theorem qc_X4_soonest : Cond.code yX4_soonest cX4_soonest 4 (some .int) ∈ ALLW := inT5 (List.mem_of_getElem? (i := 140) rfl) rfl
theorem qm_X4_257 : Cond.methodLink RX4 257 yX4_refusesSoon ∈ ALLW := inT5 (List.mem_of_getElem? (i := 141) rfl) rfl
theorem qi_X4_refusesSoon : Cond.instanceMethod yX4_refusesSoon ∈ ALLW := inT5 (List.mem_of_getElem? (i := 143) rfl) rfl
theorem qc_X4_refusesSoon : Cond.code yX4_refusesSoon cX4_refusesSoon 2 (some .int) ∈ ALLW := inT5 (List.mem_of_getElem? (i := 144) rfl) rfl
theorem qm_X4_260 : Cond.methodLink RX4 260 yX4_findSoonest ∈ ALLW := inT5 (List.mem_of_getElem? (i := 145) rfl) rfl
theorem qi_X4_findSoonest : Cond.instanceMethod yX4_findSoonest ∈ ALLW := inT5 (List.mem_of_getElem? (i := 147) rfl) rfl
theorem qc_X4_findSoonest : Cond.code yX4_findSoonest cX4_findSoonest 5 (some .int) ∈ ALLW := inT5 (List.mem_of_getElem? (i := 148) rfl) rfl
theorem qm_X4_251 : Cond.methodLink RX4 251 yJ9_min_7cf53 ∈ ALLW := inT5 (List.mem_of_getElem? (i := 149) rfl) rfl
theorem qm_L_116 : Cond.methodLink RL 116 yX4_firstFor ∈ ALLW := inT5 (List.mem_of_getElem? (i := 150) rfl) rfl
theorem qi_X4_firstFor : Cond.instanceMethod yX4_firstFor ∈ ALLW := inT5 (List.mem_of_getElem? (i := 151) rfl) rfl
theorem qs_X4_firstFor : Cond.selects RX4 yX4_firstFor yX4_firstFor ∈ ALLW := inT5 (List.mem_of_getElem? (i := 152) rfl) rfl
theorem qc_X4_firstFor : Cond.code yX4_firstFor cX4_firstFor 4 (some .int) ∈ ALLW := inT5 (List.mem_of_getElem? (i := 153) rfl) rfl
theorem qm_L_121 : Cond.methodLink RL 121 yX4_ways_ ∈ ALLW := inT5 (List.mem_of_getElem? (i := 154) rfl) rfl
theorem qi_X4_ways_ : Cond.instanceMethod yX4_ways_ ∈ ALLW := inT5 (List.mem_of_getElem? (i := 155) rfl) rfl
theorem qs_X4_ways_ : Cond.selects RX4 yX4_ways_ yX4_ways_ ∈ ALLW := inT5 (List.mem_of_getElem? (i := 156) rfl) rfl
theorem qc_X4_ways_ : Cond.code yX4_ways_ cX4_ways_ 7 (some .long) ∈ ALLW := inT5 (List.mem_of_getElem? (i := 157) rfl) rfl
theorem qm_X4_263 : Cond.methodLink RX4 263 yX4_refusesWays ∈ ALLW := inT5 (List.mem_of_getElem? (i := 158) rfl) rfl
theorem qi_X4_refusesWays : Cond.instanceMethod yX4_refusesWays ∈ ALLW := inT5 (List.mem_of_getElem? (i := 160) rfl) rfl
theorem qc_X4_refusesWays : Cond.code yX4_refusesWays cX4_refusesWays 2 (some .int) ∈ ALLW := inT5 (List.mem_of_getElem? (i := 161) rfl) rfl
theorem qm_L_126 : Cond.methodLink RL 126 yX4_total ∈ ALLW := inT5 (List.mem_of_getElem? (i := 162) rfl) rfl
theorem qi_X4_total : Cond.instanceMethod yX4_total ∈ ALLW := inT5 (List.mem_of_getElem? (i := 163) rfl) rfl
theorem qs_X4_total : Cond.selects RX4 yX4_total yX4_total ∈ ALLW := inT5 (List.mem_of_getElem? (i := 164) rfl) rfl
theorem qc_X4_total : Cond.code yX4_total cX4_total 7 (some .long) ∈ ALLW := inT5 (List.mem_of_getElem? (i := 165) rfl) rfl
theorem qm_L_130 : Cond.methodLink RL 130 yX4_luck ∈ ALLW := inT5 (List.mem_of_getElem? (i := 166) rfl) rfl
theorem qi_X4_luck : Cond.instanceMethod yX4_luck ∈ ALLW := inT5 (List.mem_of_getElem? (i := 167) rfl) rfl
theorem qs_X4_luck : Cond.selects RX4 yX4_luck yX4_luck ∈ ALLW := inT5 (List.mem_of_getElem? (i := 168) rfl) rfl
theorem qc_X4_luck : Cond.code yX4_luck cX4_luck 7 (some .long) ∈ ALLW := inT5 (List.mem_of_getElem? (i := 169) rfl) rfl
theorem qm_L_134 : Cond.methodLink RL 134 yX4_play ∈ ALLW := inT5 (List.mem_of_getElem? (i := 170) rfl) rfl
theorem qi_X4_play : Cond.instanceMethod yX4_play ∈ ALLW := inT5 (List.mem_of_getElem? (i := 171) rfl) rfl
theorem qs_X4_play : Cond.selects RX4 yX4_play yX4_play ∈ ALLW := inT5 (List.mem_of_getElem? (i := 172) rfl) rfl
theorem qc_X4_play : Cond.code yX4_play cX4_play 4 (some .int) ∈ ALLW := inT5 (List.mem_of_getElem? (i := 173) rfl) rfl
theorem qm_X4_267 : Cond.methodLink RX4 267 yX4_drawn ∈ ALLW := inT5 (List.mem_of_getElem? (i := 174) rfl) rfl
theorem qi_X4_drawn : Cond.instanceMethod yX4_drawn ∈ ALLW := inT5 (List.mem_of_getElem? (i := 176) rfl) rfl
theorem qc_X4_drawn : Cond.code yX4_drawn cX4_drawn 2 (some .int) ∈ ALLW := inT5 (List.mem_of_getElem? (i := 177) rfl) rfl
theorem qk_X4_266 : Cond.constant RX4 266 (1103515245) ∈ ALLW := inT5 (List.mem_of_getElem? (i := 178) rfl) rfl
theorem qm_L_138 : Cond.methodLink RL 138 yX4_jolt ∈ ALLW := inT5 (List.mem_of_getElem? (i := 179) rfl) rfl
theorem qi_X4_jolt : Cond.instanceMethod yX4_jolt ∈ ALLW := inT5 (List.mem_of_getElem? (i := 180) rfl) rfl
theorem qs_X4_jolt : Cond.selects RX4 yX4_jolt yX4_jolt ∈ ALLW := inT5 (List.mem_of_getElem? (i := 181) rfl) rfl
theorem qc_X4_jolt : Cond.code yX4_jolt cX4_jolt 6 (some .int) ∈ ALLW := inT5 (List.mem_of_getElem? (i := 182) rfl) rfl
theorem qm_L_142 : Cond.methodLink RL 142 yX4_jolted ∈ ALLW := inT5 (List.mem_of_getElem? (i := 183) rfl) rfl
theorem qi_X4_jolted : Cond.instanceMethod yX4_jolted ∈ ALLW := inT5 (List.mem_of_getElem? (i := 184) rfl) rfl
theorem qs_X4_jolted : Cond.selects RX4 yX4_jolted yX4_jolted ∈ ALLW := inT5 (List.mem_of_getElem? (i := 185) rfl) rfl
theorem qc_X4_jolted : Cond.code yX4_jolted cX4_jolted 3 (some .int) ∈ ALLW := inT5 (List.mem_of_getElem? (i := 186) rfl) rfl
theorem qm_X4_270 : Cond.methodLink RX4 270 yX4_jolt ∈ ALLW := inT5 (List.mem_of_getElem? (i := 187) rfl) rfl
theorem qm_L_146 : Cond.methodLink RL 146 yX4_stroke ∈ ALLW := inT5 (List.mem_of_getElem? (i := 188) rfl) rfl
theorem qi_X4_stroke : Cond.instanceMethod yX4_stroke ∈ ALLW := inT5 (List.mem_of_getElem? (i := 189) rfl) rfl
theorem qs_X4_stroke : Cond.selects RX4 yX4_stroke yX4_stroke ∈ ALLW := inT5 (List.mem_of_getElem? (i := 190) rfl) rfl
theorem qc_X4_stroke : Cond.code yX4_stroke cX4_stroke 7 (some .int) ∈ ALLW := inT5 (List.mem_of_getElem? (i := 191) rfl) rfl
theorem qm_X4_273 : Cond.methodLink RX4 273 yX4_wonIn ∈ ALLW := inT5 (List.mem_of_getElem? (i := 192) rfl) rfl
theorem qi_X4_wonIn : Cond.instanceMethod yX4_wonIn ∈ ALLW := inT5 (List.mem_of_getElem? (i := 194) rfl) rfl
theorem qc_X4_wonIn : Cond.code yX4_wonIn cX4_wonIn 4 (some .int) ∈ ALLW := inT5 (List.mem_of_getElem? (i := 195) rfl) rfl
theorem qm_L_150 : Cond.methodLink RL 150 yX4_force ∈ ALLW := inT5 (List.mem_of_getElem? (i := 196) rfl) rfl
theorem qi_X4_force : Cond.instanceMethod yX4_force ∈ ALLW := inT5 (List.mem_of_getElem? (i := 197) rfl) rfl
theorem qs_X4_force : Cond.selects RX4 yX4_force yX4_force ∈ ALLW := inT5 (List.mem_of_getElem? (i := 198) rfl) rfl
theorem qc_X4_force : Cond.code yX4_force cX4_force 6 (some .int) ∈ ALLW := inT5 (List.mem_of_getElem? (i := 199) rfl) rfl
theorem qm_X4_276 : Cond.methodLink RX4 276 yX4_refusesShelf ∈ ALLW := inT5 (List.mem_of_getElem? (i := 200) rfl) rfl
theorem qi_X4_refusesShelf : Cond.instanceMethod yX4_refusesShelf ∈ ALLW := inT5 (List.mem_of_getElem? (i := 202) rfl) rfl
theorem qc_X4_refusesShelf : Cond.code yX4_refusesShelf cX4_refusesShelf 3 (some .int) ∈ ALLW := inT5 (List.mem_of_getElem? (i := 203) rfl) rfl
theorem qm_L_154 : Cond.methodLink RL 154 yX4_kindFor ∈ ALLW := inT5 (List.mem_of_getElem? (i := 204) rfl) rfl
theorem qi_X4_kindFor : Cond.instanceMethod yX4_kindFor ∈ ALLW := inT5 (List.mem_of_getElem? (i := 205) rfl) rfl
theorem qs_X4_kindFor : Cond.selects RX4 yX4_kindFor yX4_kindFor ∈ ALLW := inT5 (List.mem_of_getElem? (i := 206) rfl) rfl
theorem qc_X4_kindFor : Cond.code yX4_kindFor cX4_kindFor 9 (some .int) ∈ ALLW := inT5 (List.mem_of_getElem? (i := 207) rfl) rfl
theorem qm_L_158 : Cond.methodLink RL 158 yX4_seed ∈ ALLW := inT5 (List.mem_of_getElem? (i := 208) rfl) rfl
theorem qi_X4_seed : Cond.instanceMethod yX4_seed ∈ ALLW := inT5 (List.mem_of_getElem? (i := 209) rfl) rfl
theorem qs_X4_seed : Cond.selects RX4 yX4_seed yX4_seed ∈ ALLW := inT5 (List.mem_of_getElem? (i := 210) rfl) rfl
theorem qc_X4_seed : Cond.code yX4_seed cX4_seed 2 (some .int) ∈ ALLW := inT5 (List.mem_of_getElem? (i := 211) rfl) rfl
theorem qm_L_162 : Cond.methodLink RL 162 yX4_feed ∈ ALLW := inT5 (List.mem_of_getElem? (i := 212) rfl) rfl
theorem qi_X4_feed : Cond.instanceMethod yX4_feed ∈ ALLW := inT5 (List.mem_of_getElem? (i := 213) rfl) rfl
theorem qs_X4_feed : Cond.selects RX4 yX4_feed yX4_feed ∈ ALLW := inT5 (List.mem_of_getElem? (i := 214) rfl) rfl
theorem qc_X4_feed : Cond.code yX4_feed cX4_feed 4 (some .int) ∈ ALLW := inT5 (List.mem_of_getElem? (i := 215) rfl) rfl
theorem qm_L_166 : Cond.methodLink RL 166 yX4_wipe ∈ ALLW := inT5 (List.mem_of_getElem? (i := 216) rfl) rfl
theorem qi_X4_wipe : Cond.instanceMethod yX4_wipe ∈ ALLW := inT5 (List.mem_of_getElem? (i := 217) rfl) rfl
theorem qs_X4_wipe : Cond.selects RX4 yX4_wipe yX4_wipe ∈ ALLW := inT5 (List.mem_of_getElem? (i := 218) rfl) rfl
theorem qc_X4_wipe : Cond.code yX4_wipe cX4_wipe 2 (some .int) ∈ ALLW := inT5 (List.mem_of_getElem? (i := 219) rfl) rfl
theorem qm_L_170 : Cond.methodLink RL 170 yX4_text ∈ ALLW := inT5 (List.mem_of_getElem? (i := 220) rfl) rfl
theorem qi_X4_text : Cond.instanceMethod yX4_text ∈ ALLW := inT5 (List.mem_of_getElem? (i := 221) rfl) rfl
theorem qs_X4_text : Cond.selects RX4 yX4_text yX4_text ∈ ALLW := inT5 (List.mem_of_getElem? (i := 222) rfl) rfl
theorem qc_X4_text : Cond.code yX4_text cX4_text 2 (some .int) ∈ ALLW := inT5 (List.mem_of_getElem? (i := 223) rfl) rfl
theorem qm_X4_308 : Cond.methodLink RX4 308 yX4_next ∈ ALLW := inT5 (List.mem_of_getElem? (i := 224) rfl) rfl
theorem qi_X4_next : Cond.instanceMethod yX4_next ∈ ALLW := inT5 (List.mem_of_getElem? (i := 226) rfl) rfl
theorem qc_X4_next : Cond.code yX4_next cX4_next 2 none ∈ ALLW := inT5 (List.mem_of_getElem? (i := 227) rfl) rfl
theorem qm_X4_288 : Cond.methodLink RX4 288 yX4_byteAt ∈ ALLW := inT5 (List.mem_of_getElem? (i := 228) rfl) rfl
theorem qi_X4_byteAt : Cond.instanceMethod yX4_byteAt ∈ ALLW := inT5 (List.mem_of_getElem? (i := 230) rfl) rfl
theorem qc_X4_byteAt : Cond.code yX4_byteAt cX4_byteAt 2 (some .int) ∈ ALLW := inT5 (List.mem_of_getElem? (i := 231) rfl) rfl
theorem qm_X4_340 : Cond.methodLink RX4 340 yX4_readItem ∈ ALLW := inT5 (List.mem_of_getElem? (i := 232) rfl) rfl
theorem qi_X4_readItem : Cond.instanceMethod yX4_readItem ∈ ALLW := inT5 (List.mem_of_getElem? (i := 234) rfl) rfl
theorem qc_X4_readItem : Cond.code yX4_readItem cX4_readItem 4 none ∈ ALLW := inT5 (List.mem_of_getElem? (i := 235) rfl) rfl
theorem qm_X4_322 : Cond.methodLink RX4 322 yX4_which ∈ ALLW := inT5 (List.mem_of_getElem? (i := 236) rfl) rfl
theorem qi_X4_which : Cond.instanceMethod yX4_which ∈ ALLW := inT5 (List.mem_of_getElem? (i := 238) rfl) rfl
theorem qc_X4_which : Cond.code yX4_which cX4_which 4 (some .int) ∈ ALLW := inT5 (List.mem_of_getElem? (i := 239) rfl) rfl
theorem qm_X4_318 : Cond.methodLink RX4 318 yX4_isWord ∈ ALLW := inT6 (List.mem_of_getElem? (i := 0) rfl) rfl
theorem qi_X4_isWord : Cond.instanceMethod yX4_isWord ∈ ALLW := inT6 (List.mem_of_getElem? (i := 2) rfl) rfl
theorem qc_X4_isWord : Cond.code yX4_isWord cX4_isWord 4 (some .boolean) ∈ ALLW := inT6 (List.mem_of_getElem? (i := 3) rfl) rfl
theorem qm_X4_297 : Cond.methodLink RX4 297 yJ0_length_8abf5 ∈ ALLW := inT6 (List.mem_of_getElem? (i := 4) rfl) rfl
theorem qm_X4_300 : Cond.methodLink RX4 300 yJ0_charAt_5068e ∈ ALLW := inT6 (List.mem_of_getElem? (i := 5) rfl) rfl
theorem qm_X4_311 : Cond.methodLink RX4 311 yX4_must ∈ ALLW := inT6 (List.mem_of_getElem? (i := 6) rfl) rfl
theorem qi_X4_must : Cond.instanceMethod yX4_must ∈ ALLW := inT6 (List.mem_of_getElem? (i := 8) rfl) rfl
theorem qc_X4_must : Cond.code yX4_must cX4_must 2 none ∈ ALLW := inT6 (List.mem_of_getElem? (i := 9) rfl) rfl
theorem qm_X4_331 : Cond.methodLink RX4 331 yX4_readCell ∈ ALLW := inT6 (List.mem_of_getElem? (i := 11) rfl) rfl
theorem qi_X4_readCell : Cond.instanceMethod yX4_readCell ∈ ALLW := inT6 (List.mem_of_getElem? (i := 13) rfl) rfl
theorem qc_X4_readCell : Cond.code yX4_readCell cX4_readCell 4 (some .int) ∈ ALLW := inT6 (List.mem_of_getElem? (i := 14) rfl) rfl
theorem qm_X4_337 : Cond.methodLink RX4 337 yX4_number ∈ ALLW := inT6 (List.mem_of_getElem? (i := 15) rfl) rfl
theorem qi_X4_number : Cond.instanceMethod yX4_number ∈ ALLW := inT6 (List.mem_of_getElem? (i := 17) rfl) rfl
theorem qc_X4_number : Cond.code yX4_number cX4_number 4 (some .int) ∈ ALLW := inT6 (List.mem_of_getElem? (i := 18) rfl) rfl
theorem qm_X4_334 : Cond.methodLink RX4 334 yX4_item ∈ ALLW := inT6 (List.mem_of_getElem? (i := 19) rfl) rfl
theorem qi_X4_item : Cond.instanceMethod yX4_item ∈ ALLW := inT6 (List.mem_of_getElem? (i := 21) rfl) rfl
theorem qc_X4_item : Cond.code yX4_item cX4_item 3 none ∈ ALLW := inT6 (List.mem_of_getElem? (i := 22) rfl) rfl
theorem qm_X4_343 : Cond.methodLink RX4 343 yX4_isSo ∈ ALLW := inT6 (List.mem_of_getElem? (i := 23) rfl) rfl
theorem qi_X4_isSo : Cond.instanceMethod yX4_isSo ∈ ALLW := inT6 (List.mem_of_getElem? (i := 25) rfl) rfl
theorem qc_X4_isSo : Cond.code yX4_isSo cX4_isSo 4 none ∈ ALLW := inT6 (List.mem_of_getElem? (i := 26) rfl) rfl
theorem qm_L_174 : Cond.methodLink RL 174 yX4_hold ∈ ALLW := inT6 (List.mem_of_getElem? (i := 27) rfl) rfl
theorem qi_X4_hold : Cond.instanceMethod yX4_hold ∈ ALLW := inT6 (List.mem_of_getElem? (i := 28) rfl) rfl
theorem qs_X4_hold : Cond.selects RX4 yX4_hold yX4_hold ∈ ALLW := inT6 (List.mem_of_getElem? (i := 29) rfl) rfl
theorem qc_X4_hold : Cond.code yX4_hold cX4_hold 3 (some .int) ∈ ALLW := inT6 (List.mem_of_getElem? (i := 30) rfl) rfl
theorem qm_X4_346 : Cond.methodLink RX4 346 yX4_isSpot ∈ ALLW := inT6 (List.mem_of_getElem? (i := 31) rfl) rfl
theorem qs_X4_isSpot : Cond.static yX4_isSpot ∈ ALLW := inT6 (List.mem_of_getElem? (i := 32) rfl) rfl
theorem qc_X4_isSpot : Cond.code yX4_isSpot cX4_isSpot 1 (some .boolean) ∈ ALLW := inT6 (List.mem_of_getElem? (i := 33) rfl) rfl
theorem qm_L_178 : Cond.methodLink RL 178 yX4_as ∈ ALLW := inT6 (List.mem_of_getElem? (i := 34) rfl) rfl
theorem qi_X4_as : Cond.instanceMethod yX4_as ∈ ALLW := inT6 (List.mem_of_getElem? (i := 35) rfl) rfl
theorem qs_X4_as : Cond.selects RX4 yX4_as yX4_as ∈ ALLW := inT6 (List.mem_of_getElem? (i := 36) rfl) rfl
theorem qc_X4_as : Cond.code yX4_as cX4_as 4 (some .int) ∈ ALLW := inT6 (List.mem_of_getElem? (i := 37) rfl) rfl
theorem qk_X4_349 : Cond.constant RX4 349 (-1000006) ∈ ALLW := inT6 (List.mem_of_getElem? (i := 38) rfl) rfl
theorem qk_X4_350 : Cond.constant RX4 350 (-1000003) ∈ ALLW := inT6 (List.mem_of_getElem? (i := 39) rfl) rfl
theorem qm_L_182 : Cond.methodLink RL 182 yX4_sheet ∈ ALLW := inT6 (List.mem_of_getElem? (i := 40) rfl) rfl
theorem qi_X4_sheet : Cond.instanceMethod yX4_sheet ∈ ALLW := inT6 (List.mem_of_getElem? (i := 41) rfl) rfl
theorem qs_X4_sheet : Cond.selects RX4 yX4_sheet yX4_sheet ∈ ALLW := inT6 (List.mem_of_getElem? (i := 42) rfl) rfl
theorem qc_X4_sheet : Cond.code yX4_sheet cX4_sheet 5 (some .int) ∈ ALLW := inT6 (List.mem_of_getElem? (i := 43) rfl) rfl
theorem qm_X4_351 : Cond.methodLink RX4 351 yX4_isSheet ∈ ALLW := inT6 (List.mem_of_getElem? (i := 44) rfl) rfl
theorem qs_X4_isSheet : Cond.static yX4_isSheet ∈ ALLW := inT6 (List.mem_of_getElem? (i := 45) rfl) rfl
theorem qc_X4_isSheet : Cond.code yX4_isSheet cX4_isSheet 1 (some .boolean) ∈ ALLW := inT6 (List.mem_of_getElem? (i := 46) rfl) rfl
theorem qk_X4_354 : Cond.constant RX4 354 (-1000007) ∈ ALLW := inT6 (List.mem_of_getElem? (i := 47) rfl) rfl
theorem qm_L_186 : Cond.methodLink RL 186 yX4_write ∈ ALLW := inT6 (List.mem_of_getElem? (i := 48) rfl) rfl
theorem qi_X4_write : Cond.instanceMethod yX4_write ∈ ALLW := inT6 (List.mem_of_getElem? (i := 49) rfl) rfl
theorem qs_X4_write : Cond.selects RX4 yX4_write yX4_write ∈ ALLW := inT6 (List.mem_of_getElem? (i := 50) rfl) rfl
theorem qc_X4_write : Cond.code yX4_write cX4_write 4 (some .int) ∈ ALLW := inT6 (List.mem_of_getElem? (i := 51) rfl) rfl
theorem qm_X4_355 : Cond.methodLink RX4 355 yX4_cutTo ∈ ALLW := inT6 (List.mem_of_getElem? (i := 52) rfl) rfl
theorem qs_X4_cutTo : Cond.static yX4_cutTo ∈ ALLW := inT6 (List.mem_of_getElem? (i := 53) rfl) rfl
theorem qc_X4_cutTo : Cond.code yX4_cutTo cX4_cutTo 2 (some .int) ∈ ALLW := inT6 (List.mem_of_getElem? (i := 54) rfl) rfl
theorem qm_L_191 : Cond.methodLink RL 191 yX4_copy ∈ ALLW := inT6 (List.mem_of_getElem? (i := 55) rfl) rfl
theorem qi_X4_copy : Cond.instanceMethod yX4_copy ∈ ALLW := inT6 (List.mem_of_getElem? (i := 56) rfl) rfl
theorem qs_X4_copy : Cond.selects RX4 yX4_copy yX4_copy ∈ ALLW := inT6 (List.mem_of_getElem? (i := 57) rfl) rfl
theorem qc_X4_copy : Cond.code yX4_copy cX4_copy 7 (some .int) ∈ ALLW := inT6 (List.mem_of_getElem? (i := 58) rfl) rfl
theorem qm_L_195 : Cond.methodLink RL 195 yX4_load ∈ ALLW := inT6 (List.mem_of_getElem? (i := 59) rfl) rfl
theorem qi_X4_load : Cond.instanceMethod yX4_load ∈ ALLW := inT6 (List.mem_of_getElem? (i := 60) rfl) rfl
theorem qs_X4_load : Cond.selects RX4 yX4_load yX4_load ∈ ALLW := inT6 (List.mem_of_getElem? (i := 61) rfl) rfl
theorem qc_X4_load : Cond.code yX4_load cX4_load 3 (some .int) ∈ ALLW := inT6 (List.mem_of_getElem? (i := 62) rfl) rfl
theorem qm_L_199 : Cond.methodLink RL 199 yX4_judge ∈ ALLW := inT6 (List.mem_of_getElem? (i := 63) rfl) rfl
theorem qi_X4_judge : Cond.instanceMethod yX4_judge ∈ ALLW := inT6 (List.mem_of_getElem? (i := 64) rfl) rfl
theorem qs_X4_judge : Cond.selects RX4 yX4_judge yX4_judge ∈ ALLW := inT6 (List.mem_of_getElem? (i := 65) rfl) rfl
theorem qc_X4_judge : Cond.code yX4_judge cX4_judge 3 (some .int) ∈ ALLW := inT6 (List.mem_of_getElem? (i := 66) rfl) rfl
theorem qm_L_203 : Cond.methodLink RL 203 yX4_image ∈ ALLW := inT6 (List.mem_of_getElem? (i := 67) rfl) rfl
theorem qi_X4_image : Cond.instanceMethod yX4_image ∈ ALLW := inT6 (List.mem_of_getElem? (i := 68) rfl) rfl
theorem qs_X4_image : Cond.selects RX4 yX4_image yX4_image ∈ ALLW := inT6 (List.mem_of_getElem? (i := 69) rfl) rfl
theorem qc_X4_image : Cond.code yX4_image cX4_image 1 (some .int) ∈ ALLW := inT6 (List.mem_of_getElem? (i := 70) rfl) rfl
theorem qm_L_207 : Cond.methodLink RL 207 yX4_undo ∈ ALLW := inT6 (List.mem_of_getElem? (i := 71) rfl) rfl
theorem qi_X4_undo : Cond.instanceMethod yX4_undo ∈ ALLW := inT6 (List.mem_of_getElem? (i := 72) rfl) rfl
theorem qs_X4_undo : Cond.selects RX4 yX4_undo yX4_undo ∈ ALLW := inT6 (List.mem_of_getElem? (i := 73) rfl) rfl
theorem qc_X4_undo : Cond.code yX4_undo cX4_undo 1 (some .int) ∈ ALLW := inT6 (List.mem_of_getElem? (i := 74) rfl) rfl
theorem qm_L_211 : Cond.methodLink RL 211 yX4_tear ∈ ALLW := inT6 (List.mem_of_getElem? (i := 75) rfl) rfl
theorem qi_X4_tear : Cond.instanceMethod yX4_tear ∈ ALLW := inT6 (List.mem_of_getElem? (i := 76) rfl) rfl
theorem qs_X4_tear : Cond.selects RX4 yX4_tear yX4_tear ∈ ALLW := inT6 (List.mem_of_getElem? (i := 77) rfl) rfl
theorem qc_X4_tear : Cond.code yX4_tear cX4_tear 2 (some .int) ∈ ALLW := inT6 (List.mem_of_getElem? (i := 78) rfl) rfl
theorem qm_L_215 : Cond.methodLink RL 215 yX4_count ∈ ALLW := inT6 (List.mem_of_getElem? (i := 79) rfl) rfl
theorem qi_X4_count : Cond.instanceMethod yX4_count ∈ ALLW := inT6 (List.mem_of_getElem? (i := 80) rfl) rfl
theorem qs_X4_count : Cond.selects RX4 yX4_count yX4_count ∈ ALLW := inT6 (List.mem_of_getElem? (i := 81) rfl) rfl
theorem qc_X4_count : Cond.code yX4_count cX4_count 4 (some .int) ∈ ALLW := inT6 (List.mem_of_getElem? (i := 82) rfl) rfl
theorem qm_L_219 : Cond.methodLink RL 219 yX4_status ∈ ALLW := inT6 (List.mem_of_getElem? (i := 83) rfl) rfl
theorem qi_X4_status : Cond.instanceMethod yX4_status ∈ ALLW := inT6 (List.mem_of_getElem? (i := 84) rfl) rfl
theorem qs_X4_status : Cond.selects RX4 yX4_status yX4_status ∈ ALLW := inT6 (List.mem_of_getElem? (i := 85) rfl) rfl
theorem qc_X4_status : Cond.code yX4_status cX4_status 2 (some .int) ∈ ALLW := inT6 (List.mem_of_getElem? (i := 86) rfl) rfl
theorem qf_J0_9 : Cond.fieldLink RJ0 9 "java/lang/String" "value" "[B" ∈ ALLW := inT6 (List.mem_of_getElem? (i := 87) rfl) rfl
theorem qf_J0_15 : Cond.fieldLink RJ0 15 "java/lang/String" "coder" "B" ∈ ALLW := inT6 (List.mem_of_getElem? (i := 88) rfl) rfl
theorem qs_X3_found : Cond.selects RX3 yX3_found yX3_found ∈ ALLW := inV1 (List.mem_of_getElem? (i := 0) rfl)
theorem qs_X3_isCoin : Cond.selects RX3 yX3_isCoin yX3_isCoin ∈ ALLW := inV1 (List.mem_of_getElem? (i := 1) rfl)
theorem qs_X3_passesEnd : Cond.selects RX3 yX3_passesEnd yX3_passesEnd ∈ ALLW := inV1 (List.mem_of_getElem? (i := 2) rfl)
theorem qs_X3_isSearched : Cond.selects RX3 yX3_isSearched yX3_isSearched ∈ ALLW := inV1 (List.mem_of_getElem? (i := 3) rfl)
theorem qs_X3_gainBy : Cond.selects RX3 yX3_gainBy yX3_gainBy ∈ ALLW := inV1 (List.mem_of_getElem? (i := 4) rfl)
theorem qs_X3_canDrop : Cond.selects RX3 yX3_canDrop yX3_canDrop ∈ ALLW := inV1 (List.mem_of_getElem? (i := 5) rfl)
theorem qs_X3_gainOfThree : Cond.selects RX3 yX3_gainOfThree yX3_gainOfThree ∈ ALLW := inV1 (List.mem_of_getElem? (i := 6) rfl)
theorem qs_X3_walk : Cond.selects RX3 yX3_walk yX3_walk ∈ ALLW := inV1 (List.mem_of_getElem? (i := 7) rfl)
theorem qs_X3_soonestWay : Cond.selects RX3 yX3_soonestWay yX3_soonestWay ∈ ALLW := inV1 (List.mem_of_getElem? (i := 8) rfl)
theorem qs_X3_readText : Cond.selects RX3 yX3_readText yX3_readText ∈ ALLW := inV1 (List.mem_of_getElem? (i := 9) rfl)
theorem qs_X3_readItem : Cond.selects RX3 yX3_readItem yX3_readItem ∈ ALLW := inV1 (List.mem_of_getElem? (i := 10) rfl)
theorem qs_X3_readCoin : Cond.selects RX3 yX3_readCoin yX3_readCoin ∈ ALLW := inV1 (List.mem_of_getElem? (i := 11) rfl)
theorem qs_X3_readSetting : Cond.selects RX3 yX3_readSetting yX3_readSetting ∈ ALLW := inV1 (List.mem_of_getElem? (i := 12) rfl)
theorem qs_X4_finding : Cond.selects RX4 yX4_finding yX4_finding ∈ ALLW := inV1 (List.mem_of_getElem? (i := 13) rfl)
theorem qs_X4_struck : Cond.selects RX4 yX4_struck yX4_struck ∈ ALLW := inV1 (List.mem_of_getElem? (i := 14) rfl)
theorem qs_X4_isCoin : Cond.selects RX4 yX4_isCoin yX4_isCoin ∈ ALLW := inV1 (List.mem_of_getElem? (i := 15) rfl)
theorem qs_X4_kindOf : Cond.selects RX4 yX4_kindOf yX4_kindOf ∈ ALLW := inV2 (List.mem_of_getElem? (i := 0) rfl)
theorem qs_X4_highOf : Cond.selects RX4 yX4_highOf yX4_highOf ∈ ALLW := inV2 (List.mem_of_getElem? (i := 1) rfl)
theorem qs_X4_coinAt : Cond.selects RX4 yX4_coinAt yX4_coinAt ∈ ALLW := inV2 (List.mem_of_getElem? (i := 2) rfl)
theorem qs_X4_worth : Cond.selects RX4 yX4_worth yX4_worth ∈ ALLW := inV2 (List.mem_of_getElem? (i := 3) rfl)
theorem qs_X4_weighs : Cond.selects RX4 yX4_weighs yX4_weighs ∈ ALLW := inV2 (List.mem_of_getElem? (i := 4) rfl)
theorem qs_X4_slides : Cond.selects RX4 yX4_slides yX4_slides ∈ ALLW := inV2 (List.mem_of_getElem? (i := 5) rfl)
theorem qs_X4_become : Cond.selects RX4 yX4_become yX4_become ∈ ALLW := inV2 (List.mem_of_getElem? (i := 6) rfl)
theorem qs_X4_comesOn : Cond.selects RX4 yX4_comesOn yX4_comesOn ∈ ALLW := inV2 (List.mem_of_getElem? (i := 7) rfl)
theorem qs_X4_taken : Cond.selects RX4 yX4_taken yX4_taken ∈ ALLW := inV2 (List.mem_of_getElem? (i := 8) rfl)
theorem qs_X4_topOf : Cond.selects RX4 yX4_topOf yX4_topOf ∈ ALLW := inV2 (List.mem_of_getElem? (i := 9) rfl)
theorem qs_X4_isInHand : Cond.selects RX4 yX4_isInHand yX4_isInHand ∈ ALLW := inV2 (List.mem_of_getElem? (i := 10) rfl)
theorem qs_X4_gain : Cond.selects RX4 yX4_gain yX4_gain ∈ ALLW := inV2 (List.mem_of_getElem? (i := 11) rfl)
theorem qs_X4_setOf : Cond.selects RX4 yX4_setOf yX4_setOf ∈ ALLW := inV2 (List.mem_of_getElem? (i := 12) rfl)
theorem qs_X4_worthOf : Cond.selects RX4 yX4_worthOf yX4_worthOf ∈ ALLW := inV2 (List.mem_of_getElem? (i := 13) rfl)
theorem qs_X4_dropped : Cond.selects RX4 yX4_dropped yX4_dropped ∈ ALLW := inV2 (List.mem_of_getElem? (i := 14) rfl)
theorem qs_X4_beat : Cond.selects RX4 yX4_beat yX4_beat ∈ ALLW := inV2 (List.mem_of_getElem? (i := 15) rfl)
theorem qs_X4_isMoved : Cond.selects RX4 yX4_isMoved yX4_isMoved ∈ ALLW := inV3 (List.mem_of_getElem? (i := 0) rfl)
theorem qs_X4_runOf : Cond.selects RX4 yX4_runOf yX4_runOf ∈ ALLW := inV3 (List.mem_of_getElem? (i := 1) rfl)
theorem qs_X4_weightOf : Cond.selects RX4 yX4_weightOf yX4_weightOf ∈ ALLW := inV3 (List.mem_of_getElem? (i := 2) rfl)
theorem qs_X4_goesOn : Cond.selects RX4 yX4_goesOn yX4_goesOn ∈ ALLW := inV3 (List.mem_of_getElem? (i := 3) rfl)
theorem qs_X4_goesOver : Cond.selects RX4 yX4_goesOver yX4_goesOver ∈ ALLW := inV3 (List.mem_of_getElem? (i := 4) rfl)
theorem qs_X4_isLeaning : Cond.selects RX4 yX4_isLeaning yX4_isLeaning ∈ ALLW := inV3 (List.mem_of_getElem? (i := 5) rfl)
theorem qs_X4_slidesOff : Cond.selects RX4 yX4_slidesOff yX4_slidesOff ∈ ALLW := inV3 (List.mem_of_getElem? (i := 6) rfl)
theorem qs_X4_isTooLate : Cond.selects RX4 yX4_isTooLate yX4_isTooLate ∈ ALLW := inV3 (List.mem_of_getElem? (i := 7) rfl)
theorem qs_X4_beatsGo : Cond.selects RX4 yX4_beatsGo yX4_beatsGo ∈ ALLW := inV3 (List.mem_of_getElem? (i := 8) rfl)
theorem qs_X4_shelf : Cond.selects RX4 yX4_shelf yX4_shelf ∈ ALLW := inV3 (List.mem_of_getElem? (i := 9) rfl)
theorem qs_X4_highest : Cond.selects RX4 yX4_highest yX4_highest ∈ ALLW := inV3 (List.mem_of_getElem? (i := 10) rfl)
theorem qs_X4_putBack : Cond.selects RX4 yX4_putBack yX4_putBack ∈ ALLW := inV3 (List.mem_of_getElem? (i := 11) rfl)
theorem qs_X4_isOnShelf : Cond.selects RX4 yX4_isOnShelf yX4_isOnShelf ∈ ALLW := inV3 (List.mem_of_getElem? (i := 12) rfl)
theorem qs_X4_refuses : Cond.selects RX4 yX4_refuses yX4_refuses ∈ ALLW := inV3 (List.mem_of_getElem? (i := 13) rfl)
theorem qs_X4_gainBy : Cond.selects RX4 yX4_gainBy yX4_gainBy ∈ ALLW := inV3 (List.mem_of_getElem? (i := 14) rfl)
theorem qs_X4_bestWay : Cond.selects RX4 yX4_bestWay yX4_bestWay ∈ ALLW := inV3 (List.mem_of_getElem? (i := 15) rfl)
theorem qs_X4_refusesThree : Cond.selects RX4 yX4_refusesThree yX4_refusesThree ∈ ALLW := inV4 (List.mem_of_getElem? (i := 0) rfl)
theorem qs_X4_dropsBy : Cond.selects RX4 yX4_dropsBy yX4_dropsBy ∈ ALLW := inV4 (List.mem_of_getElem? (i := 1) rfl)
theorem qs_X4_leastInHand : Cond.selects RX4 yX4_leastInHand yX4_leastInHand ∈ ALLW := inV4 (List.mem_of_getElem? (i := 2) rfl)
theorem qs_X4_refusesSoon : Cond.selects RX4 yX4_refusesSoon yX4_refusesSoon ∈ ALLW := inV4 (List.mem_of_getElem? (i := 3) rfl)
theorem qs_X4_findSoonest : Cond.selects RX4 yX4_findSoonest yX4_findSoonest ∈ ALLW := inV4 (List.mem_of_getElem? (i := 4) rfl)
theorem qs_X4_refusesWays : Cond.selects RX4 yX4_refusesWays yX4_refusesWays ∈ ALLW := inV4 (List.mem_of_getElem? (i := 5) rfl)
theorem qs_X4_drawn : Cond.selects RX4 yX4_drawn yX4_drawn ∈ ALLW := inV4 (List.mem_of_getElem? (i := 6) rfl)
theorem qs_X4_wonIn : Cond.selects RX4 yX4_wonIn yX4_wonIn ∈ ALLW := inV4 (List.mem_of_getElem? (i := 7) rfl)
theorem qs_X4_refusesShelf : Cond.selects RX4 yX4_refusesShelf yX4_refusesShelf ∈ ALLW := inV4 (List.mem_of_getElem? (i := 8) rfl)
theorem qs_X4_next : Cond.selects RX4 yX4_next yX4_next ∈ ALLW := inV4 (List.mem_of_getElem? (i := 9) rfl)
theorem qs_X4_byteAt : Cond.selects RX4 yX4_byteAt yX4_byteAt ∈ ALLW := inV4 (List.mem_of_getElem? (i := 10) rfl)
theorem qs_X4_readItem : Cond.selects RX4 yX4_readItem yX4_readItem ∈ ALLW := inV4 (List.mem_of_getElem? (i := 11) rfl)
theorem qs_X4_which : Cond.selects RX4 yX4_which yX4_which ∈ ALLW := inV4 (List.mem_of_getElem? (i := 12) rfl)
theorem qs_X4_isWord : Cond.selects RX4 yX4_isWord yX4_isWord ∈ ALLW := inV4 (List.mem_of_getElem? (i := 13) rfl)
theorem qs_X4_must : Cond.selects RX4 yX4_must yX4_must ∈ ALLW := inV4 (List.mem_of_getElem? (i := 14) rfl)
theorem qs_X4_readCell : Cond.selects RX4 yX4_readCell yX4_readCell ∈ ALLW := inV4 (List.mem_of_getElem? (i := 15) rfl)
theorem qs_X4_number : Cond.selects RX4 yX4_number yX4_number ∈ ALLW := inV5 (List.mem_of_getElem? (i := 0) rfl)
theorem qs_X4_item : Cond.selects RX4 yX4_item yX4_item ∈ ALLW := inV5 (List.mem_of_getElem? (i := 1) rfl)
theorem qs_X4_isSo : Cond.selects RX4 yX4_isSo yX4_isSo ∈ ALLW := inV5 (List.mem_of_getElem? (i := 2) rfl)
theorem inX0 : ∀ w ∈ u_ws RX0 TX0 3, w ∈ ALLW := by
  intro w h
  obtain ⟨k, hk, rfl⟩ := List.mem_map.mp h
  replace hk := List.mem_range.mp hk
  clear h
  match k, hk with
  | 0, _ => exact inT1 (List.mem_of_getElem? (i := 112) rfl) rfl
  | 1, _ => exact inT1 (List.mem_of_getElem? (i := 114) rfl) rfl
  | 2, _ => exact inT1 (List.mem_of_getElem? (i := 116) rfl) rfl
  | k + 3, hk => exact absurd hk (by omega)
theorem inX1 : ∀ w ∈ u_ws RX1 TX1 10, w ∈ ALLW := by
  intro w h
  obtain ⟨k, hk, rfl⟩ := List.mem_map.mp h
  replace hk := List.mem_range.mp hk
  clear h
  match k, hk with
  | 0, _ => exact inT1 (List.mem_of_getElem? (i := 47) rfl) rfl
  | 1, _ => exact inT1 (List.mem_of_getElem? (i := 49) rfl) rfl
  | 2, _ => exact inT1 (List.mem_of_getElem? (i := 51) rfl) rfl
  | 3, _ => exact inT1 (List.mem_of_getElem? (i := 53) rfl) rfl
  | 4, _ => exact inT1 (List.mem_of_getElem? (i := 55) rfl) rfl
  | 5, _ => exact inT1 (List.mem_of_getElem? (i := 57) rfl) rfl
  | 6, _ => exact inT1 (List.mem_of_getElem? (i := 59) rfl) rfl
  | 7, _ => exact inT1 (List.mem_of_getElem? (i := 61) rfl) rfl
  | 8, _ => exact inT1 (List.mem_of_getElem? (i := 63) rfl) rfl
  | 9, _ => exact inT1 (List.mem_of_getElem? (i := 65) rfl) rfl
  | k + 10, hk => exact absurd hk (by omega)
theorem inX2 : ∀ w ∈ u_ws RX2 TX2 6, w ∈ ALLW := by
  intro w h
  obtain ⟨k, hk, rfl⟩ := List.mem_map.mp h
  replace hk := List.mem_range.mp hk
  clear h
  match k, hk with
  | 0, _ => exact inT1 (List.mem_of_getElem? (i := 86) rfl) rfl
  | 1, _ => exact inT1 (List.mem_of_getElem? (i := 88) rfl) rfl
  | 2, _ => exact inT1 (List.mem_of_getElem? (i := 90) rfl) rfl
  | 3, _ => exact inT1 (List.mem_of_getElem? (i := 92) rfl) rfl
  | 4, _ => exact inT1 (List.mem_of_getElem? (i := 94) rfl) rfl
  | 5, _ => exact inT1 (List.mem_of_getElem? (i := 96) rfl) rfl
  | k + 6, hk => exact absurd hk (by omega)
theorem inX3 : ∀ w ∈ u_ws RX3 TX3 8, w ∈ ALLW := by
  intro w h
  obtain ⟨k, hk, rfl⟩ := List.mem_map.mp h
  replace hk := List.mem_range.mp hk
  clear h
  match k, hk with
  | 0, _ => exact inT1 (List.mem_of_getElem? (i := 127) rfl) rfl
  | 1, _ => exact inT1 (List.mem_of_getElem? (i := 129) rfl) rfl
  | 2, _ => exact inT1 (List.mem_of_getElem? (i := 131) rfl) rfl
  | 3, _ => exact inT1 (List.mem_of_getElem? (i := 133) rfl) rfl
  | 4, _ => exact inT1 (List.mem_of_getElem? (i := 135) rfl) rfl
  | 5, _ => exact inT1 (List.mem_of_getElem? (i := 137) rfl) rfl
  | 6, _ => exact inT1 (List.mem_of_getElem? (i := 139) rfl) rfl
  | 7, _ => exact inT1 (List.mem_of_getElem? (i := 141) rfl) rfl
  | k + 8, hk => exact absurd hk (by omega)
theorem inX4 : ∀ w ∈ u_ws RX4 TX4 27, w ∈ ALLW := by
  intro w h
  obtain ⟨k, hk, rfl⟩ := List.mem_map.mp h
  replace hk := List.mem_range.mp hk
  clear h
  match k, hk with
  | 0, _ => exact inT4 (List.mem_of_getElem? (i := 40) rfl) rfl
  | 1, _ => exact inT4 (List.mem_of_getElem? (i := 42) rfl) rfl
  | 2, _ => exact inT4 (List.mem_of_getElem? (i := 44) rfl) rfl
  | 3, _ => exact inT4 (List.mem_of_getElem? (i := 46) rfl) rfl
  | 4, _ => exact inT4 (List.mem_of_getElem? (i := 48) rfl) rfl
  | 5, _ => exact inT4 (List.mem_of_getElem? (i := 50) rfl) rfl
  | 6, _ => exact inT4 (List.mem_of_getElem? (i := 52) rfl) rfl
  | 7, _ => exact inT4 (List.mem_of_getElem? (i := 54) rfl) rfl
  | 8, _ => exact inT4 (List.mem_of_getElem? (i := 56) rfl) rfl
  | 9, _ => exact inT4 (List.mem_of_getElem? (i := 58) rfl) rfl
  | 10, _ => exact inT4 (List.mem_of_getElem? (i := 60) rfl) rfl
  | 11, _ => exact inT4 (List.mem_of_getElem? (i := 62) rfl) rfl
  | 12, _ => exact inT4 (List.mem_of_getElem? (i := 64) rfl) rfl
  | 13, _ => exact inT4 (List.mem_of_getElem? (i := 66) rfl) rfl
  | 14, _ => exact inT4 (List.mem_of_getElem? (i := 68) rfl) rfl
  | 15, _ => exact inT4 (List.mem_of_getElem? (i := 70) rfl) rfl
  | 16, _ => exact inT4 (List.mem_of_getElem? (i := 72) rfl) rfl
  | 17, _ => exact inT4 (List.mem_of_getElem? (i := 74) rfl) rfl
  | 18, _ => exact inT4 (List.mem_of_getElem? (i := 76) rfl) rfl
  | 19, _ => exact inT4 (List.mem_of_getElem? (i := 78) rfl) rfl
  | 20, _ => exact inT4 (List.mem_of_getElem? (i := 80) rfl) rfl
  | 21, _ => exact inT4 (List.mem_of_getElem? (i := 82) rfl) rfl
  | 22, _ => exact inT4 (List.mem_of_getElem? (i := 84) rfl) rfl
  | 23, _ => exact inT4 (List.mem_of_getElem? (i := 86) rfl) rfl
  | 24, _ => exact inT4 (List.mem_of_getElem? (i := 88) rfl) rfl
  | 25, _ => exact inT4 (List.mem_of_getElem? (i := 90) rfl) rfl
  | 26, _ => exact inT4 (List.mem_of_getElem? (i := 92) rfl) rfl
  | k + 27, hk => exact absurd hk (by omega)
