/-! the words of the tables that a call may pay with; each by its place -/
def nT : List Cond := lw_tbl.filter goodWord
theorem nT_in {w : Cond} {i : Nat} (h : lw_tbl[i]? = some w) (hg : goodWord w = true) : w ∈ nT := List.mem_filter.mpr ⟨List.mem_of_getElem? h, hg⟩
theorem nT_g {w : Cond} (h : w ∈ nT) : goodWord w = true := (List.mem_filter.mp h).2
theorem ws_X1_isValue : Cond.selects RX1 yX1_isValue yX1_isValue ∈ nT := nT_in (i := 0) (by decide +kernel) (by decide +kernel)
theorem ws_X1_rank : Cond.selects RX1 yX1_rank yX1_rank ∈ nT := nT_in (i := 1) (by decide +kernel) (by decide +kernel)
theorem ws_X1_improve : Cond.selects RX1 yX1_improve yX1_improve ∈ nT := nT_in (i := 2) (by decide +kernel) (by decide +kernel)
theorem ws_X6_startOfWays : Cond.selects RX6 yX6_startOfWays yX6_startOfWays ∈ nT := nT_in (i := 3) (by decide +kernel) (by decide +kernel)
theorem ws_X0_allow : Cond.selects RX0 yX0_allow yX0_allow ∈ nT := nT_in (i := 4) (by decide +kernel) (by decide +kernel)
theorem ws_X0_slide : Cond.selects RX0 yX0_slide yX0_slide ∈ nT := nT_in (i := 5) (by decide +kernel) (by decide +kernel)
theorem ws_X0_writeRow : Cond.selects RX0 yX0_writeRow yX0_writeRow ∈ nT := nT_in (i := 6) (by decide +kernel) (by decide +kernel)
theorem ws_X0_leadsOn : Cond.selects RX0 yX0_leadsOn yX0_leadsOn ∈ nT := nT_in (i := 7) (by decide +kernel) (by decide +kernel)
theorem ws_X6_mostLacking : Cond.selects RX6 yX6_mostLacking yX6_mostLacking ∈ nT := nT_in (i := 8) (by decide +kernel) (by decide +kernel)
theorem ws_X4_goodDetail : Cond.selects RX4 yX4_goodDetail yX4_goodDetail ∈ nT := nT_in (i := 9) (by decide +kernel) (by decide +kernel)
theorem ws_X7_isGood : Cond.selects RX7 yX7_isGood yX7_isGood ∈ nT := nT_in (i := 10) (by decide +kernel) (by decide +kernel)
theorem ws_X7_priceOf : Cond.selects RX7 yX7_priceOf yX7_priceOf ∈ nT := nT_in (i := 11) (by decide +kernel) (by decide +kernel)
theorem ws_X7_gainOf : Cond.selects RX7 yX7_gainOf yX7_gainOf ∈ nT := nT_in (i := 12) (by decide +kernel) (by decide +kernel)
theorem ws_X7_isCoin : Cond.selects RX7 yX7_isCoin yX7_isCoin ∈ nT := nT_in (i := 13) (by decide +kernel) (by decide +kernel)
theorem ws_X7_noBounds : Cond.selects RX7 yX7_noBounds yX7_noBounds ∈ nT := nT_in (i := 14) (by decide +kernel) (by decide +kernel)
theorem ws_X7_find : Cond.selects RX7 yX7_find yX7_find ∈ nT := nT_in (i := 15) (by decide +kernel) (by decide +kernel)
theorem ws_X7_sortCoins : Cond.selects RX7 yX7_sortCoins yX7_sortCoins ∈ nT := nT_in (i := 16) (by decide +kernel) (by decide +kernel)
theorem ws_X7_greedyOf : Cond.selects RX7 yX7_greedyOf yX7_greedyOf ∈ nT := nT_in (i := 17) (by decide +kernel) (by decide +kernel)
theorem ws_X7_isTill : Cond.selects RX7 yX7_isTill yX7_isTill ∈ nT := nT_in (i := 18) (by decide +kernel) (by decide +kernel)
theorem ws_X7_isSale : Cond.selects RX7 yX7_isSale yX7_isSale ∈ nT := nT_in (i := 19) (by decide +kernel) (by decide +kernel)
theorem ws_X7_over : Cond.selects RX7 yX7_over yX7_over ∈ nT := nT_in (i := 20) (by decide +kernel) (by decide +kernel)
theorem ws_X7_parts : Cond.selects RX7 yX7_parts yX7_parts ∈ nT := nT_in (i := 21) (by decide +kernel) (by decide +kernel)
theorem ws_X7_findWanted : Cond.selects RX7 yX7_findWanted yX7_findWanted ∈ nT := nT_in (i := 22) (by decide +kernel) (by decide +kernel)
theorem ws_X7_copy : Cond.selects RX7 yX7_copy yX7_copy ∈ nT := nT_in (i := 23) (by decide +kernel) (by decide +kernel)
theorem wn_L : Cond.initialized RL ∈ nT := nT_in (i := 24) (by decide +kernel) (by decide +kernel)
theorem wn_X6 : Cond.initialized RX6 ∈ nT := nT_in (i := 25) (by decide +kernel) (by decide +kernel)
theorem wn_X4 : Cond.initialized RX4 ∈ nT := nT_in (i := 26) (by decide +kernel) (by decide +kernel)
theorem wn_X1 : Cond.initialized RX1 ∈ nT := nT_in (i := 27) (by decide +kernel) (by decide +kernel)
theorem wn_J7 : Cond.initialized RJ7 ∈ nT := nT_in (i := 28) (by decide +kernel) (by decide +kernel)
theorem wn_X3 : Cond.initialized RX3 ∈ nT := nT_in (i := 29) (by decide +kernel) (by decide +kernel)
theorem wn_X5 : Cond.initialized RX5 ∈ nT := nT_in (i := 30) (by decide +kernel) (by decide +kernel)
theorem wn_X2 : Cond.initialized RX2 ∈ nT := nT_in (i := 31) (by decide +kernel) (by decide +kernel)
theorem wn_X0 : Cond.initialized RX0 ∈ nT := nT_in (i := 32) (by decide +kernel) (by decide +kernel)
theorem wn_X7 : Cond.initialized RX7 ∈ nT := nT_in (i := 33) (by decide +kernel) (by decide +kernel)
theorem wn_J9 : Cond.initialized RJ9 ∈ nT := nT_in (i := 34) (by decide +kernel) (by decide +kernel)
theorem wn_J6 : Cond.initialized RJ6 ∈ nT := nT_in (i := 35) (by decide +kernel) (by decide +kernel)
theorem wn_J10 : Cond.initialized RJ10 ∈ nT := nT_in (i := 36) (by decide +kernel) (by decide +kernel)
theorem wq_L_7 : Cond.classLink RL 7 RX6 ∈ nT := nT_in (i := 37) (by decide +kernel) (by decide +kernel)
theorem wo_X6 : Cond.instantiable RX6 6 ∈ nT := nT_in (i := 38) (by decide +kernel) (by decide +kernel)
theorem wl_L_9 : Cond.methodLink RL 9 yX6_init ∈ nT := nT_in (i := 39) (by decide +kernel) (by decide +kernel)
theorem wi_X6_init : Cond.instanceMethod yX6_init ∈ nT := nT_in (i := 40) (by decide +kernel) (by decide +kernel)
set_option maxRecDepth 100000 in
theorem wc_X6_init : Cond.code yX6_init cX6_init 2 (none : Option Jvm.ClassFile.FieldType) ∈ nT := nT_in (i := 41) rfl (by decide +kernel)
theorem wl_X6_1 : Cond.methodLink RX6 1 objectInit ∈ nT := nT_in (i := 42) (by decide +kernel) (by decide +kernel)
theorem wi_objectInit : Cond.instanceMethod objectInit ∈ nT := nT_in (i := 43) (by decide +kernel) (by decide +kernel)
theorem wc_objectInit : Cond.code objectInit ⟨#[0xb1]⟩ 1 none ∈ nT := nT_in (i := 44) (by decide +kernel) (by decide +kernel)
theorem wq_X6_7 : Cond.classLink RX6 7 RX4 ∈ nT := nT_in (i := 45) (by decide +kernel) (by decide +kernel)
theorem wo_X4 : Cond.instantiable RX4 9 ∈ nT := nT_in (i := 46) (by decide +kernel) (by decide +kernel)
theorem wl_X6_9 : Cond.methodLink RX6 9 yX4_init ∈ nT := nT_in (i := 47) (by decide +kernel) (by decide +kernel)
theorem wi_X4_init : Cond.instanceMethod yX4_init ∈ nT := nT_in (i := 48) (by decide +kernel) (by decide +kernel)
set_option maxRecDepth 100000 in
theorem wc_X4_init : Cond.code yX4_init cX4_init 2 (none : Option Jvm.ClassFile.FieldType) ∈ nT := nT_in (i := 49) rfl (by decide +kernel)
theorem wl_X4_3 : Cond.methodLink RX4 3 objectInit ∈ nT := nT_in (i := 50) (by decide +kernel) (by decide +kernel)
theorem wq_X4_9 : Cond.classLink RX4 9 RX1 ∈ nT := nT_in (i := 51) (by decide +kernel) (by decide +kernel)
theorem wo_X1 : Cond.instantiable RX1 4 ∈ nT := nT_in (i := 52) (by decide +kernel) (by decide +kernel)
theorem wl_X4_11 : Cond.methodLink RX4 11 yX1_init ∈ nT := nT_in (i := 53) (by decide +kernel) (by decide +kernel)
theorem wi_X1_init : Cond.instanceMethod yX1_init ∈ nT := nT_in (i := 54) (by decide +kernel) (by decide +kernel)
set_option maxRecDepth 100000 in
theorem wc_X1_init : Cond.code yX1_init cX1_init 1 (none : Option Jvm.ClassFile.FieldType) ∈ nT := nT_in (i := 55) rfl (by decide +kernel)
theorem wl_X1_3 : Cond.methodLink RX1 3 objectInit ∈ nT := nT_in (i := 56) (by decide +kernel) (by decide +kernel)
theorem wl_X1_25 : Cond.methodLink RX1 25 yJ7_fill_53178 ∈ nT := nT_in (i := 57) (by decide +kernel) (by decide +kernel)
theorem wt_J7_fill_53178 : Cond.static yJ7_fill_53178 ∈ nT := nT_in (i := 58) (by decide +kernel) (by decide +kernel)
set_option maxRecDepth 100000 in
theorem wc_J7_fill_53178 : Cond.code yJ7_fill_53178 cJ7_fill_53178 4 (none : Option Jvm.ClassFile.FieldType) ∈ nT := nT_in (i := 59) rfl (by decide +kernel)
theorem wf_X1_9 : Cond.fieldLink RX1 9 "NewCoins$Coinage" "count" "I" ∈ nT := nT_in (i := 60) (by decide +kernel) (by decide +kernel)
theorem wf_X0_36 : Cond.fieldLink RX0 36 "NewCoins$Coinage" "count" "I" ∈ nT := nT_in (i := 61) (by decide +kernel) (by decide +kernel)
theorem wf_X4_93 : Cond.fieldLink RX4 93 "NewCoins$Coinage" "count" "I" ∈ nT := nT_in (i := 62) (by decide +kernel) (by decide +kernel)
theorem wf_X1_15 : Cond.fieldLink RX1 15 "NewCoins$Coinage" "values" "[I" ∈ nT := nT_in (i := 63) (by decide +kernel) (by decide +kernel)
theorem wf_X0_45 : Cond.fieldLink RX0 45 "NewCoins$Coinage" "values" "[I" ∈ nT := nT_in (i := 64) (by decide +kernel) (by decide +kernel)
theorem wf_X4_86 : Cond.fieldLink RX4 86 "NewCoins$Coinage" "values" "[I" ∈ nT := nT_in (i := 65) (by decide +kernel) (by decide +kernel)
theorem wf_X1_19 : Cond.fieldLink RX1 19 "NewCoins$Coinage" "falling" "[I" ∈ nT := nT_in (i := 66) (by decide +kernel) (by decide +kernel)
theorem wf_X0_42 : Cond.fieldLink RX0 42 "NewCoins$Coinage" "falling" "[I" ∈ nT := nT_in (i := 67) (by decide +kernel) (by decide +kernel)
theorem wf_X1_22 : Cond.fieldLink RX1 22 "NewCoins$Coinage" "least" "[I" ∈ nT := nT_in (i := 68) (by decide +kernel) (by decide +kernel)
theorem wf_X6_114 : Cond.fieldLink RX6 114 "NewCoins$Coinage" "least" "[I" ∈ nT := nT_in (i := 69) (by decide +kernel) (by decide +kernel)
theorem wy_X1_count : Cond.lays "NewCoins$Coinage" "NewCoins$Coinage" "count" "I" ∈ nT := nT_in (i := 70) (by decide +kernel) (by decide +kernel)
theorem wy_X1_values : Cond.laysFinal "NewCoins$Coinage" "NewCoins$Coinage" "values" "[I" ∈ nT := nT_in (i := 72) (by decide +kernel) (by decide +kernel)
theorem wy_X1_falling : Cond.laysFinal "NewCoins$Coinage" "NewCoins$Coinage" "falling" "[I" ∈ nT := nT_in (i := 74) (by decide +kernel) (by decide +kernel)
theorem wy_X1_least : Cond.laysFinal "NewCoins$Coinage" "NewCoins$Coinage" "least" "[I" ∈ nT := nT_in (i := 76) (by decide +kernel) (by decide +kernel)
theorem wa_int : Cond.arrayClass .int ∈ nT := nT_in (i := 79) (by decide +kernel) (by decide +kernel)
theorem wq_X4_21 : Cond.classLink RX4 21 RX3 ∈ nT := nT_in (i := 80) (by decide +kernel) (by decide +kernel)
theorem wo_X3 : Cond.instantiable RX3 3 ∈ nT := nT_in (i := 81) (by decide +kernel) (by decide +kernel)
theorem wi_X3_init : Cond.instanceMethod yX3_init ∈ nT := nT_in (i := 83) (by decide +kernel) (by decide +kernel)
set_option maxRecDepth 100000 in
theorem wc_X3_init : Cond.code yX3_init cX3_init 1 (none : Option Jvm.ClassFile.FieldType) ∈ nT := nT_in (i := 84) rfl (by decide +kernel)
theorem wl_X3_3 : Cond.methodLink RX3 3 objectInit ∈ nT := nT_in (i := 85) (by decide +kernel) (by decide +kernel)
theorem wf_X3_9 : Cond.fieldLink RX3 9 "NewCoins$Goods" "count" "I" ∈ nT := nT_in (i := 86) (by decide +kernel) (by decide +kernel)
theorem wf_X6_89 : Cond.fieldLink RX6 89 "NewCoins$Goods" "count" "I" ∈ nT := nT_in (i := 87) (by decide +kernel) (by decide +kernel)
theorem wf_X4_113 : Cond.fieldLink RX4 113 "NewCoins$Goods" "count" "I" ∈ nT := nT_in (i := 88) (by decide +kernel) (by decide +kernel)
theorem wf_X3_15 : Cond.fieldLink RX3 15 "NewCoins$Goods" "prices" "[I" ∈ nT := nT_in (i := 89) (by decide +kernel) (by decide +kernel)
theorem wf_X4_96 : Cond.fieldLink RX4 96 "NewCoins$Goods" "prices" "[I" ∈ nT := nT_in (i := 90) (by decide +kernel) (by decide +kernel)
theorem wf_X3_19 : Cond.fieldLink RX3 19 "NewCoins$Goods" "times" "[I" ∈ nT := nT_in (i := 91) (by decide +kernel) (by decide +kernel)
theorem wf_X6_77 : Cond.fieldLink RX6 77 "NewCoins$Goods" "times" "[I" ∈ nT := nT_in (i := 92) (by decide +kernel) (by decide +kernel)
theorem wf_X4_110 : Cond.fieldLink RX4 110 "NewCoins$Goods" "times" "[I" ∈ nT := nT_in (i := 93) (by decide +kernel) (by decide +kernel)
theorem wy_X3_count : Cond.lays "NewCoins$Goods" "NewCoins$Goods" "count" "I" ∈ nT := nT_in (i := 94) (by decide +kernel) (by decide +kernel)
theorem wy_X3_prices : Cond.laysFinal "NewCoins$Goods" "NewCoins$Goods" "prices" "[I" ∈ nT := nT_in (i := 96) (by decide +kernel) (by decide +kernel)
theorem wy_X3_times : Cond.laysFinal "NewCoins$Goods" "NewCoins$Goods" "times" "[I" ∈ nT := nT_in (i := 98) (by decide +kernel) (by decide +kernel)
theorem wq_X4_28 : Cond.classLink RX4 28 RX5 ∈ nT := nT_in (i := 101) (by decide +kernel) (by decide +kernel)
theorem wo_X5 : Cond.instantiable RX5 7 ∈ nT := nT_in (i := 103) (by decide +kernel) (by decide +kernel)
theorem wi_X5_init : Cond.instanceMethod yX5_init ∈ nT := nT_in (i := 105) (by decide +kernel) (by decide +kernel)
set_option maxRecDepth 100000 in
theorem wc_X5_init : Cond.code yX5_init cX5_init 1 (none : Option Jvm.ClassFile.FieldType) ∈ nT := nT_in (i := 106) rfl (by decide +kernel)
theorem wl_X5_3 : Cond.methodLink RX5 3 objectInit ∈ nT := nT_in (i := 107) (by decide +kernel) (by decide +kernel)
theorem wq_X5_21 : Cond.classLink RX5 21 RX2 ∈ nT := nT_in (i := 108) (by decide +kernel) (by decide +kernel)
theorem wo_X2 : Cond.instantiable RX2 5 ∈ nT := nT_in (i := 109) (by decide +kernel) (by decide +kernel)
theorem wi_X2_init : Cond.instanceMethod yX2_init ∈ nT := nT_in (i := 111) (by decide +kernel) (by decide +kernel)
set_option maxRecDepth 100000 in
theorem wc_X2_init : Cond.code yX2_init cX2_init 1 (none : Option Jvm.ClassFile.FieldType) ∈ nT := nT_in (i := 112) rfl (by decide +kernel)
theorem wl_X2_3 : Cond.methodLink RX2 3 objectInit ∈ nT := nT_in (i := 113) (by decide +kernel) (by decide +kernel)
theorem wf_X2_9 : Cond.fieldLink RX2 9 "NewCoins$Expected" "count" "I" ∈ nT := nT_in (i := 114) (by decide +kernel) (by decide +kernel)
theorem wf_X6_206 : Cond.fieldLink RX6 206 "NewCoins$Expected" "count" "I" ∈ nT := nT_in (i := 115) (by decide +kernel) (by decide +kernel)
theorem wf_X2_15 : Cond.fieldLink RX2 15 "NewCoins$Expected" "prices" "[I" ∈ nT := nT_in (i := 116) (by decide +kernel) (by decide +kernel)
theorem wf_X6_229 : Cond.fieldLink RX6 229 "NewCoins$Expected" "prices" "[I" ∈ nT := nT_in (i := 117) (by decide +kernel) (by decide +kernel)
theorem wf_X2_19 : Cond.fieldLink RX2 19 "NewCoins$Expected" "systems" "[I" ∈ nT := nT_in (i := 118) (by decide +kernel) (by decide +kernel)
theorem wf_X6_232 : Cond.fieldLink RX6 232 "NewCoins$Expected" "systems" "[I" ∈ nT := nT_in (i := 119) (by decide +kernel) (by decide +kernel)
theorem wf_X2_22 : Cond.fieldLink RX2 22 "NewCoins$Expected" "coins" "[I" ∈ nT := nT_in (i := 120) (by decide +kernel) (by decide +kernel)
theorem wf_X6_235 : Cond.fieldLink RX6 235 "NewCoins$Expected" "coins" "[I" ∈ nT := nT_in (i := 121) (by decide +kernel) (by decide +kernel)
theorem wf_X2_25 : Cond.fieldLink RX2 25 "NewCoins$Expected" "numbers" "[I" ∈ nT := nT_in (i := 122) (by decide +kernel) (by decide +kernel)
theorem wf_X6_226 : Cond.fieldLink RX6 226 "NewCoins$Expected" "numbers" "[I" ∈ nT := nT_in (i := 123) (by decide +kernel) (by decide +kernel)
theorem wy_X2_count : Cond.lays "NewCoins$Expected" "NewCoins$Expected" "count" "I" ∈ nT := nT_in (i := 124) (by decide +kernel) (by decide +kernel)
theorem wy_X2_prices : Cond.laysFinal "NewCoins$Expected" "NewCoins$Expected" "prices" "[I" ∈ nT := nT_in (i := 126) (by decide +kernel) (by decide +kernel)
theorem wy_X2_systems : Cond.laysFinal "NewCoins$Expected" "NewCoins$Expected" "systems" "[I" ∈ nT := nT_in (i := 128) (by decide +kernel) (by decide +kernel)
theorem wy_X2_coins : Cond.laysFinal "NewCoins$Expected" "NewCoins$Expected" "coins" "[I" ∈ nT := nT_in (i := 130) (by decide +kernel) (by decide +kernel)
theorem wy_X2_numbers : Cond.laysFinal "NewCoins$Expected" "NewCoins$Expected" "numbers" "[I" ∈ nT := nT_in (i := 132) (by decide +kernel) (by decide +kernel)
theorem wf_X5_9 : Cond.fieldLink RX5 9 "NewCoins$Till" "old" "[I" ∈ nT := nT_in (i := 135) (by decide +kernel) (by decide +kernel)
theorem wf_X6_192 : Cond.fieldLink RX6 192 "NewCoins$Till" "old" "[I" ∈ nT := nT_in (i := 136) (by decide +kernel) (by decide +kernel)
theorem wf_X5_15 : Cond.fieldLink RX5 15 "NewCoins$Till" "fresh" "[I" ∈ nT := nT_in (i := 137) (by decide +kernel) (by decide +kernel)
theorem wf_X6_167 : Cond.fieldLink RX6 167 "NewCoins$Till" "fresh" "[I" ∈ nT := nT_in (i := 138) (by decide +kernel) (by decide +kernel)
theorem wf_X5_18 : Cond.fieldLink RX5 18 "NewCoins$Till" "latest" "[I" ∈ nT := nT_in (i := 139) (by decide +kernel) (by decide +kernel)
theorem wf_X6_183 : Cond.fieldLink RX6 183 "NewCoins$Till" "latest" "[I" ∈ nT := nT_in (i := 140) (by decide +kernel) (by decide +kernel)
theorem wf_X5_24 : Cond.fieldLink RX5 24 "NewCoins$Till" "expected" "LNewCoins$Expected;" ∈ nT := nT_in (i := 141) (by decide +kernel) (by decide +kernel)
theorem wf_X6_202 : Cond.fieldLink RX6 202 "NewCoins$Till" "expected" "LNewCoins$Expected;" ∈ nT := nT_in (i := 142) (by decide +kernel) (by decide +kernel)
theorem wf_X5_28 : Cond.fieldLink RX5 28 "NewCoins$Till" "sales" "I" ∈ nT := nT_in (i := 143) (by decide +kernel) (by decide +kernel)
theorem wf_X4_83 : Cond.fieldLink RX4 83 "NewCoins$Till" "sales" "I" ∈ nT := nT_in (i := 144) (by decide +kernel) (by decide +kernel)
theorem wf_X6_180 : Cond.fieldLink RX6 180 "NewCoins$Till" "sales" "I" ∈ nT := nT_in (i := 145) (by decide +kernel) (by decide +kernel)
theorem wf_X5_32 : Cond.fieldLink RX5 32 "NewCoins$Till" "scraps" "J" ∈ nT := nT_in (i := 146) (by decide +kernel) (by decide +kernel)
theorem wf_X6_188 : Cond.fieldLink RX6 188 "NewCoins$Till" "scraps" "J" ∈ nT := nT_in (i := 147) (by decide +kernel) (by decide +kernel)
theorem wf_X5_36 : Cond.fieldLink RX5 36 "NewCoins$Till" "takings" "J" ∈ nT := nT_in (i := 148) (by decide +kernel) (by decide +kernel)
theorem wf_X6_199 : Cond.fieldLink RX6 199 "NewCoins$Till" "takings" "J" ∈ nT := nT_in (i := 149) (by decide +kernel) (by decide +kernel)
theorem wy_X5_old : Cond.laysFinal "NewCoins$Till" "NewCoins$Till" "old" "[I" ∈ nT := nT_in (i := 150) (by decide +kernel) (by decide +kernel)
theorem wy_X5_fresh : Cond.laysFinal "NewCoins$Till" "NewCoins$Till" "fresh" "[I" ∈ nT := nT_in (i := 152) (by decide +kernel) (by decide +kernel)
theorem wy_X5_latest : Cond.laysFinal "NewCoins$Till" "NewCoins$Till" "latest" "[I" ∈ nT := nT_in (i := 154) (by decide +kernel) (by decide +kernel)
theorem wy_X5_expected : Cond.laysFinal "NewCoins$Till" "NewCoins$Till" "expected" "LNewCoins$Expected;" ∈ nT := nT_in (i := 156) (by decide +kernel) (by decide +kernel)
theorem wy_X5_sales : Cond.lays "NewCoins$Till" "NewCoins$Till" "sales" "I" ∈ nT := nT_in (i := 158) (by decide +kernel) (by decide +kernel)
theorem wy_X5_scraps : Cond.lays "NewCoins$Till" "NewCoins$Till" "scraps" "J" ∈ nT := nT_in (i := 160) (by decide +kernel) (by decide +kernel)
theorem wy_X5_takings : Cond.lays "NewCoins$Till" "NewCoins$Till" "takings" "J" ∈ nT := nT_in (i := 162) (by decide +kernel) (by decide +kernel)
theorem wf_X4_12 : Cond.fieldLink RX4 12 "NewCoins$Land" "old" "LNewCoins$Coinage;" ∈ nT := nT_in (i := 165) (by decide +kernel) (by decide +kernel)
theorem wf_X4_18 : Cond.fieldLink RX4 18 "NewCoins$Land" "fresh" "LNewCoins$Coinage;" ∈ nT := nT_in (i := 166) (by decide +kernel) (by decide +kernel)
theorem wf_X6_163 : Cond.fieldLink RX6 163 "NewCoins$Land" "fresh" "LNewCoins$Coinage;" ∈ nT := nT_in (i := 167) (by decide +kernel) (by decide +kernel)
theorem wf_X4_24 : Cond.fieldLink RX4 24 "NewCoins$Land" "goods" "LNewCoins$Goods;" ∈ nT := nT_in (i := 168) (by decide +kernel) (by decide +kernel)
theorem wf_X6_64 : Cond.fieldLink RX6 64 "NewCoins$Land" "goods" "LNewCoins$Goods;" ∈ nT := nT_in (i := 169) (by decide +kernel) (by decide +kernel)
theorem wf_X4_30 : Cond.fieldLink RX4 30 "NewCoins$Land" "tills" "[LNewCoins$Till;" ∈ nT := nT_in (i := 170) (by decide +kernel) (by decide +kernel)
theorem wf_X4_34 : Cond.fieldLink RX4 34 "NewCoins$Land" "drawnIn" "[I" ∈ nT := nT_in (i := 171) (by decide +kernel) (by decide +kernel)
theorem wf_X6_209 : Cond.fieldLink RX6 209 "NewCoins$Land" "drawnIn" "[I" ∈ nT := nT_in (i := 172) (by decide +kernel) (by decide +kernel)
theorem wf_X4_38 : Cond.fieldLink RX4 38 "NewCoins$Land" "tillCount" "I" ∈ nT := nT_in (i := 173) (by decide +kernel) (by decide +kernel)
theorem wf_X6_134 : Cond.fieldLink RX6 134 "NewCoins$Land" "tillCount" "I" ∈ nT := nT_in (i := 174) (by decide +kernel) (by decide +kernel)
theorem wf_X4_42 : Cond.fieldLink RX4 42 "NewCoins$Land" "a" "I" ∈ nT := nT_in (i := 175) (by decide +kernel) (by decide +kernel)
theorem wf_X6_57 : Cond.fieldLink RX6 57 "NewCoins$Land" "a" "I" ∈ nT := nT_in (i := 176) (by decide +kernel) (by decide +kernel)
theorem wf_X4_45 : Cond.fieldLink RX4 45 "NewCoins$Land" "b" "I" ∈ nT := nT_in (i := 177) (by decide +kernel) (by decide +kernel)
theorem wf_X6_61 : Cond.fieldLink RX6 61 "NewCoins$Land" "b" "I" ∈ nT := nT_in (i := 178) (by decide +kernel) (by decide +kernel)
theorem wf_X4_48 : Cond.fieldLink RX4 48 "NewCoins$Land" "step" "I" ∈ nT := nT_in (i := 179) (by decide +kernel) (by decide +kernel)
theorem wf_X6_80 : Cond.fieldLink RX6 80 "NewCoins$Land" "step" "I" ∈ nT := nT_in (i := 180) (by decide +kernel) (by decide +kernel)
theorem wy_X4_old : Cond.laysFinal "NewCoins$Land" "NewCoins$Land" "old" "LNewCoins$Coinage;" ∈ nT := nT_in (i := 181) (by decide +kernel) (by decide +kernel)
theorem wy_X4_fresh : Cond.laysFinal "NewCoins$Land" "NewCoins$Land" "fresh" "LNewCoins$Coinage;" ∈ nT := nT_in (i := 183) (by decide +kernel) (by decide +kernel)
theorem wy_X4_goods : Cond.laysFinal "NewCoins$Land" "NewCoins$Land" "goods" "LNewCoins$Goods;" ∈ nT := nT_in (i := 185) (by decide +kernel) (by decide +kernel)
theorem wy_X4_tills : Cond.laysFinal "NewCoins$Land" "NewCoins$Land" "tills" "[LNewCoins$Till;" ∈ nT := nT_in (i := 187) (by decide +kernel) (by decide +kernel)
theorem wy_X4_drawnIn : Cond.laysFinal "NewCoins$Land" "NewCoins$Land" "drawnIn" "[I" ∈ nT := nT_in (i := 189) (by decide +kernel) (by decide +kernel)
theorem wy_X4_tillCount : Cond.lays "NewCoins$Land" "NewCoins$Land" "tillCount" "I" ∈ nT := nT_in (i := 191) (by decide +kernel) (by decide +kernel)
theorem wy_X4_a : Cond.lays "NewCoins$Land" "NewCoins$Land" "a" "I" ∈ nT := nT_in (i := 193) (by decide +kernel) (by decide +kernel)
theorem wy_X4_b : Cond.lays "NewCoins$Land" "NewCoins$Land" "b" "I" ∈ nT := nT_in (i := 195) (by decide +kernel) (by decide +kernel)
theorem wy_X4_step : Cond.lays "NewCoins$Land" "NewCoins$Land" "step" "I" ∈ nT := nT_in (i := 197) (by decide +kernel) (by decide +kernel)
theorem wq_X6_24 : Cond.classLink RX6 24 RX0 ∈ nT := nT_in (i := 201) (by decide +kernel) (by decide +kernel)
theorem wo_X0 : Cond.instantiable RX0 4 ∈ nT := nT_in (i := 202) (by decide +kernel) (by decide +kernel)
theorem wi_X0_init : Cond.instanceMethod yX0_init ∈ nT := nT_in (i := 204) (by decide +kernel) (by decide +kernel)
set_option maxRecDepth 100000 in
theorem wc_X0_init : Cond.code yX0_init cX0_init 1 (none : Option Jvm.ClassFile.FieldType) ∈ nT := nT_in (i := 205) rfl (by decide +kernel)
theorem wl_X0_3 : Cond.methodLink RX0 3 objectInit ∈ nT := nT_in (i := 206) (by decide +kernel) (by decide +kernel)
theorem wq_X0_15 : Cond.classLink RX0 15 "[[I" ∈ nT := nT_in (i := 207) (by decide +kernel) (by decide +kernel)
theorem wf_X0_9 : Cond.fieldLink RX0 9 "NewCoins$ChangeMaker" "row" "[I" ∈ nT := nT_in (i := 209) (by decide +kernel) (by decide +kernel)
theorem wf_X6_173 : Cond.fieldLink RX6 173 "NewCoins$ChangeMaker" "row" "[I" ∈ nT := nT_in (i := 210) (by decide +kernel) (by decide +kernel)
theorem wf_X0_17 : Cond.fieldLink RX0 17 "NewCoins$ChangeMaker" "least" "[[I" ∈ nT := nT_in (i := 211) (by decide +kernel) (by decide +kernel)
theorem wf_X0_20 : Cond.fieldLink RX0 20 "NewCoins$ChangeMaker" "places" "[I" ∈ nT := nT_in (i := 212) (by decide +kernel) (by decide +kernel)
theorem wf_X0_23 : Cond.fieldLink RX0 23 "NewCoins$ChangeMaker" "costs" "[I" ∈ nT := nT_in (i := 213) (by decide +kernel) (by decide +kernel)
theorem wy_X0_row : Cond.laysFinal "NewCoins$ChangeMaker" "NewCoins$ChangeMaker" "row" "[I" ∈ nT := nT_in (i := 214) (by decide +kernel) (by decide +kernel)
theorem wy_X0_least : Cond.laysFinal "NewCoins$ChangeMaker" "NewCoins$ChangeMaker" "least" "[[I" ∈ nT := nT_in (i := 216) (by decide +kernel) (by decide +kernel)
theorem wy_X0_places : Cond.laysFinal "NewCoins$ChangeMaker" "NewCoins$ChangeMaker" "places" "[I" ∈ nT := nT_in (i := 218) (by decide +kernel) (by decide +kernel)
theorem wy_X0_costs : Cond.laysFinal "NewCoins$ChangeMaker" "NewCoins$ChangeMaker" "costs" "[I" ∈ nT := nT_in (i := 220) (by decide +kernel) (by decide +kernel)
theorem wa_boolean : Cond.arrayClass .boolean ∈ nT := nT_in (i := 223) (by decide +kernel) (by decide +kernel)
theorem wf_X6_10 : Cond.fieldLink RX6 10 "NewCoins" "now" "LNewCoins$Land;" ∈ nT := nT_in (i := 224) (by decide +kernel) (by decide +kernel)
theorem wf_X6_16 : Cond.fieldLink RX6 16 "NewCoins" "images" "[LNewCoins$Land;" ∈ nT := nT_in (i := 225) (by decide +kernel) (by decide +kernel)
theorem wf_X6_20 : Cond.fieldLink RX6 20 "NewCoins" "taken" "[Z" ∈ nT := nT_in (i := 226) (by decide +kernel) (by decide +kernel)
theorem wf_X6_27 : Cond.fieldLink RX6 27 "NewCoins" "maker" "LNewCoins$ChangeMaker;" ∈ nT := nT_in (i := 227) (by decide +kernel) (by decide +kernel)
theorem wf_X6_31 : Cond.fieldLink RX6 31 "NewCoins" "fewestRow" "[I" ∈ nT := nT_in (i := 228) (by decide +kernel) (by decide +kernel)
theorem wf_X6_35 : Cond.fieldLink RX6 35 "NewCoins" "turns" "[J" ∈ nT := nT_in (i := 229) (by decide +kernel) (by decide +kernel)
theorem wy_X6_now : Cond.laysFinal "NewCoins" "NewCoins" "now" "LNewCoins$Land;" ∈ nT := nT_in (i := 230) (by decide +kernel) (by decide +kernel)
theorem wy_X6_images : Cond.laysFinal "NewCoins" "NewCoins" "images" "[LNewCoins$Land;" ∈ nT := nT_in (i := 232) (by decide +kernel) (by decide +kernel)
theorem wy_X6_taken : Cond.laysFinal "NewCoins" "NewCoins" "taken" "[Z" ∈ nT := nT_in (i := 234) (by decide +kernel) (by decide +kernel)
theorem wy_X6_maker : Cond.laysFinal "NewCoins" "NewCoins" "maker" "LNewCoins$ChangeMaker;" ∈ nT := nT_in (i := 236) (by decide +kernel) (by decide +kernel)
theorem wy_X6_fewestRow : Cond.laysFinal "NewCoins" "NewCoins" "fewestRow" "[I" ∈ nT := nT_in (i := 238) (by decide +kernel) (by decide +kernel)
theorem wy_X6_turns : Cond.laysFinal "NewCoins" "NewCoins" "turns" "[J" ∈ nT := nT_in (i := 240) (by decide +kernel) (by decide +kernel)
theorem wa_long : Cond.arrayClass .long ∈ nT := nT_in (i := 243) (by decide +kernel) (by decide +kernel)
theorem wl_L_13 : Cond.methodLink RL 13 yX6_coin ∈ nT := nT_in (i := 244) (by decide +kernel) (by decide +kernel)
theorem wi_X6_coin : Cond.instanceMethod yX6_coin ∈ nT := nT_in (i := 245) (by decide +kernel) (by decide +kernel)
theorem ws_X6_coin : Cond.selects RX6 yX6_coin yX6_coin ∈ nT := nT_in (i := 246) (by decide +kernel) (by decide +kernel)
set_option maxRecDepth 100000 in
theorem wc_X6_coin : Cond.code yX6_coin cX6_coin 4 (some .int) ∈ nT := nT_in (i := 247) rfl (by decide +kernel)
theorem wl_X6_39 : Cond.methodLink RX6 39 yX4_coinageOf ∈ nT := nT_in (i := 248) (by decide +kernel) (by decide +kernel)
theorem wi_X4_coinageOf : Cond.instanceMethod yX4_coinageOf ∈ nT := nT_in (i := 249) (by decide +kernel) (by decide +kernel)
theorem ws_X4_coinageOf : Cond.selects RX4 yX4_coinageOf yX4_coinageOf ∈ nT := nT_in (i := 250) (by decide +kernel) (by decide +kernel)
set_option maxRecDepth 100000 in
theorem wc_X4_coinageOf : Cond.code yX4_coinageOf cX4_coinageOf 2 (some (.object "NewCoins$Coinage")) ∈ nT := nT_in (i := 251) rfl (by decide +kernel)
theorem wl_X6_43 : Cond.methodLink RX6 43 yX1_add ∈ nT := nT_in (i := 252) (by decide +kernel) (by decide +kernel)
theorem wi_X1_add : Cond.instanceMethod yX1_add ∈ nT := nT_in (i := 253) (by decide +kernel) (by decide +kernel)
theorem ws_X1_add : Cond.selects RX1 yX1_add yX1_add ∈ nT := nT_in (i := 254) (by decide +kernel) (by decide +kernel)
set_option maxRecDepth 100000 in
theorem wc_X1_add : Cond.code yX1_add cX1_add 2 (some .int) ∈ nT := nT_in (i := 255) rfl (by decide +kernel)
theorem wt_X6_within : Cond.static yX6_within ∈ nT := nT_in (i := 257) (by decide +kernel) (by decide +kernel)
set_option maxRecDepth 100000 in
theorem wc_X6_within : Cond.code yX6_within cX6_within 3 (some .boolean) ∈ nT := nT_in (i := 258) rfl (by decide +kernel)
theorem wl_X1_41 : Cond.methodLink RX1 41 yX1_isValue ∈ nT := nT_in (i := 259) (by decide +kernel) (by decide +kernel)
theorem wi_X1_isValue : Cond.instanceMethod yX1_isValue ∈ nT := nT_in (i := 261) (by decide +kernel) (by decide +kernel)
set_option maxRecDepth 100000 in
theorem wc_X1_isValue : Cond.code yX1_isValue cX1_isValue 3 (some .boolean) ∈ nT := nT_in (i := 262) rfl (by decide +kernel)
theorem wl_X1_45 : Cond.methodLink RX1 45 yX1_rank ∈ nT := nT_in (i := 263) (by decide +kernel) (by decide +kernel)
theorem wi_X1_rank : Cond.instanceMethod yX1_rank ∈ nT := nT_in (i := 265) (by decide +kernel) (by decide +kernel)
set_option maxRecDepth 100000 in
theorem wc_X1_rank : Cond.code yX1_rank cX1_rank 3 (none : Option Jvm.ClassFile.FieldType) ∈ nT := nT_in (i := 266) rfl (by decide +kernel)
theorem wl_X1_49 : Cond.methodLink RX1 49 yX1_improve ∈ nT := nT_in (i := 267) (by decide +kernel) (by decide +kernel)
theorem wi_X1_improve : Cond.instanceMethod yX1_improve ∈ nT := nT_in (i := 269) (by decide +kernel) (by decide +kernel)
set_option maxRecDepth 100000 in
theorem wc_X1_improve : Cond.code yX1_improve cX1_improve 4 (none : Option Jvm.ClassFile.FieldType) ∈ nT := nT_in (i := 270) rfl (by decide +kernel)
theorem wl_L_18 : Cond.methodLink RL 18 yX6_rate ∈ nT := nT_in (i := 271) (by decide +kernel) (by decide +kernel)
theorem wi_X6_rate : Cond.instanceMethod yX6_rate ∈ nT := nT_in (i := 272) (by decide +kernel) (by decide +kernel)
theorem ws_X6_rate : Cond.selects RX6 yX6_rate yX6_rate ∈ nT := nT_in (i := 273) (by decide +kernel) (by decide +kernel)
set_option maxRecDepth 100000 in
theorem wc_X6_rate : Cond.code yX6_rate cX6_rate 3 (some .boolean) ∈ nT := nT_in (i := 274) rfl (by decide +kernel)
theorem wl_X6_49 : Cond.methodLink RX6 49 yX6_within ∈ nT := nT_in (i := 275) (by decide +kernel) (by decide +kernel)
theorem wl_X6_53 : Cond.methodLink RX6 53 yX4_hasSold ∈ nT := nT_in (i := 276) (by decide +kernel) (by decide +kernel)
theorem wi_X4_hasSold : Cond.instanceMethod yX4_hasSold ∈ nT := nT_in (i := 277) (by decide +kernel) (by decide +kernel)
theorem ws_X4_hasSold : Cond.selects RX4 yX4_hasSold yX4_hasSold ∈ nT := nT_in (i := 278) (by decide +kernel) (by decide +kernel)
set_option maxRecDepth 100000 in
theorem wc_X4_hasSold : Cond.code yX4_hasSold cX4_hasSold 2 (some .boolean) ∈ nT := nT_in (i := 279) rfl (by decide +kernel)
theorem wl_L_23 : Cond.methodLink RL 23 yX6_good ∈ nT := nT_in (i := 280) (by decide +kernel) (by decide +kernel)
theorem wi_X6_good : Cond.instanceMethod yX6_good ∈ nT := nT_in (i := 281) (by decide +kernel) (by decide +kernel)
theorem ws_X6_good : Cond.selects RX6 yX6_good yX6_good ∈ nT := nT_in (i := 282) (by decide +kernel) (by decide +kernel)
set_option maxRecDepth 100000 in
theorem wc_X6_good : Cond.code yX6_good cX6_good 3 (some .int) ∈ nT := nT_in (i := 283) rfl (by decide +kernel)
theorem wl_X6_68 : Cond.methodLink RX6 68 yX3_add ∈ nT := nT_in (i := 284) (by decide +kernel) (by decide +kernel)
theorem wi_X3_add : Cond.instanceMethod yX3_add ∈ nT := nT_in (i := 285) (by decide +kernel) (by decide +kernel)
theorem ws_X3_add : Cond.selects RX3 yX3_add yX3_add ∈ nT := nT_in (i := 286) (by decide +kernel) (by decide +kernel)
set_option maxRecDepth 100000 in
theorem wc_X3_add : Cond.code yX3_add cX3_add 3 (some .int) ∈ nT := nT_in (i := 287) rfl (by decide +kernel)
theorem wl_L_27 : Cond.methodLink RL 27 yX6_sold ∈ nT := nT_in (i := 289) (by decide +kernel) (by decide +kernel)
theorem wi_X6_sold : Cond.instanceMethod yX6_sold ∈ nT := nT_in (i := 290) (by decide +kernel) (by decide +kernel)
theorem ws_X6_sold : Cond.selects RX6 yX6_sold yX6_sold ∈ nT := nT_in (i := 291) (by decide +kernel) (by decide +kernel)
set_option maxRecDepth 100000 in
theorem wc_X6_sold : Cond.code yX6_sold cX6_sold 3 (some .boolean) ∈ nT := nT_in (i := 292) rfl (by decide +kernel)
theorem wl_X6_73 : Cond.methodLink RX6 73 yX3_isGood ∈ nT := nT_in (i := 293) (by decide +kernel) (by decide +kernel)
theorem wi_X3_isGood : Cond.instanceMethod yX3_isGood ∈ nT := nT_in (i := 294) (by decide +kernel) (by decide +kernel)
theorem ws_X3_isGood : Cond.selects RX3 yX3_isGood yX3_isGood ∈ nT := nT_in (i := 295) (by decide +kernel) (by decide +kernel)
set_option maxRecDepth 100000 in
theorem wc_X3_isGood : Cond.code yX3_isGood cX3_isGood 2 (some .boolean) ∈ nT := nT_in (i := 296) rfl (by decide +kernel)
theorem wl_L_31 : Cond.methodLink RL 31 yX6_step ∈ nT := nT_in (i := 297) (by decide +kernel) (by decide +kernel)
theorem wi_X6_step : Cond.instanceMethod yX6_step ∈ nT := nT_in (i := 298) (by decide +kernel) (by decide +kernel)
theorem ws_X6_step : Cond.selects RX6 yX6_step yX6_step ∈ nT := nT_in (i := 299) (by decide +kernel) (by decide +kernel)
set_option maxRecDepth 100000 in
theorem wc_X6_step : Cond.code yX6_step cX6_step 2 (some .boolean) ∈ nT := nT_in (i := 300) rfl (by decide +kernel)
theorem wl_L_36 : Cond.methodLink RL 36 yX6_price ∈ nT := nT_in (i := 301) (by decide +kernel) (by decide +kernel)
theorem wi_X6_price : Cond.instanceMethod yX6_price ∈ nT := nT_in (i := 302) (by decide +kernel) (by decide +kernel)
theorem ws_X6_price : Cond.selects RX6 yX6_price yX6_price ∈ nT := nT_in (i := 303) (by decide +kernel) (by decide +kernel)
set_option maxRecDepth 100000 in
theorem wc_X6_price : Cond.code yX6_price cX6_price 3 (some .int) ∈ nT := nT_in (i := 304) rfl (by decide +kernel)
theorem wl_X6_83 : Cond.methodLink RX6 83 yX6_isRule ∈ nT := nT_in (i := 305) (by decide +kernel) (by decide +kernel)
theorem wt_X6_isRule : Cond.static yX6_isRule ∈ nT := nT_in (i := 306) (by decide +kernel) (by decide +kernel)
set_option maxRecDepth 100000 in
theorem wc_X6_isRule : Cond.code yX6_isRule cX6_isRule 1 (some .boolean) ∈ nT := nT_in (i := 307) rfl (by decide +kernel)
theorem wl_X6_86 : Cond.methodLink RX6 86 yX4_newPrice ∈ nT := nT_in (i := 308) (by decide +kernel) (by decide +kernel)
theorem wi_X4_newPrice : Cond.instanceMethod yX4_newPrice ∈ nT := nT_in (i := 309) (by decide +kernel) (by decide +kernel)
theorem ws_X4_newPrice : Cond.selects RX4 yX4_newPrice yX4_newPrice ∈ nT := nT_in (i := 310) (by decide +kernel) (by decide +kernel)
set_option maxRecDepth 100000 in
theorem wc_X4_newPrice : Cond.code yX4_newPrice cX4_newPrice 7 (some .int) ∈ nT := nT_in (i := 311) rfl (by decide +kernel)
theorem wt_X6_wholeTimes : Cond.static yX6_wholeTimes ∈ nT := nT_in (i := 313) (by decide +kernel) (by decide +kernel)
set_option maxRecDepth 100000 in
theorem wc_X6_wholeTimes : Cond.code yX6_wholeTimes cX6_wholeTimes 2 (some .int) ∈ nT := nT_in (i := 314) rfl (by decide +kernel)
theorem wl_X4_103 : Cond.methodLink RX4 103 yX4_roundsUp ∈ nT := nT_in (i := 315) (by decide +kernel) (by decide +kernel)
theorem wt_X4_roundsUp : Cond.static yX4_roundsUp ∈ nT := nT_in (i := 316) (by decide +kernel) (by decide +kernel)
set_option maxRecDepth 100000 in
theorem wc_X4_roundsUp : Cond.code yX4_roundsUp cX4_roundsUp 4 (some .boolean) ∈ nT := nT_in (i := 317) rfl (by decide +kernel)
theorem wl_L_40 : Cond.methodLink RL 40 yX6_gain ∈ nT := nT_in (i := 318) (by decide +kernel) (by decide +kernel)
theorem wi_X6_gain : Cond.instanceMethod yX6_gain ∈ nT := nT_in (i := 319) (by decide +kernel) (by decide +kernel)
theorem ws_X6_gain : Cond.selects RX6 yX6_gain yX6_gain ∈ nT := nT_in (i := 320) (by decide +kernel) (by decide +kernel)
set_option maxRecDepth 100000 in
theorem wc_X6_gain : Cond.code yX6_gain cX6_gain 5 (some .long) ∈ nT := nT_in (i := 321) rfl (by decide +kernel)
theorem wl_X6_92 : Cond.methodLink RX6 92 yX4_gainOf ∈ nT := nT_in (i := 322) (by decide +kernel) (by decide +kernel)
theorem wi_X4_gainOf : Cond.instanceMethod yX4_gainOf ∈ nT := nT_in (i := 323) (by decide +kernel) (by decide +kernel)
theorem ws_X4_gainOf : Cond.selects RX4 yX4_gainOf yX4_gainOf ∈ nT := nT_in (i := 324) (by decide +kernel) (by decide +kernel)
set_option maxRecDepth 100000 in
theorem wc_X4_gainOf : Cond.code yX4_gainOf cX4_gainOf 5 (some .long) ∈ nT := nT_in (i := 325) rfl (by decide +kernel)
theorem wl_X4_107 : Cond.methodLink RX4 107 yX4_newPrice ∈ nT := nT_in (i := 326) (by decide +kernel) (by decide +kernel)
theorem wl_L_45 : Cond.methodLink RL 45 yX6_fairest ∈ nT := nT_in (i := 327) (by decide +kernel) (by decide +kernel)
theorem wi_X6_fairest : Cond.instanceMethod yX6_fairest ∈ nT := nT_in (i := 328) (by decide +kernel) (by decide +kernel)
theorem ws_X6_fairest : Cond.selects RX6 yX6_fairest yX6_fairest ∈ nT := nT_in (i := 329) (by decide +kernel) (by decide +kernel)
set_option maxRecDepth 100000 in
theorem wc_X6_fairest : Cond.code yX6_fairest cX6_fairest 9 (some .int) ∈ nT := nT_in (i := 330) rfl (by decide +kernel)
theorem wl_X6_96 : Cond.methodLink RX6 96 yX6_startOfWays ∈ nT := nT_in (i := 331) (by decide +kernel) (by decide +kernel)
theorem wi_X6_startOfWays : Cond.instanceMethod yX6_startOfWays ∈ nT := nT_in (i := 333) (by decide +kernel) (by decide +kernel)
set_option maxRecDepth 100000 in
theorem wc_X6_startOfWays : Cond.code yX6_startOfWays cX6_startOfWays 10 (some .long) ∈ nT := nT_in (i := 334) rfl (by decide +kernel)
theorem wl_X6_100 : Cond.methodLink RX6 100 yJ9_abs_067f4 ∈ nT := nT_in (i := 335) (by decide +kernel) (by decide +kernel)
theorem wt_J9_abs_067f4 : Cond.static yJ9_abs_067f4 ∈ nT := nT_in (i := 336) (by decide +kernel) (by decide +kernel)
set_option maxRecDepth 100000 in
theorem wc_J9_abs_067f4 : Cond.code yJ9_abs_067f4 cJ9_abs_067f4 2 (some .long) ∈ nT := nT_in (i := 337) rfl (by decide +kernel)
theorem wl_X6_106 : Cond.methodLink RX6 106 yJ6_bitCount_0f7a4 ∈ nT := nT_in (i := 338) (by decide +kernel) (by decide +kernel)
theorem wt_J6_bitCount_0f7a4 : Cond.static yJ6_bitCount_0f7a4 ∈ nT := nT_in (i := 339) (by decide +kernel) (by decide +kernel)
set_option maxRecDepth 100000 in
theorem wc_J6_bitCount_0f7a4 : Cond.code yJ6_bitCount_0f7a4 cJ6_bitCount_0f7a4 1 (some .int) ∈ nT := nT_in (i := 340) rfl (by decide +kernel)
theorem wk_J6_265 : Cond.constant RJ6 265 (1431655765) ∈ nT := nT_in (i := 341) (by decide +kernel) (by decide +kernel)
theorem wk_J6_266 : Cond.constant RJ6 266 (858993459) ∈ nT := nT_in (i := 342) (by decide +kernel) (by decide +kernel)
theorem wk_J6_267 : Cond.constant RJ6 267 (252645135) ∈ nT := nT_in (i := 343) (by decide +kernel) (by decide +kernel)
theorem wl_L_50 : Cond.methodLink RL 50 yX6_gains ∈ nT := nT_in (i := 344) (by decide +kernel) (by decide +kernel)
theorem wi_X6_gains : Cond.instanceMethod yX6_gains ∈ nT := nT_in (i := 345) (by decide +kernel) (by decide +kernel)
theorem ws_X6_gains : Cond.selects RX6 yX6_gains yX6_gains ∈ nT := nT_in (i := 346) (by decide +kernel) (by decide +kernel)
set_option maxRecDepth 100000 in
theorem wc_X6_gains : Cond.code yX6_gains cX6_gains 6 (some .long) ∈ nT := nT_in (i := 347) rfl (by decide +kernel)
theorem wl_L_54 : Cond.methodLink RL 54 yX6_fewest ∈ nT := nT_in (i := 348) (by decide +kernel) (by decide +kernel)
theorem wi_X6_fewest : Cond.instanceMethod yX6_fewest ∈ nT := nT_in (i := 349) (by decide +kernel) (by decide +kernel)
theorem ws_X6_fewest : Cond.selects RX6 yX6_fewest yX6_fewest ∈ nT := nT_in (i := 350) (by decide +kernel) (by decide +kernel)
set_option maxRecDepth 100000 in
theorem wc_X6_fewest : Cond.code yX6_fewest cX6_fewest 5 (some .int) ∈ nT := nT_in (i := 351) rfl (by decide +kernel)
theorem wl_X6_111 : Cond.methodLink RX6 111 yX1_hasFewest ∈ nT := nT_in (i := 352) (by decide +kernel) (by decide +kernel)
theorem wi_X1_hasFewest : Cond.instanceMethod yX1_hasFewest ∈ nT := nT_in (i := 353) (by decide +kernel) (by decide +kernel)
theorem ws_X1_hasFewest : Cond.selects RX1 yX1_hasFewest yX1_hasFewest ∈ nT := nT_in (i := 354) (by decide +kernel) (by decide +kernel)
set_option maxRecDepth 100000 in
theorem wc_X1_hasFewest : Cond.code yX1_hasFewest cX1_hasFewest 2 (some .boolean) ∈ nT := nT_in (i := 355) rfl (by decide +kernel)
theorem wt_X6_isSum : Cond.static yX6_isSum ∈ nT := nT_in (i := 357) (by decide +kernel) (by decide +kernel)
set_option maxRecDepth 100000 in
theorem wc_X6_isSum : Cond.code yX6_isSum cX6_isSum 1 (some .boolean) ∈ nT := nT_in (i := 358) rfl (by decide +kernel)
theorem wl_X6_117 : Cond.methodLink RX6 117 yX1_isCoin ∈ nT := nT_in (i := 359) (by decide +kernel) (by decide +kernel)
theorem wi_X1_isCoin : Cond.instanceMethod yX1_isCoin ∈ nT := nT_in (i := 360) (by decide +kernel) (by decide +kernel)
theorem ws_X1_isCoin : Cond.selects RX1 yX1_isCoin yX1_isCoin ∈ nT := nT_in (i := 361) (by decide +kernel) (by decide +kernel)
set_option maxRecDepth 100000 in
theorem wc_X1_isCoin : Cond.code yX1_isCoin cX1_isCoin 2 (some .boolean) ∈ nT := nT_in (i := 362) rfl (by decide +kernel)
theorem wl_X6_120 : Cond.methodLink RX6 120 yX1_writeFewest ∈ nT := nT_in (i := 363) (by decide +kernel) (by decide +kernel)
theorem wi_X1_writeFewest : Cond.instanceMethod yX1_writeFewest ∈ nT := nT_in (i := 364) (by decide +kernel) (by decide +kernel)
theorem ws_X1_writeFewest : Cond.selects RX1 yX1_writeFewest yX1_writeFewest ∈ nT := nT_in (i := 365) (by decide +kernel) (by decide +kernel)
set_option maxRecDepth 100000 in
theorem wc_X1_writeFewest : Cond.code yX1_writeFewest cX1_writeFewest 8 (none : Option Jvm.ClassFile.FieldType) ∈ nT := nT_in (i := 366) rfl (by decide +kernel)
theorem wl_L_59 : Cond.methodLink RL 59 yX6_greedy ∈ nT := nT_in (i := 368) (by decide +kernel) (by decide +kernel)
theorem wi_X6_greedy : Cond.instanceMethod yX6_greedy ∈ nT := nT_in (i := 369) (by decide +kernel) (by decide +kernel)
theorem ws_X6_greedy : Cond.selects RX6 yX6_greedy yX6_greedy ∈ nT := nT_in (i := 370) (by decide +kernel) (by decide +kernel)
set_option maxRecDepth 100000 in
theorem wc_X6_greedy : Cond.code yX6_greedy cX6_greedy 4 (some .int) ∈ nT := nT_in (i := 371) rfl (by decide +kernel)
theorem wl_X6_124 : Cond.methodLink RX6 124 yX6_isSum ∈ nT := nT_in (i := 372) (by decide +kernel) (by decide +kernel)
theorem wl_X6_127 : Cond.methodLink RX6 127 yX1_countGreedily ∈ nT := nT_in (i := 373) (by decide +kernel) (by decide +kernel)
theorem wi_X1_countGreedily : Cond.instanceMethod yX1_countGreedily ∈ nT := nT_in (i := 374) (by decide +kernel) (by decide +kernel)
theorem ws_X1_countGreedily : Cond.selects RX1 yX1_countGreedily yX1_countGreedily ∈ nT := nT_in (i := 375) (by decide +kernel) (by decide +kernel)
set_option maxRecDepth 100000 in
theorem wc_X1_countGreedily : Cond.code yX1_countGreedily cX1_countGreedily 7 (some .int) ∈ nT := nT_in (i := 376) rfl (by decide +kernel)
theorem wl_L_63 : Cond.methodLink RL 63 yX6_odd ∈ nT := nT_in (i := 377) (by decide +kernel) (by decide +kernel)
theorem wi_X6_odd : Cond.instanceMethod yX6_odd ∈ nT := nT_in (i := 378) (by decide +kernel) (by decide +kernel)
theorem ws_X6_odd : Cond.selects RX6 yX6_odd yX6_odd ∈ nT := nT_in (i := 379) (by decide +kernel) (by decide +kernel)
set_option maxRecDepth 100000 in
theorem wc_X6_odd : Cond.code yX6_odd cX6_odd 3 (some .int) ∈ nT := nT_in (i := 380) rfl (by decide +kernel)
theorem wl_X6_130 : Cond.methodLink RX6 130 yX1_leastOdd ∈ nT := nT_in (i := 381) (by decide +kernel) (by decide +kernel)
theorem wi_X1_leastOdd : Cond.instanceMethod yX1_leastOdd ∈ nT := nT_in (i := 382) (by decide +kernel) (by decide +kernel)
theorem ws_X1_leastOdd : Cond.selects RX1 yX1_leastOdd yX1_leastOdd ∈ nT := nT_in (i := 383) (by decide +kernel) (by decide +kernel)
set_option maxRecDepth 100000 in
theorem wc_X1_leastOdd : Cond.code yX1_leastOdd cX1_leastOdd 2 (some .int) ∈ nT := nT_in (i := 384) rfl (by decide +kernel)
theorem wl_X1_59 : Cond.methodLink RX1 59 yX1_countGreedily ∈ nT := nT_in (i := 385) (by decide +kernel) (by decide +kernel)
theorem wl_L_68 : Cond.methodLink RL 68 yX6_till ∈ nT := nT_in (i := 386) (by decide +kernel) (by decide +kernel)
theorem wi_X6_till : Cond.instanceMethod yX6_till ∈ nT := nT_in (i := 387) (by decide +kernel) (by decide +kernel)
theorem ws_X6_till : Cond.selects RX6 yX6_till yX6_till ∈ nT := nT_in (i := 388) (by decide +kernel) (by decide +kernel)
set_option maxRecDepth 100000 in
theorem wc_X6_till : Cond.code yX6_till cX6_till 1 (some .int) ∈ nT := nT_in (i := 389) rfl (by decide +kernel)
theorem wl_L_72 : Cond.methodLink RL 72 yX6_put ∈ nT := nT_in (i := 390) (by decide +kernel) (by decide +kernel)
theorem wi_X6_put : Cond.instanceMethod yX6_put ∈ nT := nT_in (i := 391) (by decide +kernel) (by decide +kernel)
theorem ws_X6_put : Cond.selects RX6 yX6_put yX6_put ∈ nT := nT_in (i := 392) (by decide +kernel) (by decide +kernel)
set_option maxRecDepth 100000 in
theorem wc_X6_put : Cond.code yX6_put cX6_put 9 (some .int) ∈ nT := nT_in (i := 393) rfl (by decide +kernel)
theorem wl_X6_137 : Cond.methodLink RX6 137 yX4_tillAt ∈ nT := nT_in (i := 394) (by decide +kernel) (by decide +kernel)
theorem wi_X4_tillAt : Cond.instanceMethod yX4_tillAt ∈ nT := nT_in (i := 395) (by decide +kernel) (by decide +kernel)
theorem ws_X4_tillAt : Cond.selects RX4 yX4_tillAt yX4_tillAt ∈ nT := nT_in (i := 396) (by decide +kernel) (by decide +kernel)
set_option maxRecDepth 100000 in
theorem wc_X4_tillAt : Cond.code yX4_tillAt cX4_tillAt 2 (some (.object "NewCoins$Till")) ∈ nT := nT_in (i := 397) rfl (by decide +kernel)
theorem wl_X6_141 : Cond.methodLink RX6 141 yX4_isCoin ∈ nT := nT_in (i := 399) (by decide +kernel) (by decide +kernel)
theorem wi_X4_isCoin : Cond.instanceMethod yX4_isCoin ∈ nT := nT_in (i := 400) (by decide +kernel) (by decide +kernel)
theorem ws_X4_isCoin : Cond.selects RX4 yX4_isCoin yX4_isCoin ∈ nT := nT_in (i := 401) (by decide +kernel) (by decide +kernel)
set_option maxRecDepth 100000 in
theorem wc_X4_isCoin : Cond.code yX4_isCoin cX4_isCoin 4 (some .boolean) ∈ nT := nT_in (i := 402) rfl (by decide +kernel)
theorem wl_X4_72 : Cond.methodLink RX4 72 yX4_coinageOf ∈ nT := nT_in (i := 403) (by decide +kernel) (by decide +kernel)
theorem wl_X4_76 : Cond.methodLink RX4 76 yX1_isCoin ∈ nT := nT_in (i := 404) (by decide +kernel) (by decide +kernel)
theorem wl_X6_144 : Cond.methodLink RX6 144 yX5_countsOf ∈ nT := nT_in (i := 405) (by decide +kernel) (by decide +kernel)
theorem wi_X5_countsOf : Cond.instanceMethod yX5_countsOf ∈ nT := nT_in (i := 406) (by decide +kernel) (by decide +kernel)
theorem ws_X5_countsOf : Cond.selects RX5 yX5_countsOf yX5_countsOf ∈ nT := nT_in (i := 407) (by decide +kernel) (by decide +kernel)
set_option maxRecDepth 100000 in
theorem wc_X5_countsOf : Cond.code yX5_countsOf cX5_countsOf 2 (some (.array .int)) ∈ nT := nT_in (i := 408) rfl (by decide +kernel)
theorem wk_X6_150 : Cond.constantLong RX6 150 (1000) ∈ nT := nT_in (i := 409) (by decide +kernel) (by decide +kernel)
theorem wl_L_77 : Cond.methodLink RL 77 yX6_sale ∈ nT := nT_in (i := 410) (by decide +kernel) (by decide +kernel)
theorem wi_X6_sale : Cond.instanceMethod yX6_sale ∈ nT := nT_in (i := 411) (by decide +kernel) (by decide +kernel)
theorem ws_X6_sale : Cond.selects RX6 yX6_sale yX6_sale ∈ nT := nT_in (i := 412) (by decide +kernel) (by decide +kernel)
set_option maxRecDepth 100000 in
theorem wc_X6_sale : Cond.code yX6_sale cX6_sale 10 (some .int) ∈ nT := nT_in (i := 413) rfl (by decide +kernel)
theorem wl_X6_152 : Cond.methodLink RX6 152 yX4_isSale ∈ nT := nT_in (i := 414) (by decide +kernel) (by decide +kernel)
theorem wi_X4_isSale : Cond.instanceMethod yX4_isSale ∈ nT := nT_in (i := 415) (by decide +kernel) (by decide +kernel)
theorem ws_X4_isSale : Cond.selects RX4 yX4_isSale yX4_isSale ∈ nT := nT_in (i := 416) (by decide +kernel) (by decide +kernel)
set_option maxRecDepth 100000 in
theorem wc_X4_isSale : Cond.code yX4_isSale cX4_isSale 5 (some .boolean) ∈ nT := nT_in (i := 417) rfl (by decide +kernel)
theorem wl_X4_80 : Cond.methodLink RX4 80 yX4_isCoin ∈ nT := nT_in (i := 418) (by decide +kernel) (by decide +kernel)
theorem wl_X6_156 : Cond.methodLink RX6 156 yX4_spareParts ∈ nT := nT_in (i := 419) (by decide +kernel) (by decide +kernel)
theorem wi_X4_spareParts : Cond.instanceMethod yX4_spareParts ∈ nT := nT_in (i := 420) (by decide +kernel) (by decide +kernel)
theorem ws_X4_spareParts : Cond.selects RX4 yX4_spareParts yX4_spareParts ∈ nT := nT_in (i := 421) (by decide +kernel) (by decide +kernel)
set_option maxRecDepth 100000 in
theorem wc_X4_spareParts : Cond.code yX4_spareParts cX4_spareParts 6 (some .int) ∈ nT := nT_in (i := 422) rfl (by decide +kernel)
theorem wl_X4_89 : Cond.methodLink RX4 89 yX4_unitParts ∈ nT := nT_in (i := 423) (by decide +kernel) (by decide +kernel)
theorem wi_X4_unitParts : Cond.instanceMethod yX4_unitParts ∈ nT := nT_in (i := 424) (by decide +kernel) (by decide +kernel)
theorem ws_X4_unitParts : Cond.selects RX4 yX4_unitParts yX4_unitParts ∈ nT := nT_in (i := 425) (by decide +kernel) (by decide +kernel)
set_option maxRecDepth 100000 in
theorem wc_X4_unitParts : Cond.code yX4_unitParts cX4_unitParts 2 (some .int) ∈ nT := nT_in (i := 426) rfl (by decide +kernel)
theorem wl_X6_160 : Cond.methodLink RX6 160 yX6_wholeTimes ∈ nT := nT_in (i := 427) (by decide +kernel) (by decide +kernel)
theorem wl_X6_169 : Cond.methodLink RX6 169 yX0_make ∈ nT := nT_in (i := 428) (by decide +kernel) (by decide +kernel)
theorem wi_X0_make : Cond.instanceMethod yX0_make ∈ nT := nT_in (i := 429) (by decide +kernel) (by decide +kernel)
theorem ws_X0_make : Cond.selects RX0 yX0_make yX0_make ∈ nT := nT_in (i := 430) (by decide +kernel) (by decide +kernel)
set_option maxRecDepth 100000 in
theorem wc_X0_make : Cond.code yX0_make cX0_make 7 (some .boolean) ∈ nT := nT_in (i := 431) rfl (by decide +kernel)
theorem wl_X0_30 : Cond.methodLink RX0 30 yJ7_fill_53178 ∈ nT := nT_in (i := 433) (by decide +kernel) (by decide +kernel)
theorem wl_X0_48 : Cond.methodLink RX0 48 yX0_allow ∈ nT := nT_in (i := 434) (by decide +kernel) (by decide +kernel)
theorem wi_X0_allow : Cond.instanceMethod yX0_allow ∈ nT := nT_in (i := 436) (by decide +kernel) (by decide +kernel)
set_option maxRecDepth 100000 in
theorem wc_X0_allow : Cond.code yX0_allow cX0_allow 6 (none : Option Jvm.ClassFile.FieldType) ∈ nT := nT_in (i := 437) rfl (by decide +kernel)
theorem wl_X0_56 : Cond.methodLink RX0 56 yX0_slide ∈ nT := nT_in (i := 438) (by decide +kernel) (by decide +kernel)
theorem wi_X0_slide : Cond.instanceMethod yX0_slide ∈ nT := nT_in (i := 440) (by decide +kernel) (by decide +kernel)
set_option maxRecDepth 100000 in
theorem wc_X0_slide : Cond.code yX0_slide cX0_slide 13 (none : Option Jvm.ClassFile.FieldType) ∈ nT := nT_in (i := 441) rfl (by decide +kernel)
theorem wl_X0_52 : Cond.methodLink RX0 52 yX0_writeRow ∈ nT := nT_in (i := 443) (by decide +kernel) (by decide +kernel)
theorem wi_X0_writeRow : Cond.instanceMethod yX0_writeRow ∈ nT := nT_in (i := 445) (by decide +kernel) (by decide +kernel)
set_option maxRecDepth 100000 in
theorem wc_X0_writeRow : Cond.code yX0_writeRow cX0_writeRow 9 (none : Option Jvm.ClassFile.FieldType) ∈ nT := nT_in (i := 446) rfl (by decide +kernel)
theorem wl_X0_64 : Cond.methodLink RX0 64 yJ9_min_7cf53 ∈ nT := nT_in (i := 447) (by decide +kernel) (by decide +kernel)
theorem wt_J9_min_7cf53 : Cond.static yJ9_min_7cf53 ∈ nT := nT_in (i := 448) (by decide +kernel) (by decide +kernel)
set_option maxRecDepth 100000 in
theorem wc_J9_min_7cf53 : Cond.code yJ9_min_7cf53 cJ9_min_7cf53 2 (some .int) ∈ nT := nT_in (i := 449) rfl (by decide +kernel)
theorem wl_X0_69 : Cond.methodLink RX0 69 yX0_leadsOn ∈ nT := nT_in (i := 450) (by decide +kernel) (by decide +kernel)
theorem wi_X0_leadsOn : Cond.instanceMethod yX0_leadsOn ∈ nT := nT_in (i := 452) (by decide +kernel) (by decide +kernel)
set_option maxRecDepth 100000 in
theorem wc_X0_leadsOn : Cond.code yX0_leadsOn cX0_leadsOn 5 (some .boolean) ∈ nT := nT_in (i := 453) rfl (by decide +kernel)
theorem wl_X6_176 : Cond.methodLink RX6 176 yX5_close ∈ nT := nT_in (i := 454) (by decide +kernel) (by decide +kernel)
theorem wi_X5_close : Cond.instanceMethod yX5_close ∈ nT := nT_in (i := 455) (by decide +kernel) (by decide +kernel)
theorem ws_X5_close : Cond.selects RX5 yX5_close yX5_close ∈ nT := nT_in (i := 456) (by decide +kernel) (by decide +kernel)
set_option maxRecDepth 100000 in
theorem wc_X5_close : Cond.code yX5_close cX5_close 5 (none : Option Jvm.ClassFile.FieldType) ∈ nT := nT_in (i := 457) rfl (by decide +kernel)
theorem wl_L_82 : Cond.methodLink RL 82 yX6_given ∈ nT := nT_in (i := 458) (by decide +kernel) (by decide +kernel)
theorem wi_X6_given : Cond.instanceMethod yX6_given ∈ nT := nT_in (i := 459) (by decide +kernel) (by decide +kernel)
theorem ws_X6_given : Cond.selects RX6 yX6_given yX6_given ∈ nT := nT_in (i := 460) (by decide +kernel) (by decide +kernel)
set_option maxRecDepth 100000 in
theorem wc_X6_given : Cond.code yX6_given cX6_given 4 (some .int) ∈ nT := nT_in (i := 461) rfl (by decide +kernel)
theorem wl_L_86 : Cond.methodLink RL 86 yX6_tell ∈ nT := nT_in (i := 462) (by decide +kernel) (by decide +kernel)
theorem wi_X6_tell : Cond.instanceMethod yX6_tell ∈ nT := nT_in (i := 463) (by decide +kernel) (by decide +kernel)
theorem ws_X6_tell : Cond.selects RX6 yX6_tell yX6_tell ∈ nT := nT_in (i := 464) (by decide +kernel) (by decide +kernel)
set_option maxRecDepth 100000 in
theorem wc_X6_tell : Cond.code yX6_tell cX6_tell 4 (some .long) ∈ nT := nT_in (i := 465) rfl (by decide +kernel)
theorem wk_X6_186 : Cond.constantLong RX6 186 (-1) ∈ nT := nT_in (i := 466) (by decide +kernel) (by decide +kernel)
theorem wl_X6_195 : Cond.methodLink RX6 195 yX4_partsOf ∈ nT := nT_in (i := 467) (by decide +kernel) (by decide +kernel)
theorem wi_X4_partsOf : Cond.instanceMethod yX4_partsOf ∈ nT := nT_in (i := 468) (by decide +kernel) (by decide +kernel)
theorem ws_X4_partsOf : Cond.selects RX4 yX4_partsOf yX4_partsOf ∈ nT := nT_in (i := 469) (by decide +kernel) (by decide +kernel)
set_option maxRecDepth 100000 in
theorem wc_X4_partsOf : Cond.code yX4_partsOf cX4_partsOf 7 (some .long) ∈ nT := nT_in (i := 470) rfl (by decide +kernel)
theorem wl_L_91 : Cond.methodLink RL 91 yX6_has ∈ nT := nT_in (i := 471) (by decide +kernel) (by decide +kernel)
theorem wi_X6_has : Cond.instanceMethod yX6_has ∈ nT := nT_in (i := 472) (by decide +kernel) (by decide +kernel)
theorem ws_X6_has : Cond.selects RX6 yX6_has yX6_has ∈ nT := nT_in (i := 473) (by decide +kernel) (by decide +kernel)
set_option maxRecDepth 100000 in
theorem wc_X6_has : Cond.code yX6_has cX6_has 5 (some .int) ∈ nT := nT_in (i := 474) rfl (by decide +kernel)
theorem wl_L_95 : Cond.methodLink RL 95 yX6_draw ∈ nT := nT_in (i := 475) (by decide +kernel) (by decide +kernel)
theorem wi_X6_draw : Cond.instanceMethod yX6_draw ∈ nT := nT_in (i := 476) (by decide +kernel) (by decide +kernel)
theorem ws_X6_draw : Cond.selects RX6 yX6_draw yX6_draw ∈ nT := nT_in (i := 477) (by decide +kernel) (by decide +kernel)
set_option maxRecDepth 100000 in
theorem wc_X6_draw : Cond.code yX6_draw cX6_draw 6 (some .long) ∈ nT := nT_in (i := 478) rfl (by decide +kernel)
theorem wl_L_99 : Cond.methodLink RL 99 yX6_drawn ∈ nT := nT_in (i := 479) (by decide +kernel) (by decide +kernel)
theorem wi_X6_drawn : Cond.instanceMethod yX6_drawn ∈ nT := nT_in (i := 480) (by decide +kernel) (by decide +kernel)
theorem ws_X6_drawn : Cond.selects RX6 yX6_drawn yX6_drawn ∈ nT := nT_in (i := 481) (by decide +kernel) (by decide +kernel)
set_option maxRecDepth 100000 in
theorem wc_X6_drawn : Cond.code yX6_drawn cX6_drawn 2 (some .int) ∈ nT := nT_in (i := 482) rfl (by decide +kernel)
theorem wl_L_103 : Cond.methodLink RL 103 yX6_expect ∈ nT := nT_in (i := 483) (by decide +kernel) (by decide +kernel)
theorem wi_X6_expect : Cond.instanceMethod yX6_expect ∈ nT := nT_in (i := 484) (by decide +kernel) (by decide +kernel)
theorem ws_X6_expect : Cond.selects RX6 yX6_expect yX6_expect ∈ nT := nT_in (i := 485) (by decide +kernel) (by decide +kernel)
set_option maxRecDepth 100000 in
theorem wc_X6_expect : Cond.code yX6_expect cX6_expect 7 (some .int) ∈ nT := nT_in (i := 486) rfl (by decide +kernel)
theorem wl_X6_212 : Cond.methodLink RX6 212 yX2_add ∈ nT := nT_in (i := 487) (by decide +kernel) (by decide +kernel)
theorem wi_X2_add : Cond.instanceMethod yX2_add ∈ nT := nT_in (i := 488) (by decide +kernel) (by decide +kernel)
theorem ws_X2_add : Cond.selects RX2 yX2_add yX2_add ∈ nT := nT_in (i := 489) (by decide +kernel) (by decide +kernel)
set_option maxRecDepth 100000 in
theorem wc_X2_add : Cond.code yX2_add cX2_add 5 (some .int) ∈ nT := nT_in (i := 490) rfl (by decide +kernel)
theorem wl_L_107 : Cond.methodLink RL 107 yX6_forget ∈ nT := nT_in (i := 491) (by decide +kernel) (by decide +kernel)
theorem wi_X6_forget : Cond.instanceMethod yX6_forget ∈ nT := nT_in (i := 492) (by decide +kernel) (by decide +kernel)
theorem ws_X6_forget : Cond.selects RX6 yX6_forget yX6_forget ∈ nT := nT_in (i := 493) (by decide +kernel) (by decide +kernel)
set_option maxRecDepth 100000 in
theorem wc_X6_forget : Cond.code yX6_forget cX6_forget 3 (some .boolean) ∈ nT := nT_in (i := 494) rfl (by decide +kernel)
theorem wl_L_111 : Cond.methodLink RL 111 yX6_wanted ∈ nT := nT_in (i := 495) (by decide +kernel) (by decide +kernel)
theorem wi_X6_wanted : Cond.instanceMethod yX6_wanted ∈ nT := nT_in (i := 496) (by decide +kernel) (by decide +kernel)
theorem ws_X6_wanted : Cond.selects RX6 yX6_wanted yX6_wanted ∈ nT := nT_in (i := 497) (by decide +kernel) (by decide +kernel)
set_option maxRecDepth 100000 in
theorem wc_X6_wanted : Cond.code yX6_wanted cX6_wanted 4 (some .int) ∈ nT := nT_in (i := 498) rfl (by decide +kernel)
theorem wl_X6_214 : Cond.methodLink RX6 214 yX6_mostLacking ∈ nT := nT_in (i := 499) (by decide +kernel) (by decide +kernel)
theorem wi_X6_mostLacking : Cond.instanceMethod yX6_mostLacking ∈ nT := nT_in (i := 501) (by decide +kernel) (by decide +kernel)
set_option maxRecDepth 100000 in
theorem wc_X6_mostLacking : Cond.code yX6_mostLacking cX6_mostLacking 9 (some .int) ∈ nT := nT_in (i := 502) rfl (by decide +kernel)
theorem wl_X6_238 : Cond.methodLink RX6 238 yJ9_max_7cf53 ∈ nT := nT_in (i := 503) (by decide +kernel) (by decide +kernel)
theorem wt_J9_max_7cf53 : Cond.static yJ9_max_7cf53 ∈ nT := nT_in (i := 504) (by decide +kernel) (by decide +kernel)
set_option maxRecDepth 100000 in
theorem wc_J9_max_7cf53 : Cond.code yJ9_max_7cf53 cJ9_max_7cf53 2 (some .int) ∈ nT := nT_in (i := 505) rfl (by decide +kernel)
theorem wl_L_115 : Cond.methodLink RL 115 yX6_about ∈ nT := nT_in (i := 506) (by decide +kernel) (by decide +kernel)
theorem wi_X6_about : Cond.instanceMethod yX6_about ∈ nT := nT_in (i := 507) (by decide +kernel) (by decide +kernel)
theorem ws_X6_about : Cond.selects RX6 yX6_about yX6_about ∈ nT := nT_in (i := 508) (by decide +kernel) (by decide +kernel)
set_option maxRecDepth 100000 in
theorem wc_X6_about : Cond.code yX6_about cX6_about 4 (some .int) ∈ nT := nT_in (i := 509) rfl (by decide +kernel)
theorem wl_X6_218 : Cond.methodLink RX6 218 yX4_detail ∈ nT := nT_in (i := 510) (by decide +kernel) (by decide +kernel)
theorem wi_X4_detail : Cond.instanceMethod yX4_detail ∈ nT := nT_in (i := 511) (by decide +kernel) (by decide +kernel)
theorem ws_X4_detail : Cond.selects RX4 yX4_detail yX4_detail ∈ nT := nT_in (i := 512) (by decide +kernel) (by decide +kernel)
set_option maxRecDepth 100000 in
theorem wc_X4_detail : Cond.code yX4_detail cX4_detail 2 (some .int) ∈ nT := nT_in (i := 513) rfl (by decide +kernel)
theorem wl_X4_114 : Cond.methodLink RX4 114 yX4_goodDetail ∈ nT := nT_in (i := 514) (by decide +kernel) (by decide +kernel)
theorem wi_X4_goodDetail : Cond.instanceMethod yX4_goodDetail ∈ nT := nT_in (i := 516) (by decide +kernel) (by decide +kernel)
set_option maxRecDepth 100000 in
theorem wc_X4_goodDetail : Cond.code yX4_goodDetail cX4_goodDetail 2 (some .int) ∈ nT := nT_in (i := 517) rfl (by decide +kernel)
theorem wl_X4_117 : Cond.methodLink RX4 117 yX3_isGood ∈ nT := nT_in (i := 518) (by decide +kernel) (by decide +kernel)
theorem wl_X6_221 : Cond.methodLink RX6 221 yX1_detail ∈ nT := nT_in (i := 519) (by decide +kernel) (by decide +kernel)
theorem wi_X1_detail : Cond.instanceMethod yX1_detail ∈ nT := nT_in (i := 520) (by decide +kernel) (by decide +kernel)
theorem ws_X1_detail : Cond.selects RX1 yX1_detail yX1_detail ∈ nT := nT_in (i := 521) (by decide +kernel) (by decide +kernel)
set_option maxRecDepth 100000 in
theorem wc_X1_detail : Cond.code yX1_detail cX1_detail 2 (some .int) ∈ nT := nT_in (i := 522) rfl (by decide +kernel)
theorem wl_X1_63 : Cond.methodLink RX1 63 yX1_isCoin ∈ nT := nT_in (i := 523) (by decide +kernel) (by decide +kernel)
theorem wl_L_119 : Cond.methodLink RL 119 yX6_image ∈ nT := nT_in (i := 524) (by decide +kernel) (by decide +kernel)
theorem wi_X6_image : Cond.instanceMethod yX6_image ∈ nT := nT_in (i := 525) (by decide +kernel) (by decide +kernel)
theorem ws_X6_image : Cond.selects RX6 yX6_image yX6_image ∈ nT := nT_in (i := 526) (by decide +kernel) (by decide +kernel)
set_option maxRecDepth 100000 in
theorem wc_X6_image : Cond.code yX6_image cX6_image 2 (some .boolean) ∈ nT := nT_in (i := 527) rfl (by decide +kernel)
theorem wl_X6_222 : Cond.methodLink RX6 222 yX4_copyFrom ∈ nT := nT_in (i := 528) (by decide +kernel) (by decide +kernel)
theorem wi_X4_copyFrom : Cond.instanceMethod yX4_copyFrom ∈ nT := nT_in (i := 529) (by decide +kernel) (by decide +kernel)
theorem ws_X4_copyFrom : Cond.selects RX4 yX4_copyFrom yX4_copyFrom ∈ nT := nT_in (i := 530) (by decide +kernel) (by decide +kernel)
set_option maxRecDepth 100000 in
theorem wc_X4_copyFrom : Cond.code yX4_copyFrom cX4_copyFrom 3 (none : Option Jvm.ClassFile.FieldType) ∈ nT := nT_in (i := 531) rfl (by decide +kernel)
theorem wl_X4_52 : Cond.methodLink RX4 52 yX1_copyFrom ∈ nT := nT_in (i := 532) (by decide +kernel) (by decide +kernel)
theorem wi_X1_copyFrom : Cond.instanceMethod yX1_copyFrom ∈ nT := nT_in (i := 533) (by decide +kernel) (by decide +kernel)
theorem ws_X1_copyFrom : Cond.selects RX1 yX1_copyFrom yX1_copyFrom ∈ nT := nT_in (i := 534) (by decide +kernel) (by decide +kernel)
set_option maxRecDepth 100000 in
theorem wc_X1_copyFrom : Cond.code yX1_copyFrom cX1_copyFrom 2 (none : Option Jvm.ClassFile.FieldType) ∈ nT := nT_in (i := 535) rfl (by decide +kernel)
theorem wl_X1_31 : Cond.methodLink RX1 31 arraycopyName ∈ nT := nT_in (i := 536) (by decide +kernel) (by decide +kernel)
theorem wt_arraycopyName : Cond.static arraycopyName ∈ nT := nT_in (i := 537) (by decide +kernel) (by decide +kernel)
theorem wz_arraycopyName : Cond.native arraycopyName ∈ nT := nT_in (i := 538) (by decide +kernel) (by decide +kernel)
theorem wl_X4_56 : Cond.methodLink RX4 56 yX3_copyFrom ∈ nT := nT_in (i := 539) (by decide +kernel) (by decide +kernel)
theorem wi_X3_copyFrom : Cond.instanceMethod yX3_copyFrom ∈ nT := nT_in (i := 540) (by decide +kernel) (by decide +kernel)
theorem ws_X3_copyFrom : Cond.selects RX3 yX3_copyFrom yX3_copyFrom ∈ nT := nT_in (i := 541) (by decide +kernel) (by decide +kernel)
set_option maxRecDepth 100000 in
theorem wc_X3_copyFrom : Cond.code yX3_copyFrom cX3_copyFrom 2 (none : Option Jvm.ClassFile.FieldType) ∈ nT := nT_in (i := 542) rfl (by decide +kernel)
theorem wl_X3_22 : Cond.methodLink RX3 22 arraycopyName ∈ nT := nT_in (i := 543) (by decide +kernel) (by decide +kernel)
theorem wl_X4_59 : Cond.methodLink RX4 59 yX5_copyFrom ∈ nT := nT_in (i := 544) (by decide +kernel) (by decide +kernel)
theorem wi_X5_copyFrom : Cond.instanceMethod yX5_copyFrom ∈ nT := nT_in (i := 545) (by decide +kernel) (by decide +kernel)
theorem ws_X5_copyFrom : Cond.selects RX5 yX5_copyFrom yX5_copyFrom ∈ nT := nT_in (i := 546) (by decide +kernel) (by decide +kernel)
set_option maxRecDepth 100000 in
theorem wc_X5_copyFrom : Cond.code yX5_copyFrom cX5_copyFrom 2 (none : Option Jvm.ClassFile.FieldType) ∈ nT := nT_in (i := 547) rfl (by decide +kernel)
theorem wl_X5_39 : Cond.methodLink RX5 39 arraycopyName ∈ nT := nT_in (i := 548) (by decide +kernel) (by decide +kernel)
theorem wl_X5_45 : Cond.methodLink RX5 45 yX2_copyFrom ∈ nT := nT_in (i := 549) (by decide +kernel) (by decide +kernel)
theorem wi_X2_copyFrom : Cond.instanceMethod yX2_copyFrom ∈ nT := nT_in (i := 550) (by decide +kernel) (by decide +kernel)
theorem ws_X2_copyFrom : Cond.selects RX2 yX2_copyFrom yX2_copyFrom ∈ nT := nT_in (i := 551) (by decide +kernel) (by decide +kernel)
set_option maxRecDepth 100000 in
theorem wc_X2_copyFrom : Cond.code yX2_copyFrom cX2_copyFrom 2 (none : Option Jvm.ClassFile.FieldType) ∈ nT := nT_in (i := 552) rfl (by decide +kernel)
theorem wl_X2_28 : Cond.methodLink RX2 28 arraycopyName ∈ nT := nT_in (i := 553) (by decide +kernel) (by decide +kernel)
theorem wl_X4_62 : Cond.methodLink RX4 62 arraycopyName ∈ nT := nT_in (i := 554) (by decide +kernel) (by decide +kernel)
theorem wl_L_123 : Cond.methodLink RL 123 yX6_again ∈ nT := nT_in (i := 555) (by decide +kernel) (by decide +kernel)
theorem wi_X6_again : Cond.instanceMethod yX6_again ∈ nT := nT_in (i := 556) (by decide +kernel) (by decide +kernel)
theorem ws_X6_again : Cond.selects RX6 yX6_again yX6_again ∈ nT := nT_in (i := 557) (by decide +kernel) (by decide +kernel)
set_option maxRecDepth 100000 in
theorem wc_X6_again : Cond.code yX6_again cX6_again 2 (some .boolean) ∈ nT := nT_in (i := 558) rfl (by decide +kernel)
theorem wq_L_10 : Cond.classLink RL 10 RX7 ∈ nT := nT_in (i := 559) (by decide +kernel) (by decide +kernel)
theorem wo_X7 : Cond.instantiable RX7 27 ∈ nT := nT_in (i := 560) (by decide +kernel) (by decide +kernel)
theorem wl_L_12 : Cond.methodLink RL 12 yX7_init ∈ nT := nT_in (i := 561) (by decide +kernel) (by decide +kernel)
theorem wi_X7_init : Cond.instanceMethod yX7_init ∈ nT := nT_in (i := 562) (by decide +kernel) (by decide +kernel)
set_option maxRecDepth 100000 in
theorem wc_X7_init : Cond.code yX7_init cX7_init 1 (none : Option Jvm.ClassFile.FieldType) ∈ nT := nT_in (i := 563) rfl (by decide +kernel)
theorem wl_X7_1 : Cond.methodLink RX7 1 objectInit ∈ nT := nT_in (i := 564) (by decide +kernel) (by decide +kernel)
theorem wf_X7_90 : Cond.fieldLink RX7 90 "NewCoinsModel" "code" "I" ∈ nT := nT_in (i := 565) (by decide +kernel) (by decide +kernel)
theorem wf_X7_7 : Cond.fieldLink RX7 7 "NewCoinsModel" "coins" "[I" ∈ nT := nT_in (i := 566) (by decide +kernel) (by decide +kernel)
theorem wf_X7_13 : Cond.fieldLink RX7 13 "NewCoinsModel" "value" "[I" ∈ nT := nT_in (i := 567) (by decide +kernel) (by decide +kernel)
theorem wf_X7_16 : Cond.fieldLink RX7 16 "NewCoinsModel" "rates" "[I" ∈ nT := nT_in (i := 568) (by decide +kernel) (by decide +kernel)
theorem wf_X7_19 : Cond.fieldLink RX7 19 "NewCoinsModel" "sales" "[I" ∈ nT := nT_in (i := 569) (by decide +kernel) (by decide +kernel)
theorem wf_X7_22 : Cond.fieldLink RX7 22 "NewCoinsModel" "goods" "[I" ∈ nT := nT_in (i := 570) (by decide +kernel) (by decide +kernel)
theorem wf_X7_25 : Cond.fieldLink RX7 25 "NewCoinsModel" "prices" "[I" ∈ nT := nT_in (i := 571) (by decide +kernel) (by decide +kernel)
theorem wf_X7_28 : Cond.fieldLink RX7 28 "NewCoinsModel" "times" "[I" ∈ nT := nT_in (i := 572) (by decide +kernel) (by decide +kernel)
theorem wf_X7_31 : Cond.fieldLink RX7 31 "NewCoinsModel" "steps" "[I" ∈ nT := nT_in (i := 573) (by decide +kernel) (by decide +kernel)
theorem wf_X7_34 : Cond.fieldLink RX7 34 "NewCoinsModel" "tills" "[I" ∈ nT := nT_in (i := 574) (by decide +kernel) (by decide +kernel)
theorem wf_X7_37 : Cond.fieldLink RX7 37 "NewCoinsModel" "tillSales" "[I" ∈ nT := nT_in (i := 575) (by decide +kernel) (by decide +kernel)
theorem wf_X7_40 : Cond.fieldLink RX7 40 "NewCoinsModel" "scraps" "[J" ∈ nT := nT_in (i := 576) (by decide +kernel) (by decide +kernel)
theorem wf_X7_44 : Cond.fieldLink RX7 44 "NewCoinsModel" "paid" "[J" ∈ nT := nT_in (i := 577) (by decide +kernel) (by decide +kernel)
theorem wf_X7_47 : Cond.fieldLink RX7 47 "NewCoinsModel" "expected" "[I" ∈ nT := nT_in (i := 578) (by decide +kernel) (by decide +kernel)
theorem wf_X7_50 : Cond.fieldLink RX7 50 "NewCoinsModel" "has" "[I" ∈ nT := nT_in (i := 579) (by decide +kernel) (by decide +kernel)
theorem wf_X7_53 : Cond.fieldLink RX7 53 "NewCoinsModel" "gave" "[I" ∈ nT := nT_in (i := 580) (by decide +kernel) (by decide +kernel)
theorem wf_X7_56 : Cond.fieldLink RX7 56 "NewCoinsModel" "drawnIn" "[I" ∈ nT := nT_in (i := 581) (by decide +kernel) (by decide +kernel)
theorem wf_X7_59 : Cond.fieldLink RX7 59 "NewCoinsModel" "expects" "[I" ∈ nT := nT_in (i := 582) (by decide +kernel) (by decide +kernel)
theorem wf_X7_62 : Cond.fieldLink RX7 62 "NewCoinsModel" "one" "[J" ∈ nT := nT_in (i := 583) (by decide +kernel) (by decide +kernel)
theorem wf_X7_65 : Cond.fieldLink RX7 65 "NewCoinsModel" "by" "[I" ∈ nT := nT_in (i := 584) (by decide +kernel) (by decide +kernel)
theorem wf_X7_68 : Cond.fieldLink RX7 68 "NewCoinsModel" "few" "[I" ∈ nT := nT_in (i := 585) (by decide +kernel) (by decide +kernel)
theorem wf_X7_71 : Cond.fieldLink RX7 71 "NewCoinsModel" "take" "[I" ∈ nT := nT_in (i := 586) (by decide +kernel) (by decide +kernel)
theorem wf_X7_74 : Cond.fieldLink RX7 74 "NewCoinsModel" "bound" "[I" ∈ nT := nT_in (i := 587) (by decide +kernel) (by decide +kernel)
theorem wf_X7_77 : Cond.fieldLink RX7 77 "NewCoinsModel" "least" "[I" ∈ nT := nT_in (i := 588) (by decide +kernel) (by decide +kernel)
theorem wf_X7_80 : Cond.fieldLink RX7 80 "NewCoinsModel" "pool" "[I" ∈ nT := nT_in (i := 589) (by decide +kernel) (by decide +kernel)
theorem wf_X7_83 : Cond.fieldLink RX7 83 "NewCoinsModel" "want" "[I" ∈ nT := nT_in (i := 590) (by decide +kernel) (by decide +kernel)
theorem wf_X7_86 : Cond.fieldLink RX7 86 "NewCoinsModel" "kept" "[Z" ∈ nT := nT_in (i := 591) (by decide +kernel) (by decide +kernel)
theorem wy_X7_code : Cond.lays "NewCoinsModel" "NewCoinsModel" "code" "I" ∈ nT := nT_in (i := 592) (by decide +kernel) (by decide +kernel)
theorem wy_X7_coins : Cond.laysFinal "NewCoinsModel" "NewCoinsModel" "coins" "[I" ∈ nT := nT_in (i := 594) (by decide +kernel) (by decide +kernel)
theorem wy_X7_value : Cond.laysFinal "NewCoinsModel" "NewCoinsModel" "value" "[I" ∈ nT := nT_in (i := 596) (by decide +kernel) (by decide +kernel)
theorem wy_X7_rates : Cond.laysFinal "NewCoinsModel" "NewCoinsModel" "rates" "[I" ∈ nT := nT_in (i := 598) (by decide +kernel) (by decide +kernel)
theorem wy_X7_sales : Cond.laysFinal "NewCoinsModel" "NewCoinsModel" "sales" "[I" ∈ nT := nT_in (i := 600) (by decide +kernel) (by decide +kernel)
theorem wy_X7_goods : Cond.laysFinal "NewCoinsModel" "NewCoinsModel" "goods" "[I" ∈ nT := nT_in (i := 602) (by decide +kernel) (by decide +kernel)
theorem wy_X7_prices : Cond.laysFinal "NewCoinsModel" "NewCoinsModel" "prices" "[I" ∈ nT := nT_in (i := 604) (by decide +kernel) (by decide +kernel)
theorem wy_X7_times : Cond.laysFinal "NewCoinsModel" "NewCoinsModel" "times" "[I" ∈ nT := nT_in (i := 606) (by decide +kernel) (by decide +kernel)
theorem wy_X7_steps : Cond.laysFinal "NewCoinsModel" "NewCoinsModel" "steps" "[I" ∈ nT := nT_in (i := 608) (by decide +kernel) (by decide +kernel)
theorem wy_X7_tills : Cond.laysFinal "NewCoinsModel" "NewCoinsModel" "tills" "[I" ∈ nT := nT_in (i := 610) (by decide +kernel) (by decide +kernel)
theorem wy_X7_tillSales : Cond.laysFinal "NewCoinsModel" "NewCoinsModel" "tillSales" "[I" ∈ nT := nT_in (i := 612) (by decide +kernel) (by decide +kernel)
theorem wy_X7_scraps : Cond.laysFinal "NewCoinsModel" "NewCoinsModel" "scraps" "[J" ∈ nT := nT_in (i := 614) (by decide +kernel) (by decide +kernel)
theorem wy_X7_paid : Cond.laysFinal "NewCoinsModel" "NewCoinsModel" "paid" "[J" ∈ nT := nT_in (i := 616) (by decide +kernel) (by decide +kernel)
theorem wy_X7_expected : Cond.laysFinal "NewCoinsModel" "NewCoinsModel" "expected" "[I" ∈ nT := nT_in (i := 618) (by decide +kernel) (by decide +kernel)
theorem wy_X7_has : Cond.laysFinal "NewCoinsModel" "NewCoinsModel" "has" "[I" ∈ nT := nT_in (i := 620) (by decide +kernel) (by decide +kernel)
theorem wy_X7_gave : Cond.laysFinal "NewCoinsModel" "NewCoinsModel" "gave" "[I" ∈ nT := nT_in (i := 622) (by decide +kernel) (by decide +kernel)
theorem wy_X7_drawnIn : Cond.laysFinal "NewCoinsModel" "NewCoinsModel" "drawnIn" "[I" ∈ nT := nT_in (i := 624) (by decide +kernel) (by decide +kernel)
theorem wy_X7_expects : Cond.laysFinal "NewCoinsModel" "NewCoinsModel" "expects" "[I" ∈ nT := nT_in (i := 626) (by decide +kernel) (by decide +kernel)
theorem wy_X7_one : Cond.laysFinal "NewCoinsModel" "NewCoinsModel" "one" "[J" ∈ nT := nT_in (i := 628) (by decide +kernel) (by decide +kernel)
theorem wy_X7_by : Cond.laysFinal "NewCoinsModel" "NewCoinsModel" "by" "[I" ∈ nT := nT_in (i := 630) (by decide +kernel) (by decide +kernel)
theorem wy_X7_few : Cond.laysFinal "NewCoinsModel" "NewCoinsModel" "few" "[I" ∈ nT := nT_in (i := 632) (by decide +kernel) (by decide +kernel)
theorem wy_X7_take : Cond.laysFinal "NewCoinsModel" "NewCoinsModel" "take" "[I" ∈ nT := nT_in (i := 634) (by decide +kernel) (by decide +kernel)
theorem wy_X7_bound : Cond.laysFinal "NewCoinsModel" "NewCoinsModel" "bound" "[I" ∈ nT := nT_in (i := 636) (by decide +kernel) (by decide +kernel)
theorem wy_X7_least : Cond.laysFinal "NewCoinsModel" "NewCoinsModel" "least" "[I" ∈ nT := nT_in (i := 638) (by decide +kernel) (by decide +kernel)
theorem wy_X7_pool : Cond.laysFinal "NewCoinsModel" "NewCoinsModel" "pool" "[I" ∈ nT := nT_in (i := 640) (by decide +kernel) (by decide +kernel)
theorem wy_X7_want : Cond.laysFinal "NewCoinsModel" "NewCoinsModel" "want" "[I" ∈ nT := nT_in (i := 642) (by decide +kernel) (by decide +kernel)
theorem wy_X7_kept : Cond.laysFinal "NewCoinsModel" "NewCoinsModel" "kept" "[Z" ∈ nT := nT_in (i := 644) (by decide +kernel) (by decide +kernel)
theorem wl_L_17 : Cond.methodLink RL 17 yX7_coin ∈ nT := nT_in (i := 647) (by decide +kernel) (by decide +kernel)
theorem wi_X7_coin : Cond.instanceMethod yX7_coin ∈ nT := nT_in (i := 648) (by decide +kernel) (by decide +kernel)
theorem ws_X7_coin : Cond.selects RX7 yX7_coin yX7_coin ∈ nT := nT_in (i := 649) (by decide +kernel) (by decide +kernel)
set_option maxRecDepth 100000 in
theorem wc_X7_coin : Cond.code yX7_coin cX7_coin 4 (some .int) ∈ nT := nT_in (i := 650) rfl (by decide +kernel)
theorem wl_X7_98 : Cond.methodLink RX7 98 yX7_in ∈ nT := nT_in (i := 651) (by decide +kernel) (by decide +kernel)
theorem wt_X7_in : Cond.static yX7_in ∈ nT := nT_in (i := 652) (by decide +kernel) (by decide +kernel)
set_option maxRecDepth 100000 in
theorem wc_X7_in : Cond.code yX7_in cX7_in 3 (some .boolean) ∈ nT := nT_in (i := 653) rfl (by decide +kernel)
theorem wl_L_22 : Cond.methodLink RL 22 yX7_rate ∈ nT := nT_in (i := 654) (by decide +kernel) (by decide +kernel)
theorem wi_X7_rate : Cond.instanceMethod yX7_rate ∈ nT := nT_in (i := 655) (by decide +kernel) (by decide +kernel)
theorem ws_X7_rate : Cond.selects RX7 yX7_rate yX7_rate ∈ nT := nT_in (i := 656) (by decide +kernel) (by decide +kernel)
set_option maxRecDepth 100000 in
theorem wc_X7_rate : Cond.code yX7_rate cX7_rate 3 (some .boolean) ∈ nT := nT_in (i := 657) rfl (by decide +kernel)
theorem wl_L_26 : Cond.methodLink RL 26 yX7_good ∈ nT := nT_in (i := 658) (by decide +kernel) (by decide +kernel)
theorem wi_X7_good : Cond.instanceMethod yX7_good ∈ nT := nT_in (i := 659) (by decide +kernel) (by decide +kernel)
theorem ws_X7_good : Cond.selects RX7 yX7_good yX7_good ∈ nT := nT_in (i := 660) (by decide +kernel) (by decide +kernel)
set_option maxRecDepth 100000 in
theorem wc_X7_good : Cond.code yX7_good cX7_good 3 (some .int) ∈ nT := nT_in (i := 661) rfl (by decide +kernel)
theorem wl_L_30 : Cond.methodLink RL 30 yX7_sold ∈ nT := nT_in (i := 662) (by decide +kernel) (by decide +kernel)
theorem wi_X7_sold : Cond.instanceMethod yX7_sold ∈ nT := nT_in (i := 663) (by decide +kernel) (by decide +kernel)
theorem ws_X7_sold : Cond.selects RX7 yX7_sold yX7_sold ∈ nT := nT_in (i := 664) (by decide +kernel) (by decide +kernel)
set_option maxRecDepth 100000 in
theorem wc_X7_sold : Cond.code yX7_sold cX7_sold 3 (some .boolean) ∈ nT := nT_in (i := 665) rfl (by decide +kernel)
theorem wl_X7_102 : Cond.methodLink RX7 102 yX7_isGood ∈ nT := nT_in (i := 666) (by decide +kernel) (by decide +kernel)
theorem wi_X7_isGood : Cond.instanceMethod yX7_isGood ∈ nT := nT_in (i := 668) (by decide +kernel) (by decide +kernel)
set_option maxRecDepth 100000 in
theorem wc_X7_isGood : Cond.code yX7_isGood cX7_isGood 2 (some .boolean) ∈ nT := nT_in (i := 669) rfl (by decide +kernel)
theorem wl_L_35 : Cond.methodLink RL 35 yX7_step ∈ nT := nT_in (i := 670) (by decide +kernel) (by decide +kernel)
theorem wi_X7_step : Cond.instanceMethod yX7_step ∈ nT := nT_in (i := 671) (by decide +kernel) (by decide +kernel)
theorem ws_X7_step : Cond.selects RX7 yX7_step yX7_step ∈ nT := nT_in (i := 672) (by decide +kernel) (by decide +kernel)
set_option maxRecDepth 100000 in
theorem wc_X7_step : Cond.code yX7_step cX7_step 2 (some .boolean) ∈ nT := nT_in (i := 673) rfl (by decide +kernel)
theorem wl_L_39 : Cond.methodLink RL 39 yX7_price ∈ nT := nT_in (i := 674) (by decide +kernel) (by decide +kernel)
theorem wi_X7_price : Cond.instanceMethod yX7_price ∈ nT := nT_in (i := 675) (by decide +kernel) (by decide +kernel)
theorem ws_X7_price : Cond.selects RX7 yX7_price yX7_price ∈ nT := nT_in (i := 676) (by decide +kernel) (by decide +kernel)
set_option maxRecDepth 100000 in
theorem wc_X7_price : Cond.code yX7_price cX7_price 3 (some .int) ∈ nT := nT_in (i := 677) rfl (by decide +kernel)
theorem wl_X7_106 : Cond.methodLink RX7 106 yX7_priceOf ∈ nT := nT_in (i := 678) (by decide +kernel) (by decide +kernel)
theorem wi_X7_priceOf : Cond.instanceMethod yX7_priceOf ∈ nT := nT_in (i := 680) (by decide +kernel) (by decide +kernel)
set_option maxRecDepth 100000 in
theorem wc_X7_priceOf : Cond.code yX7_priceOf cX7_priceOf 9 (some .int) ∈ nT := nT_in (i := 681) rfl (by decide +kernel)
theorem wl_L_44 : Cond.methodLink RL 44 yX7_gain ∈ nT := nT_in (i := 682) (by decide +kernel) (by decide +kernel)
theorem wi_X7_gain : Cond.instanceMethod yX7_gain ∈ nT := nT_in (i := 683) (by decide +kernel) (by decide +kernel)
theorem ws_X7_gain : Cond.selects RX7 yX7_gain yX7_gain ∈ nT := nT_in (i := 684) (by decide +kernel) (by decide +kernel)
set_option maxRecDepth 100000 in
theorem wc_X7_gain : Cond.code yX7_gain cX7_gain 5 (some .long) ∈ nT := nT_in (i := 685) rfl (by decide +kernel)
theorem wl_X7_110 : Cond.methodLink RX7 110 yX7_gainOf ∈ nT := nT_in (i := 686) (by decide +kernel) (by decide +kernel)
theorem wi_X7_gainOf : Cond.instanceMethod yX7_gainOf ∈ nT := nT_in (i := 688) (by decide +kernel) (by decide +kernel)
set_option maxRecDepth 100000 in
theorem wc_X7_gainOf : Cond.code yX7_gainOf cX7_gainOf 3 (some .long) ∈ nT := nT_in (i := 689) rfl (by decide +kernel)
theorem wl_L_49 : Cond.methodLink RL 49 yX7_fairest ∈ nT := nT_in (i := 690) (by decide +kernel) (by decide +kernel)
theorem wi_X7_fairest : Cond.instanceMethod yX7_fairest ∈ nT := nT_in (i := 691) (by decide +kernel) (by decide +kernel)
theorem ws_X7_fairest : Cond.selects RX7 yX7_fairest yX7_fairest ∈ nT := nT_in (i := 692) (by decide +kernel) (by decide +kernel)
set_option maxRecDepth 100000 in
theorem wc_X7_fairest : Cond.code yX7_fairest cX7_fairest 8 (some .int) ∈ nT := nT_in (i := 693) rfl (by decide +kernel)
theorem wk_X7_114 : Cond.constantLong RX7 114 (-1) ∈ nT := nT_in (i := 694) (by decide +kernel) (by decide +kernel)
theorem wl_L_53 : Cond.methodLink RL 53 yX7_gains ∈ nT := nT_in (i := 695) (by decide +kernel) (by decide +kernel)
theorem wi_X7_gains : Cond.instanceMethod yX7_gains ∈ nT := nT_in (i := 696) (by decide +kernel) (by decide +kernel)
theorem ws_X7_gains : Cond.selects RX7 yX7_gains yX7_gains ∈ nT := nT_in (i := 697) (by decide +kernel) (by decide +kernel)
set_option maxRecDepth 100000 in
theorem wc_X7_gains : Cond.code yX7_gains cX7_gains 5 (some .long) ∈ nT := nT_in (i := 698) rfl (by decide +kernel)
theorem wl_L_58 : Cond.methodLink RL 58 yX7_fewest ∈ nT := nT_in (i := 699) (by decide +kernel) (by decide +kernel)
theorem wi_X7_fewest : Cond.instanceMethod yX7_fewest ∈ nT := nT_in (i := 700) (by decide +kernel) (by decide +kernel)
theorem ws_X7_fewest : Cond.selects RX7 yX7_fewest yX7_fewest ∈ nT := nT_in (i := 701) (by decide +kernel) (by decide +kernel)
set_option maxRecDepth 100000 in
theorem wc_X7_fewest : Cond.code yX7_fewest cX7_fewest 5 (some .int) ∈ nT := nT_in (i := 702) rfl (by decide +kernel)
theorem wl_X7_121 : Cond.methodLink RX7 121 yX7_isCoin ∈ nT := nT_in (i := 703) (by decide +kernel) (by decide +kernel)
theorem wi_X7_isCoin : Cond.instanceMethod yX7_isCoin ∈ nT := nT_in (i := 705) (by decide +kernel) (by decide +kernel)
set_option maxRecDepth 100000 in
theorem wc_X7_isCoin : Cond.code yX7_isCoin cX7_isCoin 3 (some .boolean) ∈ nT := nT_in (i := 706) rfl (by decide +kernel)
theorem wl_X7_125 : Cond.methodLink RX7 125 yX7_noBounds ∈ nT := nT_in (i := 707) (by decide +kernel) (by decide +kernel)
theorem wi_X7_noBounds : Cond.instanceMethod yX7_noBounds ∈ nT := nT_in (i := 709) (by decide +kernel) (by decide +kernel)
set_option maxRecDepth 100000 in
theorem wc_X7_noBounds : Cond.code yX7_noBounds cX7_noBounds 2 (none : Option Jvm.ClassFile.FieldType) ∈ nT := nT_in (i := 710) rfl (by decide +kernel)
theorem wl_X7_128 : Cond.methodLink RX7 128 yX7_find ∈ nT := nT_in (i := 711) (by decide +kernel) (by decide +kernel)
theorem wi_X7_find : Cond.instanceMethod yX7_find ∈ nT := nT_in (i := 713) (by decide +kernel) (by decide +kernel)
set_option maxRecDepth 100000 in
theorem wc_X7_find : Cond.code yX7_find cX7_find 11 (some .int) ∈ nT := nT_in (i := 714) rfl (by decide +kernel)
theorem wl_X7_116 : Cond.methodLink RX7 116 yX7_sortCoins ∈ nT := nT_in (i := 715) (by decide +kernel) (by decide +kernel)
theorem wi_X7_sortCoins : Cond.instanceMethod yX7_sortCoins ∈ nT := nT_in (i := 717) (by decide +kernel) (by decide +kernel)
set_option maxRecDepth 100000 in
theorem wc_X7_sortCoins : Cond.code yX7_sortCoins cX7_sortCoins 4 (none : Option Jvm.ClassFile.FieldType) ∈ nT := nT_in (i := 718) rfl (by decide +kernel)
theorem wk_X7_120 : Cond.constant RX7 120 (1000000) ∈ nT := nT_in (i := 719) (by decide +kernel) (by decide +kernel)
theorem wl_L_62 : Cond.methodLink RL 62 yX7_greedy ∈ nT := nT_in (i := 720) (by decide +kernel) (by decide +kernel)
theorem wi_X7_greedy : Cond.instanceMethod yX7_greedy ∈ nT := nT_in (i := 721) (by decide +kernel) (by decide +kernel)
theorem ws_X7_greedy : Cond.selects RX7 yX7_greedy yX7_greedy ∈ nT := nT_in (i := 722) (by decide +kernel) (by decide +kernel)
set_option maxRecDepth 100000 in
theorem wc_X7_greedy : Cond.code yX7_greedy cX7_greedy 3 (some .int) ∈ nT := nT_in (i := 723) rfl (by decide +kernel)
theorem wl_X7_131 : Cond.methodLink RX7 131 yX7_greedyOf ∈ nT := nT_in (i := 724) (by decide +kernel) (by decide +kernel)
theorem wi_X7_greedyOf : Cond.instanceMethod yX7_greedyOf ∈ nT := nT_in (i := 726) (by decide +kernel) (by decide +kernel)
set_option maxRecDepth 100000 in
theorem wc_X7_greedyOf : Cond.code yX7_greedyOf cX7_greedyOf 7 (some .int) ∈ nT := nT_in (i := 727) rfl (by decide +kernel)
theorem wl_L_67 : Cond.methodLink RL 67 yX7_odd ∈ nT := nT_in (i := 728) (by decide +kernel) (by decide +kernel)
theorem wi_X7_odd : Cond.instanceMethod yX7_odd ∈ nT := nT_in (i := 729) (by decide +kernel) (by decide +kernel)
theorem ws_X7_odd : Cond.selects RX7 yX7_odd yX7_odd ∈ nT := nT_in (i := 730) (by decide +kernel) (by decide +kernel)
set_option maxRecDepth 100000 in
theorem wc_X7_odd : Cond.code yX7_odd cX7_odd 5 (some .int) ∈ nT := nT_in (i := 731) rfl (by decide +kernel)
theorem wl_L_71 : Cond.methodLink RL 71 yX7_till ∈ nT := nT_in (i := 732) (by decide +kernel) (by decide +kernel)
theorem wi_X7_till : Cond.instanceMethod yX7_till ∈ nT := nT_in (i := 733) (by decide +kernel) (by decide +kernel)
theorem ws_X7_till : Cond.selects RX7 yX7_till yX7_till ∈ nT := nT_in (i := 734) (by decide +kernel) (by decide +kernel)
set_option maxRecDepth 100000 in
theorem wc_X7_till : Cond.code yX7_till cX7_till 3 (some .int) ∈ nT := nT_in (i := 735) rfl (by decide +kernel)
theorem wl_X7_134 : Cond.methodLink RX7 134 yX7_cell ∈ nT := nT_in (i := 736) (by decide +kernel) (by decide +kernel)
theorem wt_X7_cell : Cond.static yX7_cell ∈ nT := nT_in (i := 737) (by decide +kernel) (by decide +kernel)
set_option maxRecDepth 100000 in
theorem wc_X7_cell : Cond.code yX7_cell cX7_cell 3 (some .int) ∈ nT := nT_in (i := 738) rfl (by decide +kernel)
theorem wl_L_76 : Cond.methodLink RL 76 yX7_put ∈ nT := nT_in (i := 739) (by decide +kernel) (by decide +kernel)
theorem wi_X7_put : Cond.instanceMethod yX7_put ∈ nT := nT_in (i := 740) (by decide +kernel) (by decide +kernel)
theorem ws_X7_put : Cond.selects RX7 yX7_put yX7_put ∈ nT := nT_in (i := 741) (by decide +kernel) (by decide +kernel)
set_option maxRecDepth 100000 in
theorem wc_X7_put : Cond.code yX7_put cX7_put 6 (some .int) ∈ nT := nT_in (i := 742) rfl (by decide +kernel)
theorem wl_X7_138 : Cond.methodLink RX7 138 yX7_isTill ∈ nT := nT_in (i := 743) (by decide +kernel) (by decide +kernel)
theorem wi_X7_isTill : Cond.instanceMethod yX7_isTill ∈ nT := nT_in (i := 745) (by decide +kernel) (by decide +kernel)
set_option maxRecDepth 100000 in
theorem wc_X7_isTill : Cond.code yX7_isTill cX7_isTill 2 (some .boolean) ∈ nT := nT_in (i := 746) rfl (by decide +kernel)
theorem wl_L_81 : Cond.methodLink RL 81 yX7_sale ∈ nT := nT_in (i := 747) (by decide +kernel) (by decide +kernel)
theorem wi_X7_sale : Cond.instanceMethod yX7_sale ∈ nT := nT_in (i := 748) (by decide +kernel) (by decide +kernel)
theorem ws_X7_sale : Cond.selects RX7 yX7_sale yX7_sale ∈ nT := nT_in (i := 749) (by decide +kernel) (by decide +kernel)
set_option maxRecDepth 100000 in
theorem wc_X7_sale : Cond.code yX7_sale cX7_sale 11 (some .int) ∈ nT := nT_in (i := 750) rfl (by decide +kernel)
theorem wl_X7_141 : Cond.methodLink RX7 141 yX7_isSale ∈ nT := nT_in (i := 751) (by decide +kernel) (by decide +kernel)
theorem wi_X7_isSale : Cond.instanceMethod yX7_isSale ∈ nT := nT_in (i := 753) (by decide +kernel) (by decide +kernel)
set_option maxRecDepth 100000 in
theorem wc_X7_isSale : Cond.code yX7_isSale cX7_isSale 6 (some .boolean) ∈ nT := nT_in (i := 754) rfl (by decide +kernel)
theorem wl_X7_145 : Cond.methodLink RX7 145 yX7_over ∈ nT := nT_in (i := 755) (by decide +kernel) (by decide +kernel)
theorem wi_X7_over : Cond.instanceMethod yX7_over ∈ nT := nT_in (i := 757) (by decide +kernel) (by decide +kernel)
set_option maxRecDepth 100000 in
theorem wc_X7_over : Cond.code yX7_over cX7_over 5 (some .int) ∈ nT := nT_in (i := 758) rfl (by decide +kernel)
theorem wl_L_85 : Cond.methodLink RL 85 yX7_given ∈ nT := nT_in (i := 759) (by decide +kernel) (by decide +kernel)
theorem wi_X7_given : Cond.instanceMethod yX7_given ∈ nT := nT_in (i := 760) (by decide +kernel) (by decide +kernel)
theorem ws_X7_given : Cond.selects RX7 yX7_given yX7_given ∈ nT := nT_in (i := 761) (by decide +kernel) (by decide +kernel)
set_option maxRecDepth 100000 in
theorem wc_X7_given : Cond.code yX7_given cX7_given 3 (some .int) ∈ nT := nT_in (i := 762) rfl (by decide +kernel)
theorem wl_L_90 : Cond.methodLink RL 90 yX7_tell ∈ nT := nT_in (i := 763) (by decide +kernel) (by decide +kernel)
theorem wi_X7_tell : Cond.instanceMethod yX7_tell ∈ nT := nT_in (i := 764) (by decide +kernel) (by decide +kernel)
theorem ws_X7_tell : Cond.selects RX7 yX7_tell yX7_tell ∈ nT := nT_in (i := 765) (by decide +kernel) (by decide +kernel)
set_option maxRecDepth 100000 in
theorem wc_X7_tell : Cond.code yX7_tell cX7_tell 3 (some .long) ∈ nT := nT_in (i := 766) rfl (by decide +kernel)
theorem wl_X7_149 : Cond.methodLink RX7 149 yX7_parts ∈ nT := nT_in (i := 767) (by decide +kernel) (by decide +kernel)
theorem wi_X7_parts : Cond.instanceMethod yX7_parts ∈ nT := nT_in (i := 769) (by decide +kernel) (by decide +kernel)
set_option maxRecDepth 100000 in
theorem wc_X7_parts : Cond.code yX7_parts cX7_parts 6 (some .long) ∈ nT := nT_in (i := 770) rfl (by decide +kernel)
theorem wl_L_94 : Cond.methodLink RL 94 yX7_has ∈ nT := nT_in (i := 771) (by decide +kernel) (by decide +kernel)
theorem wi_X7_has : Cond.instanceMethod yX7_has ∈ nT := nT_in (i := 772) (by decide +kernel) (by decide +kernel)
theorem ws_X7_has : Cond.selects RX7 yX7_has yX7_has ∈ nT := nT_in (i := 773) (by decide +kernel) (by decide +kernel)
set_option maxRecDepth 100000 in
theorem wc_X7_has : Cond.code yX7_has cX7_has 4 (some .int) ∈ nT := nT_in (i := 774) rfl (by decide +kernel)
theorem wl_L_98 : Cond.methodLink RL 98 yX7_draw ∈ nT := nT_in (i := 775) (by decide +kernel) (by decide +kernel)
theorem wi_X7_draw : Cond.instanceMethod yX7_draw ∈ nT := nT_in (i := 776) (by decide +kernel) (by decide +kernel)
theorem ws_X7_draw : Cond.selects RX7 yX7_draw yX7_draw ∈ nT := nT_in (i := 777) (by decide +kernel) (by decide +kernel)
set_option maxRecDepth 100000 in
theorem wc_X7_draw : Cond.code yX7_draw cX7_draw 5 (some .long) ∈ nT := nT_in (i := 778) rfl (by decide +kernel)
theorem wl_L_102 : Cond.methodLink RL 102 yX7_drawn ∈ nT := nT_in (i := 779) (by decide +kernel) (by decide +kernel)
theorem wi_X7_drawn : Cond.instanceMethod yX7_drawn ∈ nT := nT_in (i := 780) (by decide +kernel) (by decide +kernel)
theorem ws_X7_drawn : Cond.selects RX7 yX7_drawn yX7_drawn ∈ nT := nT_in (i := 781) (by decide +kernel) (by decide +kernel)
set_option maxRecDepth 100000 in
theorem wc_X7_drawn : Cond.code yX7_drawn cX7_drawn 2 (some .int) ∈ nT := nT_in (i := 782) rfl (by decide +kernel)
theorem wl_L_106 : Cond.methodLink RL 106 yX7_expect ∈ nT := nT_in (i := 783) (by decide +kernel) (by decide +kernel)
theorem wi_X7_expect : Cond.instanceMethod yX7_expect ∈ nT := nT_in (i := 784) (by decide +kernel) (by decide +kernel)
theorem ws_X7_expect : Cond.selects RX7 yX7_expect yX7_expect ∈ nT := nT_in (i := 785) (by decide +kernel) (by decide +kernel)
set_option maxRecDepth 100000 in
theorem wc_X7_expect : Cond.code yX7_expect cX7_expect 7 (some .int) ∈ nT := nT_in (i := 786) rfl (by decide +kernel)
theorem wl_L_110 : Cond.methodLink RL 110 yX7_forget ∈ nT := nT_in (i := 787) (by decide +kernel) (by decide +kernel)
theorem wi_X7_forget : Cond.instanceMethod yX7_forget ∈ nT := nT_in (i := 788) (by decide +kernel) (by decide +kernel)
theorem ws_X7_forget : Cond.selects RX7 yX7_forget yX7_forget ∈ nT := nT_in (i := 789) (by decide +kernel) (by decide +kernel)
set_option maxRecDepth 100000 in
theorem wc_X7_forget : Cond.code yX7_forget cX7_forget 2 (some .boolean) ∈ nT := nT_in (i := 790) rfl (by decide +kernel)
theorem wl_L_114 : Cond.methodLink RL 114 yX7_wanted ∈ nT := nT_in (i := 791) (by decide +kernel) (by decide +kernel)
theorem wi_X7_wanted : Cond.instanceMethod yX7_wanted ∈ nT := nT_in (i := 792) (by decide +kernel) (by decide +kernel)
theorem ws_X7_wanted : Cond.selects RX7 yX7_wanted yX7_wanted ∈ nT := nT_in (i := 793) (by decide +kernel) (by decide +kernel)
set_option maxRecDepth 100000 in
theorem wc_X7_wanted : Cond.code yX7_wanted cX7_wanted 3 (some .int) ∈ nT := nT_in (i := 794) rfl (by decide +kernel)
theorem wl_X7_152 : Cond.methodLink RX7 152 yX7_findWanted ∈ nT := nT_in (i := 795) (by decide +kernel) (by decide +kernel)
theorem wi_X7_findWanted : Cond.instanceMethod yX7_findWanted ∈ nT := nT_in (i := 797) (by decide +kernel) (by decide +kernel)
set_option maxRecDepth 100000 in
theorem wc_X7_findWanted : Cond.code yX7_findWanted cX7_findWanted 8 (some .boolean) ∈ nT := nT_in (i := 798) rfl (by decide +kernel)
theorem wl_L_118 : Cond.methodLink RL 118 yX7_about ∈ nT := nT_in (i := 799) (by decide +kernel) (by decide +kernel)
theorem wi_X7_about : Cond.instanceMethod yX7_about ∈ nT := nT_in (i := 800) (by decide +kernel) (by decide +kernel)
theorem ws_X7_about : Cond.selects RX7 yX7_about yX7_about ∈ nT := nT_in (i := 801) (by decide +kernel) (by decide +kernel)
set_option maxRecDepth 100000 in
theorem wc_X7_about : Cond.code yX7_about cX7_about 3 (some .int) ∈ nT := nT_in (i := 802) rfl (by decide +kernel)
theorem wl_L_122 : Cond.methodLink RL 122 yX7_image ∈ nT := nT_in (i := 803) (by decide +kernel) (by decide +kernel)
theorem wi_X7_image : Cond.instanceMethod yX7_image ∈ nT := nT_in (i := 804) (by decide +kernel) (by decide +kernel)
theorem ws_X7_image : Cond.selects RX7 yX7_image yX7_image ∈ nT := nT_in (i := 805) (by decide +kernel) (by decide +kernel)
set_option maxRecDepth 100000 in
theorem wc_X7_image : Cond.code yX7_image cX7_image 2 (some .boolean) ∈ nT := nT_in (i := 806) rfl (by decide +kernel)
theorem wl_X7_155 : Cond.methodLink RX7 155 yX7_copy ∈ nT := nT_in (i := 807) (by decide +kernel) (by decide +kernel)
theorem wi_X7_copy : Cond.instanceMethod yX7_copy ∈ nT := nT_in (i := 809) (by decide +kernel) (by decide +kernel)
set_option maxRecDepth 100000 in
theorem wc_X7_copy : Cond.code yX7_copy cX7_copy 4 (none : Option Jvm.ClassFile.FieldType) ∈ nT := nT_in (i := 810) rfl (by decide +kernel)
theorem wl_X7_94 : Cond.methodLink RX7 94 yX7_move ∈ nT := nT_in (i := 811) (by decide +kernel) (by decide +kernel)
theorem wt_X7_move : Cond.static yX7_move ∈ nT := nT_in (i := 812) (by decide +kernel) (by decide +kernel)
set_option maxRecDepth 100000 in
theorem wc_X7_move : Cond.code yX7_move cX7_move 5 (none : Option Jvm.ClassFile.FieldType) ∈ nT := nT_in (i := 813) rfl (by decide +kernel)
theorem wl_L_126 : Cond.methodLink RL 126 yX7_again ∈ nT := nT_in (i := 814) (by decide +kernel) (by decide +kernel)
theorem wi_X7_again : Cond.instanceMethod yX7_again ∈ nT := nT_in (i := 815) (by decide +kernel) (by decide +kernel)
theorem ws_X7_again : Cond.selects RX7 yX7_again yX7_again ∈ nT := nT_in (i := 816) (by decide +kernel) (by decide +kernel)
set_option maxRecDepth 100000 in
theorem wc_X7_again : Cond.code yX7_again cX7_again 2 (some .boolean) ∈ nT := nT_in (i := 817) rfl (by decide +kernel)
theorem ul_X0 : ∀ w ∈ [Cond.laysFinal "NewCoins$ChangeMaker" "NewCoins$ChangeMaker" "row" "[I", Cond.laysFinal "NewCoins$ChangeMaker" "NewCoins$ChangeMaker" "least" "[[I", Cond.laysFinal "NewCoins$ChangeMaker" "NewCoins$ChangeMaker" "places" "[I", Cond.laysFinal "NewCoins$ChangeMaker" "NewCoins$ChangeMaker" "costs" "[I"], w ∈ nT := List.forall_mem_cons.mpr ⟨wy_X0_row, List.forall_mem_cons.mpr ⟨wy_X0_least, List.forall_mem_cons.mpr ⟨wy_X0_places, List.forall_mem_cons.mpr ⟨wy_X0_costs, fun _ h => absurd h List.not_mem_nil⟩⟩⟩⟩
theorem ue_X0 : wsX00 = [Cond.laysFinal "NewCoins$ChangeMaker" "NewCoins$ChangeMaker" "row" "[I", Cond.laysFinal "NewCoins$ChangeMaker" "NewCoins$ChangeMaker" "least" "[[I", Cond.laysFinal "NewCoins$ChangeMaker" "NewCoins$ChangeMaker" "places" "[I", Cond.laysFinal "NewCoins$ChangeMaker" "NewCoins$ChangeMaker" "costs" "[I"] := by decide +kernel
theorem u_X0 {cx : Cond} : ∀ w ∈ wsX00, w ∈ cx :: nT := fun w h => List.mem_cons_of_mem _ (ul_X0 w (by rw [← ue_X0]; exact h))
theorem ul_X1 : ∀ w ∈ [Cond.lays "NewCoins$Coinage" "NewCoins$Coinage" "count" "I", Cond.laysFinal "NewCoins$Coinage" "NewCoins$Coinage" "values" "[I", Cond.laysFinal "NewCoins$Coinage" "NewCoins$Coinage" "falling" "[I", Cond.laysFinal "NewCoins$Coinage" "NewCoins$Coinage" "least" "[I"], w ∈ nT := List.forall_mem_cons.mpr ⟨wy_X1_count, List.forall_mem_cons.mpr ⟨wy_X1_values, List.forall_mem_cons.mpr ⟨wy_X1_falling, List.forall_mem_cons.mpr ⟨wy_X1_least, fun _ h => absurd h List.not_mem_nil⟩⟩⟩⟩
theorem ue_X1 : wsX10 = [Cond.lays "NewCoins$Coinage" "NewCoins$Coinage" "count" "I", Cond.laysFinal "NewCoins$Coinage" "NewCoins$Coinage" "values" "[I", Cond.laysFinal "NewCoins$Coinage" "NewCoins$Coinage" "falling" "[I", Cond.laysFinal "NewCoins$Coinage" "NewCoins$Coinage" "least" "[I"] := by decide +kernel
theorem u_X1 {cx : Cond} : ∀ w ∈ wsX10, w ∈ cx :: nT := fun w h => List.mem_cons_of_mem _ (ul_X1 w (by rw [← ue_X1]; exact h))
theorem ul_X2 : ∀ w ∈ [Cond.lays "NewCoins$Expected" "NewCoins$Expected" "count" "I", Cond.laysFinal "NewCoins$Expected" "NewCoins$Expected" "prices" "[I", Cond.laysFinal "NewCoins$Expected" "NewCoins$Expected" "systems" "[I", Cond.laysFinal "NewCoins$Expected" "NewCoins$Expected" "coins" "[I", Cond.laysFinal "NewCoins$Expected" "NewCoins$Expected" "numbers" "[I"], w ∈ nT := List.forall_mem_cons.mpr ⟨wy_X2_count, List.forall_mem_cons.mpr ⟨wy_X2_prices, List.forall_mem_cons.mpr ⟨wy_X2_systems, List.forall_mem_cons.mpr ⟨wy_X2_coins, List.forall_mem_cons.mpr ⟨wy_X2_numbers, fun _ h => absurd h List.not_mem_nil⟩⟩⟩⟩⟩
theorem ue_X2 : wsX20 = [Cond.lays "NewCoins$Expected" "NewCoins$Expected" "count" "I", Cond.laysFinal "NewCoins$Expected" "NewCoins$Expected" "prices" "[I", Cond.laysFinal "NewCoins$Expected" "NewCoins$Expected" "systems" "[I", Cond.laysFinal "NewCoins$Expected" "NewCoins$Expected" "coins" "[I", Cond.laysFinal "NewCoins$Expected" "NewCoins$Expected" "numbers" "[I"] := by decide +kernel
theorem u_X2 {cx : Cond} : ∀ w ∈ wsX20, w ∈ cx :: nT := fun w h => List.mem_cons_of_mem _ (ul_X2 w (by rw [← ue_X2]; exact h))
theorem ul_X3 : ∀ w ∈ [Cond.lays "NewCoins$Goods" "NewCoins$Goods" "count" "I", Cond.laysFinal "NewCoins$Goods" "NewCoins$Goods" "prices" "[I", Cond.laysFinal "NewCoins$Goods" "NewCoins$Goods" "times" "[I"], w ∈ nT := List.forall_mem_cons.mpr ⟨wy_X3_count, List.forall_mem_cons.mpr ⟨wy_X3_prices, List.forall_mem_cons.mpr ⟨wy_X3_times, fun _ h => absurd h List.not_mem_nil⟩⟩⟩
theorem ue_X3 : wsX30 = [Cond.lays "NewCoins$Goods" "NewCoins$Goods" "count" "I", Cond.laysFinal "NewCoins$Goods" "NewCoins$Goods" "prices" "[I", Cond.laysFinal "NewCoins$Goods" "NewCoins$Goods" "times" "[I"] := by decide +kernel
theorem u_X3 {cx : Cond} : ∀ w ∈ wsX30, w ∈ cx :: nT := fun w h => List.mem_cons_of_mem _ (ul_X3 w (by rw [← ue_X3]; exact h))
theorem ul_X4 : ∀ w ∈ [Cond.laysFinal "NewCoins$Land" "NewCoins$Land" "old" "LNewCoins$Coinage;", Cond.laysFinal "NewCoins$Land" "NewCoins$Land" "fresh" "LNewCoins$Coinage;", Cond.laysFinal "NewCoins$Land" "NewCoins$Land" "goods" "LNewCoins$Goods;", Cond.laysFinal "NewCoins$Land" "NewCoins$Land" "tills" "[LNewCoins$Till;", Cond.laysFinal "NewCoins$Land" "NewCoins$Land" "drawnIn" "[I", Cond.lays "NewCoins$Land" "NewCoins$Land" "tillCount" "I", Cond.lays "NewCoins$Land" "NewCoins$Land" "a" "I", Cond.lays "NewCoins$Land" "NewCoins$Land" "b" "I", Cond.lays "NewCoins$Land" "NewCoins$Land" "step" "I"], w ∈ nT := List.forall_mem_cons.mpr ⟨wy_X4_old, List.forall_mem_cons.mpr ⟨wy_X4_fresh, List.forall_mem_cons.mpr ⟨wy_X4_goods, List.forall_mem_cons.mpr ⟨wy_X4_tills, List.forall_mem_cons.mpr ⟨wy_X4_drawnIn, List.forall_mem_cons.mpr ⟨wy_X4_tillCount, List.forall_mem_cons.mpr ⟨wy_X4_a, List.forall_mem_cons.mpr ⟨wy_X4_b, List.forall_mem_cons.mpr ⟨wy_X4_step, fun _ h => absurd h List.not_mem_nil⟩⟩⟩⟩⟩⟩⟩⟩⟩
theorem ue_X4 : wsX40 = [Cond.laysFinal "NewCoins$Land" "NewCoins$Land" "old" "LNewCoins$Coinage;", Cond.laysFinal "NewCoins$Land" "NewCoins$Land" "fresh" "LNewCoins$Coinage;", Cond.laysFinal "NewCoins$Land" "NewCoins$Land" "goods" "LNewCoins$Goods;", Cond.laysFinal "NewCoins$Land" "NewCoins$Land" "tills" "[LNewCoins$Till;", Cond.laysFinal "NewCoins$Land" "NewCoins$Land" "drawnIn" "[I", Cond.lays "NewCoins$Land" "NewCoins$Land" "tillCount" "I", Cond.lays "NewCoins$Land" "NewCoins$Land" "a" "I", Cond.lays "NewCoins$Land" "NewCoins$Land" "b" "I", Cond.lays "NewCoins$Land" "NewCoins$Land" "step" "I"] := by decide +kernel
theorem u_X4 {cx : Cond} : ∀ w ∈ wsX40, w ∈ cx :: nT := fun w h => List.mem_cons_of_mem _ (ul_X4 w (by rw [← ue_X4]; exact h))
theorem ul_X5 : ∀ w ∈ [Cond.laysFinal "NewCoins$Till" "NewCoins$Till" "old" "[I", Cond.laysFinal "NewCoins$Till" "NewCoins$Till" "fresh" "[I", Cond.laysFinal "NewCoins$Till" "NewCoins$Till" "latest" "[I", Cond.laysFinal "NewCoins$Till" "NewCoins$Till" "expected" "LNewCoins$Expected;", Cond.lays "NewCoins$Till" "NewCoins$Till" "sales" "I", Cond.lays "NewCoins$Till" "NewCoins$Till" "scraps" "J", Cond.lays "NewCoins$Till" "NewCoins$Till" "takings" "J"], w ∈ nT := List.forall_mem_cons.mpr ⟨wy_X5_old, List.forall_mem_cons.mpr ⟨wy_X5_fresh, List.forall_mem_cons.mpr ⟨wy_X5_latest, List.forall_mem_cons.mpr ⟨wy_X5_expected, List.forall_mem_cons.mpr ⟨wy_X5_sales, List.forall_mem_cons.mpr ⟨wy_X5_scraps, List.forall_mem_cons.mpr ⟨wy_X5_takings, fun _ h => absurd h List.not_mem_nil⟩⟩⟩⟩⟩⟩⟩
theorem ue_X5 : wsX50 = [Cond.laysFinal "NewCoins$Till" "NewCoins$Till" "old" "[I", Cond.laysFinal "NewCoins$Till" "NewCoins$Till" "fresh" "[I", Cond.laysFinal "NewCoins$Till" "NewCoins$Till" "latest" "[I", Cond.laysFinal "NewCoins$Till" "NewCoins$Till" "expected" "LNewCoins$Expected;", Cond.lays "NewCoins$Till" "NewCoins$Till" "sales" "I", Cond.lays "NewCoins$Till" "NewCoins$Till" "scraps" "J", Cond.lays "NewCoins$Till" "NewCoins$Till" "takings" "J"] := by decide +kernel
theorem u_X5 {cx : Cond} : ∀ w ∈ wsX50, w ∈ cx :: nT := fun w h => List.mem_cons_of_mem _ (ul_X5 w (by rw [← ue_X5]; exact h))
theorem ul_X6 : ∀ w ∈ [Cond.laysFinal "NewCoins" "NewCoins" "now" "LNewCoins$Land;", Cond.laysFinal "NewCoins" "NewCoins" "images" "[LNewCoins$Land;", Cond.laysFinal "NewCoins" "NewCoins" "taken" "[Z", Cond.laysFinal "NewCoins" "NewCoins" "maker" "LNewCoins$ChangeMaker;", Cond.laysFinal "NewCoins" "NewCoins" "fewestRow" "[I", Cond.laysFinal "NewCoins" "NewCoins" "turns" "[J"], w ∈ nT := List.forall_mem_cons.mpr ⟨wy_X6_now, List.forall_mem_cons.mpr ⟨wy_X6_images, List.forall_mem_cons.mpr ⟨wy_X6_taken, List.forall_mem_cons.mpr ⟨wy_X6_maker, List.forall_mem_cons.mpr ⟨wy_X6_fewestRow, List.forall_mem_cons.mpr ⟨wy_X6_turns, fun _ h => absurd h List.not_mem_nil⟩⟩⟩⟩⟩⟩
theorem ue_X6 : wsX60 = [Cond.laysFinal "NewCoins" "NewCoins" "now" "LNewCoins$Land;", Cond.laysFinal "NewCoins" "NewCoins" "images" "[LNewCoins$Land;", Cond.laysFinal "NewCoins" "NewCoins" "taken" "[Z", Cond.laysFinal "NewCoins" "NewCoins" "maker" "LNewCoins$ChangeMaker;", Cond.laysFinal "NewCoins" "NewCoins" "fewestRow" "[I", Cond.laysFinal "NewCoins" "NewCoins" "turns" "[J"] := by decide +kernel
theorem u_X6 {cx : Cond} : ∀ w ∈ wsX60, w ∈ cx :: nT := fun w h => List.mem_cons_of_mem _ (ul_X6 w (by rw [← ue_X6]; exact h))
theorem ul_X7 : ∀ w ∈ [Cond.lays "NewCoinsModel" "NewCoinsModel" "code" "I", Cond.laysFinal "NewCoinsModel" "NewCoinsModel" "coins" "[I", Cond.laysFinal "NewCoinsModel" "NewCoinsModel" "value" "[I", Cond.laysFinal "NewCoinsModel" "NewCoinsModel" "rates" "[I", Cond.laysFinal "NewCoinsModel" "NewCoinsModel" "sales" "[I", Cond.laysFinal "NewCoinsModel" "NewCoinsModel" "goods" "[I", Cond.laysFinal "NewCoinsModel" "NewCoinsModel" "prices" "[I", Cond.laysFinal "NewCoinsModel" "NewCoinsModel" "times" "[I", Cond.laysFinal "NewCoinsModel" "NewCoinsModel" "steps" "[I", Cond.laysFinal "NewCoinsModel" "NewCoinsModel" "tills" "[I", Cond.laysFinal "NewCoinsModel" "NewCoinsModel" "tillSales" "[I", Cond.laysFinal "NewCoinsModel" "NewCoinsModel" "scraps" "[J", Cond.laysFinal "NewCoinsModel" "NewCoinsModel" "paid" "[J", Cond.laysFinal "NewCoinsModel" "NewCoinsModel" "expected" "[I", Cond.laysFinal "NewCoinsModel" "NewCoinsModel" "has" "[I", Cond.laysFinal "NewCoinsModel" "NewCoinsModel" "gave" "[I", Cond.laysFinal "NewCoinsModel" "NewCoinsModel" "drawnIn" "[I", Cond.laysFinal "NewCoinsModel" "NewCoinsModel" "expects" "[I", Cond.laysFinal "NewCoinsModel" "NewCoinsModel" "one" "[J", Cond.laysFinal "NewCoinsModel" "NewCoinsModel" "by" "[I", Cond.laysFinal "NewCoinsModel" "NewCoinsModel" "few" "[I", Cond.laysFinal "NewCoinsModel" "NewCoinsModel" "take" "[I", Cond.laysFinal "NewCoinsModel" "NewCoinsModel" "bound" "[I", Cond.laysFinal "NewCoinsModel" "NewCoinsModel" "least" "[I", Cond.laysFinal "NewCoinsModel" "NewCoinsModel" "pool" "[I", Cond.laysFinal "NewCoinsModel" "NewCoinsModel" "want" "[I", Cond.laysFinal "NewCoinsModel" "NewCoinsModel" "kept" "[Z"], w ∈ nT := List.forall_mem_cons.mpr ⟨wy_X7_code, List.forall_mem_cons.mpr ⟨wy_X7_coins, List.forall_mem_cons.mpr ⟨wy_X7_value, List.forall_mem_cons.mpr ⟨wy_X7_rates, List.forall_mem_cons.mpr ⟨wy_X7_sales, List.forall_mem_cons.mpr ⟨wy_X7_goods, List.forall_mem_cons.mpr ⟨wy_X7_prices, List.forall_mem_cons.mpr ⟨wy_X7_times, List.forall_mem_cons.mpr ⟨wy_X7_steps, List.forall_mem_cons.mpr ⟨wy_X7_tills, List.forall_mem_cons.mpr ⟨wy_X7_tillSales, List.forall_mem_cons.mpr ⟨wy_X7_scraps, List.forall_mem_cons.mpr ⟨wy_X7_paid, List.forall_mem_cons.mpr ⟨wy_X7_expected, List.forall_mem_cons.mpr ⟨wy_X7_has, List.forall_mem_cons.mpr ⟨wy_X7_gave, List.forall_mem_cons.mpr ⟨wy_X7_drawnIn, List.forall_mem_cons.mpr ⟨wy_X7_expects, List.forall_mem_cons.mpr ⟨wy_X7_one, List.forall_mem_cons.mpr ⟨wy_X7_by, List.forall_mem_cons.mpr ⟨wy_X7_few, List.forall_mem_cons.mpr ⟨wy_X7_take, List.forall_mem_cons.mpr ⟨wy_X7_bound, List.forall_mem_cons.mpr ⟨wy_X7_least, List.forall_mem_cons.mpr ⟨wy_X7_pool, List.forall_mem_cons.mpr ⟨wy_X7_want, List.forall_mem_cons.mpr ⟨wy_X7_kept, fun _ h => absurd h List.not_mem_nil⟩⟩⟩⟩⟩⟩⟩⟩⟩⟩⟩⟩⟩⟩⟩⟩⟩⟩⟩⟩⟩⟩⟩⟩⟩⟩⟩
theorem ue_X7 : wsX70 = [Cond.lays "NewCoinsModel" "NewCoinsModel" "code" "I", Cond.laysFinal "NewCoinsModel" "NewCoinsModel" "coins" "[I", Cond.laysFinal "NewCoinsModel" "NewCoinsModel" "value" "[I", Cond.laysFinal "NewCoinsModel" "NewCoinsModel" "rates" "[I", Cond.laysFinal "NewCoinsModel" "NewCoinsModel" "sales" "[I", Cond.laysFinal "NewCoinsModel" "NewCoinsModel" "goods" "[I", Cond.laysFinal "NewCoinsModel" "NewCoinsModel" "prices" "[I", Cond.laysFinal "NewCoinsModel" "NewCoinsModel" "times" "[I", Cond.laysFinal "NewCoinsModel" "NewCoinsModel" "steps" "[I", Cond.laysFinal "NewCoinsModel" "NewCoinsModel" "tills" "[I", Cond.laysFinal "NewCoinsModel" "NewCoinsModel" "tillSales" "[I", Cond.laysFinal "NewCoinsModel" "NewCoinsModel" "scraps" "[J", Cond.laysFinal "NewCoinsModel" "NewCoinsModel" "paid" "[J", Cond.laysFinal "NewCoinsModel" "NewCoinsModel" "expected" "[I", Cond.laysFinal "NewCoinsModel" "NewCoinsModel" "has" "[I", Cond.laysFinal "NewCoinsModel" "NewCoinsModel" "gave" "[I", Cond.laysFinal "NewCoinsModel" "NewCoinsModel" "drawnIn" "[I", Cond.laysFinal "NewCoinsModel" "NewCoinsModel" "expects" "[I", Cond.laysFinal "NewCoinsModel" "NewCoinsModel" "one" "[J", Cond.laysFinal "NewCoinsModel" "NewCoinsModel" "by" "[I", Cond.laysFinal "NewCoinsModel" "NewCoinsModel" "few" "[I", Cond.laysFinal "NewCoinsModel" "NewCoinsModel" "take" "[I", Cond.laysFinal "NewCoinsModel" "NewCoinsModel" "bound" "[I", Cond.laysFinal "NewCoinsModel" "NewCoinsModel" "least" "[I", Cond.laysFinal "NewCoinsModel" "NewCoinsModel" "pool" "[I", Cond.laysFinal "NewCoinsModel" "NewCoinsModel" "want" "[I", Cond.laysFinal "NewCoinsModel" "NewCoinsModel" "kept" "[Z"] := by decide +kernel
theorem u_X7 {cx : Cond} : ∀ w ∈ wsX70, w ∈ cx :: nT := fun w h => List.mem_cons_of_mem _ (ul_X7 w (by rw [← ue_X7]; exact h))
def wsX6_init : List Cond := Cond.code yX6_init cX6_init 2 (none : Option Jvm.ClassFile.FieldType) :: nT
def wsX4_init : List Cond := Cond.code yX4_init cX4_init 2 (none : Option Jvm.ClassFile.FieldType) :: nT
def wsX1_init : List Cond := Cond.code yX1_init cX1_init 1 (none : Option Jvm.ClassFile.FieldType) :: nT
def wsJ7_fill_53178 : List Cond := Cond.code yJ7_fill_53178 cJ7_fill_53178 4 (none : Option Jvm.ClassFile.FieldType) :: nT
def wsX3_init : List Cond := Cond.code yX3_init cX3_init 1 (none : Option Jvm.ClassFile.FieldType) :: nT
def wsX5_init : List Cond := Cond.code yX5_init cX5_init 1 (none : Option Jvm.ClassFile.FieldType) :: nT
def wsX2_init : List Cond := Cond.code yX2_init cX2_init 1 (none : Option Jvm.ClassFile.FieldType) :: nT
def wsX0_init : List Cond := Cond.code yX0_init cX0_init 1 (none : Option Jvm.ClassFile.FieldType) :: nT
def wsX6_coin : List Cond := Cond.code yX6_coin cX6_coin 4 (some .int) :: nT
def wsX4_coinageOf : List Cond := Cond.code yX4_coinageOf cX4_coinageOf 2 (some (.object "NewCoins$Coinage")) :: nT
def wsX1_add : List Cond := Cond.code yX1_add cX1_add 2 (some .int) :: nT
def wsX6_within : List Cond := Cond.code yX6_within cX6_within 3 (some .boolean) :: nT
def wsX1_isValue : List Cond := Cond.code yX1_isValue cX1_isValue 3 (some .boolean) :: nT
def wsX1_rank : List Cond := Cond.code yX1_rank cX1_rank 3 (none : Option Jvm.ClassFile.FieldType) :: nT
def wsX1_improve : List Cond := Cond.code yX1_improve cX1_improve 4 (none : Option Jvm.ClassFile.FieldType) :: nT
def wsX6_rate : List Cond := Cond.code yX6_rate cX6_rate 3 (some .boolean) :: nT
def wsX4_hasSold : List Cond := Cond.code yX4_hasSold cX4_hasSold 2 (some .boolean) :: nT
def wsX6_good : List Cond := Cond.code yX6_good cX6_good 3 (some .int) :: nT
def wsX3_add : List Cond := Cond.code yX3_add cX3_add 3 (some .int) :: nT
def wsX6_sold : List Cond := Cond.code yX6_sold cX6_sold 3 (some .boolean) :: nT
def wsX3_isGood : List Cond := Cond.code yX3_isGood cX3_isGood 2 (some .boolean) :: nT
def wsX6_step : List Cond := Cond.code yX6_step cX6_step 2 (some .boolean) :: nT
def wsX6_price : List Cond := Cond.code yX6_price cX6_price 3 (some .int) :: nT
def wsX6_isRule : List Cond := Cond.code yX6_isRule cX6_isRule 1 (some .boolean) :: nT
def wsX4_newPrice : List Cond := Cond.code yX4_newPrice cX4_newPrice 7 (some .int) :: nT
def wsX6_wholeTimes : List Cond := Cond.code yX6_wholeTimes cX6_wholeTimes 2 (some .int) :: nT
def wsX4_roundsUp : List Cond := Cond.code yX4_roundsUp cX4_roundsUp 4 (some .boolean) :: nT
def wsX6_gain : List Cond := Cond.code yX6_gain cX6_gain 5 (some .long) :: nT
def wsX4_gainOf : List Cond := Cond.code yX4_gainOf cX4_gainOf 5 (some .long) :: nT
def wsX6_fairest : List Cond := Cond.code yX6_fairest cX6_fairest 9 (some .int) :: nT
def wsX6_startOfWays : List Cond := Cond.code yX6_startOfWays cX6_startOfWays 10 (some .long) :: nT
def wsJ9_abs_067f4 : List Cond := Cond.code yJ9_abs_067f4 cJ9_abs_067f4 2 (some .long) :: nT
def wsJ6_bitCount_0f7a4 : List Cond := Cond.code yJ6_bitCount_0f7a4 cJ6_bitCount_0f7a4 1 (some .int) :: nT
def wsX6_gains : List Cond := Cond.code yX6_gains cX6_gains 6 (some .long) :: nT
def wsX6_fewest : List Cond := Cond.code yX6_fewest cX6_fewest 5 (some .int) :: nT
def wsX1_hasFewest : List Cond := Cond.code yX1_hasFewest cX1_hasFewest 2 (some .boolean) :: nT
def wsX6_isSum : List Cond := Cond.code yX6_isSum cX6_isSum 1 (some .boolean) :: nT
def wsX1_isCoin : List Cond := Cond.code yX1_isCoin cX1_isCoin 2 (some .boolean) :: nT
def wsX1_writeFewest : List Cond := Cond.code yX1_writeFewest cX1_writeFewest 8 (none : Option Jvm.ClassFile.FieldType) :: nT
def wsX6_greedy : List Cond := Cond.code yX6_greedy cX6_greedy 4 (some .int) :: nT
def wsX1_countGreedily : List Cond := Cond.code yX1_countGreedily cX1_countGreedily 7 (some .int) :: nT
def wsX6_odd : List Cond := Cond.code yX6_odd cX6_odd 3 (some .int) :: nT
def wsX1_leastOdd : List Cond := Cond.code yX1_leastOdd cX1_leastOdd 2 (some .int) :: nT
def wsX6_till : List Cond := Cond.code yX6_till cX6_till 1 (some .int) :: nT
def wsX6_put : List Cond := Cond.code yX6_put cX6_put 9 (some .int) :: nT
def wsX4_tillAt : List Cond := Cond.code yX4_tillAt cX4_tillAt 2 (some (.object "NewCoins$Till")) :: nT
def wsX4_isCoin : List Cond := Cond.code yX4_isCoin cX4_isCoin 4 (some .boolean) :: nT
def wsX5_countsOf : List Cond := Cond.code yX5_countsOf cX5_countsOf 2 (some (.array .int)) :: nT
def wsX6_sale : List Cond := Cond.code yX6_sale cX6_sale 10 (some .int) :: nT
def wsX4_isSale : List Cond := Cond.code yX4_isSale cX4_isSale 5 (some .boolean) :: nT
def wsX4_spareParts : List Cond := Cond.code yX4_spareParts cX4_spareParts 6 (some .int) :: nT
def wsX4_unitParts : List Cond := Cond.code yX4_unitParts cX4_unitParts 2 (some .int) :: nT
def wsX0_make : List Cond := Cond.code yX0_make cX0_make 7 (some .boolean) :: nT
def wsX0_allow : List Cond := Cond.code yX0_allow cX0_allow 6 (none : Option Jvm.ClassFile.FieldType) :: nT
def wsX0_slide : List Cond := Cond.code yX0_slide cX0_slide 13 (none : Option Jvm.ClassFile.FieldType) :: nT
def wsX0_writeRow : List Cond := Cond.code yX0_writeRow cX0_writeRow 9 (none : Option Jvm.ClassFile.FieldType) :: nT
def wsJ9_min_7cf53 : List Cond := Cond.code yJ9_min_7cf53 cJ9_min_7cf53 2 (some .int) :: nT
def wsX0_leadsOn : List Cond := Cond.code yX0_leadsOn cX0_leadsOn 5 (some .boolean) :: nT
def wsX5_close : List Cond := Cond.code yX5_close cX5_close 5 (none : Option Jvm.ClassFile.FieldType) :: nT
def wsX6_given : List Cond := Cond.code yX6_given cX6_given 4 (some .int) :: nT
def wsX6_tell : List Cond := Cond.code yX6_tell cX6_tell 4 (some .long) :: nT
def wsX4_partsOf : List Cond := Cond.code yX4_partsOf cX4_partsOf 7 (some .long) :: nT
def wsX6_has : List Cond := Cond.code yX6_has cX6_has 5 (some .int) :: nT
def wsX6_draw : List Cond := Cond.code yX6_draw cX6_draw 6 (some .long) :: nT
def wsX6_drawn : List Cond := Cond.code yX6_drawn cX6_drawn 2 (some .int) :: nT
def wsX6_expect : List Cond := Cond.code yX6_expect cX6_expect 7 (some .int) :: nT
def wsX2_add : List Cond := Cond.code yX2_add cX2_add 5 (some .int) :: nT
def wsX6_forget : List Cond := Cond.code yX6_forget cX6_forget 3 (some .boolean) :: nT
def wsX6_wanted : List Cond := Cond.code yX6_wanted cX6_wanted 4 (some .int) :: nT
def wsX6_mostLacking : List Cond := Cond.code yX6_mostLacking cX6_mostLacking 9 (some .int) :: nT
def wsJ9_max_7cf53 : List Cond := Cond.code yJ9_max_7cf53 cJ9_max_7cf53 2 (some .int) :: nT
def wsX6_about : List Cond := Cond.code yX6_about cX6_about 4 (some .int) :: nT
def wsX4_detail : List Cond := Cond.code yX4_detail cX4_detail 2 (some .int) :: nT
def wsX4_goodDetail : List Cond := Cond.code yX4_goodDetail cX4_goodDetail 2 (some .int) :: nT
def wsX1_detail : List Cond := Cond.code yX1_detail cX1_detail 2 (some .int) :: nT
def wsX6_image : List Cond := Cond.code yX6_image cX6_image 2 (some .boolean) :: nT
def wsX4_copyFrom : List Cond := Cond.code yX4_copyFrom cX4_copyFrom 3 (none : Option Jvm.ClassFile.FieldType) :: nT
def wsX1_copyFrom : List Cond := Cond.code yX1_copyFrom cX1_copyFrom 2 (none : Option Jvm.ClassFile.FieldType) :: nT
def wsX3_copyFrom : List Cond := Cond.code yX3_copyFrom cX3_copyFrom 2 (none : Option Jvm.ClassFile.FieldType) :: nT
def wsX5_copyFrom : List Cond := Cond.code yX5_copyFrom cX5_copyFrom 2 (none : Option Jvm.ClassFile.FieldType) :: nT
def wsX2_copyFrom : List Cond := Cond.code yX2_copyFrom cX2_copyFrom 2 (none : Option Jvm.ClassFile.FieldType) :: nT
def wsX6_again : List Cond := Cond.code yX6_again cX6_again 2 (some .boolean) :: nT
def wsX7_init : List Cond := Cond.code yX7_init cX7_init 1 (none : Option Jvm.ClassFile.FieldType) :: nT
def wsX7_coin : List Cond := Cond.code yX7_coin cX7_coin 4 (some .int) :: nT
def wsX7_in : List Cond := Cond.code yX7_in cX7_in 3 (some .boolean) :: nT
def wsX7_rate : List Cond := Cond.code yX7_rate cX7_rate 3 (some .boolean) :: nT
def wsX7_good : List Cond := Cond.code yX7_good cX7_good 3 (some .int) :: nT
def wsX7_sold : List Cond := Cond.code yX7_sold cX7_sold 3 (some .boolean) :: nT
def wsX7_isGood : List Cond := Cond.code yX7_isGood cX7_isGood 2 (some .boolean) :: nT
def wsX7_step : List Cond := Cond.code yX7_step cX7_step 2 (some .boolean) :: nT
def wsX7_price : List Cond := Cond.code yX7_price cX7_price 3 (some .int) :: nT
def wsX7_priceOf : List Cond := Cond.code yX7_priceOf cX7_priceOf 9 (some .int) :: nT
def wsX7_gain : List Cond := Cond.code yX7_gain cX7_gain 5 (some .long) :: nT
def wsX7_gainOf : List Cond := Cond.code yX7_gainOf cX7_gainOf 3 (some .long) :: nT
def wsX7_fairest : List Cond := Cond.code yX7_fairest cX7_fairest 8 (some .int) :: nT
def wsX7_gains : List Cond := Cond.code yX7_gains cX7_gains 5 (some .long) :: nT
def wsX7_fewest : List Cond := Cond.code yX7_fewest cX7_fewest 5 (some .int) :: nT
def wsX7_isCoin : List Cond := Cond.code yX7_isCoin cX7_isCoin 3 (some .boolean) :: nT
def wsX7_noBounds : List Cond := Cond.code yX7_noBounds cX7_noBounds 2 (none : Option Jvm.ClassFile.FieldType) :: nT
def wsX7_find : List Cond := Cond.code yX7_find cX7_find 11 (some .int) :: nT
def wsX7_sortCoins : List Cond := Cond.code yX7_sortCoins cX7_sortCoins 4 (none : Option Jvm.ClassFile.FieldType) :: nT
def wsX7_greedy : List Cond := Cond.code yX7_greedy cX7_greedy 3 (some .int) :: nT
def wsX7_greedyOf : List Cond := Cond.code yX7_greedyOf cX7_greedyOf 7 (some .int) :: nT
def wsX7_odd : List Cond := Cond.code yX7_odd cX7_odd 5 (some .int) :: nT
def wsX7_till : List Cond := Cond.code yX7_till cX7_till 3 (some .int) :: nT
def wsX7_cell : List Cond := Cond.code yX7_cell cX7_cell 3 (some .int) :: nT
def wsX7_put : List Cond := Cond.code yX7_put cX7_put 6 (some .int) :: nT
def wsX7_isTill : List Cond := Cond.code yX7_isTill cX7_isTill 2 (some .boolean) :: nT
def wsX7_sale : List Cond := Cond.code yX7_sale cX7_sale 11 (some .int) :: nT
def wsX7_isSale : List Cond := Cond.code yX7_isSale cX7_isSale 6 (some .boolean) :: nT
def wsX7_over : List Cond := Cond.code yX7_over cX7_over 5 (some .int) :: nT
def wsX7_given : List Cond := Cond.code yX7_given cX7_given 3 (some .int) :: nT
def wsX7_tell : List Cond := Cond.code yX7_tell cX7_tell 3 (some .long) :: nT
def wsX7_parts : List Cond := Cond.code yX7_parts cX7_parts 6 (some .long) :: nT
def wsX7_has : List Cond := Cond.code yX7_has cX7_has 4 (some .int) :: nT
def wsX7_draw : List Cond := Cond.code yX7_draw cX7_draw 5 (some .long) :: nT
def wsX7_drawn : List Cond := Cond.code yX7_drawn cX7_drawn 2 (some .int) :: nT
def wsX7_expect : List Cond := Cond.code yX7_expect cX7_expect 7 (some .int) :: nT
def wsX7_forget : List Cond := Cond.code yX7_forget cX7_forget 2 (some .boolean) :: nT
def wsX7_wanted : List Cond := Cond.code yX7_wanted cX7_wanted 3 (some .int) :: nT
def wsX7_findWanted : List Cond := Cond.code yX7_findWanted cX7_findWanted 8 (some .boolean) :: nT
def wsX7_about : List Cond := Cond.code yX7_about cX7_about 3 (some .int) :: nT
def wsX7_image : List Cond := Cond.code yX7_image cX7_image 2 (some .boolean) :: nT
def wsX7_copy : List Cond := Cond.code yX7_copy cX7_copy 4 (none : Option Jvm.ClassFile.FieldType) :: nT
def wsX7_move : List Cond := Cond.code yX7_move cX7_move 5 (none : Option Jvm.ClassFile.FieldType) :: nT
def wsX7_again : List Cond := Cond.code yX7_again cX7_again 2 (some .boolean) :: nT
theorem nT_V {cx cy : Cond} {own C : String} {idx : Nat} {y : MethodName} (h1 : Cond.methodLink own idx y ∈ nT) (h2 : Cond.instanceMethod y ∈ nT) (h3 : Cond.selects C y y ∈ nT) (h4 : Cond.initialized C ∈ nT) (h5 : cy ∈ nT) : GoodIn (cx :: nT) (wsV own idx C y (cy :: nT)) := by
  intro w hw
  have h : w ∈ nT := by
    rcases List.mem_append.mp hw with h | h
    · simp only [List.mem_cons, List.not_mem_nil, or_false] at h
      rcases h with rfl | rfl | rfl | rfl
      · exact h1
      · exact h2
      · exact h3
      · exact h4
    · rcases List.mem_cons.mp h with rfl | h
      · exact h5
      · exact h
  exact ⟨List.mem_cons_of_mem _ h, good_of_word (nT_g h)⟩
theorem nT_S {cx cy : Cond} {own : String} {idx : Nat} {y : MethodName} (h1 : Cond.methodLink own idx y ∈ nT) (h2 : Cond.static y ∈ nT) (h4 : Cond.initialized y.cls ∈ nT) (h5 : cy ∈ nT) : GoodIn (cx :: nT) (va_wsS own idx y (cy :: nT)) := by
  intro w hw
  have h : w ∈ nT := by
    rcases List.mem_append.mp hw with h | h
    · simp only [List.mem_cons, List.not_mem_nil, or_false] at h
      rcases h with rfl | rfl | rfl
      · exact h1
      · exact h2
      · exact h4
    · rcases List.mem_cons.mp h with rfl | h
      · exact h5
      · exact h
  exact ⟨List.mem_cons_of_mem _ h, good_of_word (nT_g h)⟩
theorem nT_N {cx cy : Cond} (h5 : cy ∈ nT) : GoodIn (cx :: nT) (cy :: nT) := by
  intro w hw
  have h : w ∈ nT := by
    rcases List.mem_cons.mp hw with rfl | h
    · exact h5
    · exact h
  exact ⟨List.mem_cons_of_mem _ h, good_of_word (nT_g h)⟩
theorem nT_m {cx w : Cond} (h : w ∈ nT) : w ∈ cx :: nT := List.mem_cons_of_mem _ h
