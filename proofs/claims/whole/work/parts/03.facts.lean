def lw_g : List Cond := lw_tbl.filter goodWord
theorem lw_in1 {w : Cond} (h : w ∈ tables_1_1) : w ∈ lw_tbl := List.mem_append_right _ (show w ∈ tables_1 from List.mem_append_left _ h)
theorem lw_in2 {w : Cond} (h : w ∈ tables_1_2) : w ∈ lw_tbl := List.mem_append_right _ (show w ∈ tables_1 from List.mem_append_right _ (List.mem_append_left _ h))
theorem lw_in3 {w : Cond} (h : w ∈ tables_1_3) : w ∈ lw_tbl := List.mem_append_right _ (show w ∈ tables_1 from List.mem_append_right _ (List.mem_append_right _ (List.mem_append_left _ h)))
theorem lw_in4 {w : Cond} (h : w ∈ tables_1_4) : w ∈ lw_tbl := List.mem_append_right _ (show w ∈ tables_1 from List.mem_append_right _ (List.mem_append_right _ (List.mem_append_right _ (List.mem_append_left _ h))))
theorem lw_in5 {w : Cond} (h : w ∈ tables_1_5) : w ∈ lw_tbl := List.mem_append_right _ (show w ∈ tables_1 from List.mem_append_right _ (List.mem_append_right _ (List.mem_append_right _ (List.mem_append_right _ (List.mem_append_left _ h)))))
theorem lw_in6 {w : Cond} (h : w ∈ tables_1_6) : w ∈ lw_tbl := List.mem_append_right _ (show w ∈ tables_1 from List.mem_append_right _ (List.mem_append_right _ (List.mem_append_right _ (List.mem_append_right _ (List.mem_append_right _ (h))))))
theorem lw_gg {w : Cond} (h : w ∈ lw_tbl) (hg : goodWord w = true) : w ∈ lw_g := List.mem_filter.mpr ⟨h, hg⟩
set_option maxRecDepth 20000 in
theorem hZ_L : Cond.initialized RL ∈ lw_g := lw_gg (lw_in1 (List.mem_of_getElem? (i := 0) rfl)) rfl
set_option maxRecDepth 20000 in
theorem hZ_X11 : Cond.initialized RX11 ∈ lw_g := lw_gg (lw_in1 (List.mem_of_getElem? (i := 1) rfl)) rfl
set_option maxRecDepth 20000 in
theorem hZ_X3 : Cond.initialized RX3 ∈ lw_g := lw_gg (lw_in1 (List.mem_of_getElem? (i := 2) rfl)) rfl
set_option maxRecDepth 20000 in
theorem hZ_X6 : Cond.initialized RX6 ∈ lw_g := lw_gg (lw_in1 (List.mem_of_getElem? (i := 3) rfl)) rfl
set_option maxRecDepth 20000 in
theorem hZ_X2 : Cond.initialized RX2 ∈ lw_g := lw_gg (lw_in1 (List.mem_of_getElem? (i := 4) rfl)) rfl
set_option maxRecDepth 20000 in
theorem hZ_X10 : Cond.initialized RX10 ∈ lw_g := lw_gg (lw_in1 (List.mem_of_getElem? (i := 5) rfl)) rfl
set_option maxRecDepth 20000 in
theorem hZ_X5 : Cond.initialized RX5 ∈ lw_g := lw_gg (lw_in1 (List.mem_of_getElem? (i := 6) rfl)) rfl
set_option maxRecDepth 20000 in
theorem hZ_X8 : Cond.initialized RX8 ∈ lw_g := lw_gg (lw_in1 (List.mem_of_getElem? (i := 7) rfl)) rfl
set_option maxRecDepth 20000 in
theorem hZ_X7 : Cond.initialized RX7 ∈ lw_g := lw_gg (lw_in1 (List.mem_of_getElem? (i := 8) rfl)) rfl
set_option maxRecDepth 20000 in
theorem hZ_X4 : Cond.initialized RX4 ∈ lw_g := lw_gg (lw_in1 (List.mem_of_getElem? (i := 9) rfl)) rfl
set_option maxRecDepth 20000 in
theorem hZ_X0 : Cond.initialized RX0 ∈ lw_g := lw_gg (lw_in1 (List.mem_of_getElem? (i := 10) rfl)) rfl
set_option maxRecDepth 20000 in
theorem hZ_X9 : Cond.initialized RX9 ∈ lw_g := lw_gg (lw_in1 (List.mem_of_getElem? (i := 11) rfl)) rfl
set_option maxRecDepth 20000 in
theorem hZ_X12 : Cond.initialized RX12 ∈ lw_g := lw_gg (lw_in1 (List.mem_of_getElem? (i := 12) rfl)) rfl
set_option maxRecDepth 20000 in
theorem hZ_J9 : Cond.initialized RJ9 ∈ lw_g := lw_gg (lw_in1 (List.mem_of_getElem? (i := 13) rfl)) rfl
set_option maxRecDepth 20000 in
theorem hZ_J6 : Cond.initialized RJ6 ∈ lw_g := lw_gg (lw_in1 (List.mem_of_getElem? (i := 14) rfl)) rfl
set_option maxRecDepth 20000 in
theorem hZ_X1 : Cond.initialized RX1 ∈ lw_g := lw_gg (lw_in1 (List.mem_of_getElem? (i := 15) rfl)) rfl
set_option maxRecDepth 20000 in
theorem hL_L_7 : Cond.classLink RL 7 RX11 ∈ lw_g := lw_gg (lw_in1 (List.mem_of_getElem? (i := 16) rfl)) rfl
set_option maxRecDepth 20000 in
theorem hB_X11 : Cond.instantiable RX11 10 ∈ lw_g := lw_gg (lw_in1 (List.mem_of_getElem? (i := 17) rfl)) rfl
set_option maxRecDepth 20000 in
theorem hM_L_9 : Cond.methodLink RL 9 yX11_init ∈ lw_g := lw_gg (lw_in1 (List.mem_of_getElem? (i := 18) rfl)) rfl
set_option maxRecDepth 20000 in
theorem hI_X11_init : Cond.instanceMethod yX11_init ∈ lw_g := lw_gg (lw_in1 (List.mem_of_getElem? (i := 19) rfl)) rfl
set_option maxRecDepth 20000 in
theorem hC_X11_init : Cond.code yX11_init cX11_init 2 none ∈ lw_g := lw_gg (lw_in1 (List.mem_of_getElem? (i := 20) rfl)) rfl
set_option maxRecDepth 20000 in
theorem hM_X11_3 : Cond.methodLink RX11 3 objectInit ∈ lw_g := lw_gg (lw_in1 (List.mem_of_getElem? (i := 21) rfl)) rfl
set_option maxRecDepth 20000 in
theorem hI_obj : Cond.instanceMethod objectInit ∈ lw_g := lw_gg (lw_in1 (List.mem_of_getElem? (i := 22) rfl)) rfl
set_option maxRecDepth 20000 in
theorem hC_obj : Cond.code objectInit ⟨#[0xb1]⟩ 1 none ∈ lw_g := lw_gg (lw_in1 (List.mem_of_getElem? (i := 23) rfl)) rfl
set_option maxRecDepth 20000 in
theorem hL_X11_15 : Cond.classLink RX11 15 RX3 ∈ lw_g := lw_gg (lw_in1 (List.mem_of_getElem? (i := 24) rfl)) rfl
set_option maxRecDepth 20000 in
theorem hB_X3 : Cond.instantiable RX3 4 ∈ lw_g := lw_gg (lw_in1 (List.mem_of_getElem? (i := 25) rfl)) rfl
set_option maxRecDepth 20000 in
theorem hM_X11_17 : Cond.methodLink RX11 17 yX3_init ∈ lw_g := lw_gg (lw_in1 (List.mem_of_getElem? (i := 26) rfl)) rfl
set_option maxRecDepth 20000 in
theorem hI_X3_init : Cond.instanceMethod yX3_init ∈ lw_g := lw_gg (lw_in1 (List.mem_of_getElem? (i := 27) rfl)) rfl
set_option maxRecDepth 20000 in
theorem hC_X3_init : Cond.code yX3_init cX3_init 1 none ∈ lw_g := lw_gg (lw_in1 (List.mem_of_getElem? (i := 28) rfl)) rfl
set_option maxRecDepth 20000 in
theorem hM_X3_3 : Cond.methodLink RX3 3 objectInit ∈ lw_g := lw_gg (lw_in1 (List.mem_of_getElem? (i := 29) rfl)) rfl
set_option maxRecDepth 20000 in
theorem hF_X3_9 : Cond.fieldLink RX3 9 "EngineCell$Engine" "map" "[I" ∈ lw_g := lw_gg (lw_in1 (List.mem_of_getElem? (i := 30) rfl)) rfl
set_option maxRecDepth 20000 in
theorem hF_X3_15 : Cond.fieldLink RX3 15 "EngineCell$Engine" "past" "[I" ∈ lw_g := lw_gg (lw_in1 (List.mem_of_getElem? (i := 31) rfl)) rfl
set_option maxRecDepth 20000 in
theorem hF_X3_18 : Cond.fieldLink RX3 18 "EngineCell$Engine" "lag" "I" ∈ lw_g := lw_gg (lw_in1 (List.mem_of_getElem? (i := 32) rfl)) rfl
set_option maxRecDepth 20000 in
theorem hF_X11_108 : Cond.fieldLink RX11 108 "EngineCell$Engine" "lag" "I" ∈ lw_g := lw_gg (lw_in1 (List.mem_of_getElem? (i := 33) rfl)) rfl
set_option maxRecDepth 20000 in
theorem hF_X3_22 : Cond.fieldLink RX3 22 "EngineCell$Engine" "tick" "I" ∈ lw_g := lw_gg (lw_in1 (List.mem_of_getElem? (i := 34) rfl)) rfl
set_option maxRecDepth 20000 in
theorem hF_X4_41 : Cond.fieldLink RX4 41 "EngineCell$Engine" "tick" "I" ∈ lw_g := lw_gg (lw_in1 (List.mem_of_getElem? (i := 35) rfl)) rfl
set_option maxRecDepth 20000 in
theorem hF_X7_42 : Cond.fieldLink RX7 42 "EngineCell$Engine" "tick" "I" ∈ lw_g := lw_gg (lw_in1 (List.mem_of_getElem? (i := 36) rfl)) rfl
set_option maxRecDepth 20000 in
theorem hF_X8_76 : Cond.fieldLink RX8 76 "EngineCell$Engine" "tick" "I" ∈ lw_g := lw_gg (lw_in1 (List.mem_of_getElem? (i := 37) rfl)) rfl
set_option maxRecDepth 20000 in
theorem hF_X11_159 : Cond.fieldLink RX11 159 "EngineCell$Engine" "tick" "I" ∈ lw_g := lw_gg (lw_in1 (List.mem_of_getElem? (i := 38) rfl)) rfl
set_option maxRecDepth 20000 in
theorem hA_int : Cond.arrayClass .int ∈ lw_g := lw_gg (lw_in1 (List.mem_of_getElem? (i := 48) rfl)) rfl
set_option maxRecDepth 20000 in
theorem hL_X11_22 : Cond.classLink RX11 22 RX6 ∈ lw_g := lw_gg (lw_in1 (List.mem_of_getElem? (i := 49) rfl)) rfl
set_option maxRecDepth 20000 in
theorem hB_X6 : Cond.instantiable RX6 2 ∈ lw_g := lw_gg (lw_in1 (List.mem_of_getElem? (i := 50) rfl)) rfl
set_option maxRecDepth 20000 in
theorem hM_X11_24 : Cond.methodLink RX11 24 yX6_init ∈ lw_g := lw_gg (lw_in1 (List.mem_of_getElem? (i := 51) rfl)) rfl
set_option maxRecDepth 20000 in
theorem hI_X6_init : Cond.instanceMethod yX6_init ∈ lw_g := lw_gg (lw_in1 (List.mem_of_getElem? (i := 52) rfl)) rfl
set_option maxRecDepth 20000 in
theorem hC_X6_init : Cond.code yX6_init cX6_init 1 none ∈ lw_g := lw_gg (lw_in1 (List.mem_of_getElem? (i := 53) rfl)) rfl
set_option maxRecDepth 20000 in
theorem hM_X6_3 : Cond.methodLink RX6 3 objectInit ∈ lw_g := lw_gg (lw_in1 (List.mem_of_getElem? (i := 54) rfl)) rfl
set_option maxRecDepth 20000 in
theorem hF_X6_9 : Cond.fieldLink RX6 9 "EngineCell$Program" "cells" "[I" ∈ lw_g := lw_gg (lw_in1 (List.mem_of_getElem? (i := 55) rfl)) rfl
set_option maxRecDepth 20000 in
theorem hF_X6_15 : Cond.fieldLink RX6 15 "EngineCell$Program" "count" "I" ∈ lw_g := lw_gg (lw_in1 (List.mem_of_getElem? (i := 56) rfl)) rfl
set_option maxRecDepth 20000 in
theorem hF_X11_111 : Cond.fieldLink RX11 111 "EngineCell$Program" "count" "I" ∈ lw_g := lw_gg (lw_in1 (List.mem_of_getElem? (i := 57) rfl)) rfl
set_option maxRecDepth 20000 in
theorem hF_X8_88 : Cond.fieldLink RX8 88 "EngineCell$Program" "count" "I" ∈ lw_g := lw_gg (lw_in1 (List.mem_of_getElem? (i := 58) rfl)) rfl
set_option maxRecDepth 20000 in
theorem hL_X11_29 : Cond.classLink RX11 29 RX2 ∈ lw_g := lw_gg (lw_in1 (List.mem_of_getElem? (i := 64) rfl)) rfl
set_option maxRecDepth 20000 in
theorem hB_X2 : Cond.instantiable RX2 5 ∈ lw_g := lw_gg (lw_in1 (List.mem_of_getElem? (i := 65) rfl)) rfl
set_option maxRecDepth 20000 in
theorem hM_X11_31 : Cond.methodLink RX11 31 yX2_init ∈ lw_g := lw_gg (lw_in1 (List.mem_of_getElem? (i := 66) rfl)) rfl
set_option maxRecDepth 20000 in
theorem hI_X2_init : Cond.instanceMethod yX2_init ∈ lw_g := lw_gg (lw_in1 (List.mem_of_getElem? (i := 67) rfl)) rfl
set_option maxRecDepth 20000 in
theorem hC_X2_init : Cond.code yX2_init cX2_init 2 none ∈ lw_g := lw_gg (lw_in1 (List.mem_of_getElem? (i := 68) rfl)) rfl
set_option maxRecDepth 20000 in
theorem hM_X2_3 : Cond.methodLink RX2 3 objectInit ∈ lw_g := lw_gg (lw_in1 (List.mem_of_getElem? (i := 69) rfl)) rfl
set_option maxRecDepth 20000 in
theorem hL_X2_9 : Cond.classLink RX2 9 RX1 ∈ lw_g := lw_gg (lw_in1 (List.mem_of_getElem? (i := 70) rfl)) rfl
set_option maxRecDepth 20000 in
theorem hO_X1 : Cond.arrayOver (.object "EngineCell$Channel") ∈ lw_tbl := lw_in1 (List.mem_of_getElem? (i := 71) rfl)
set_option maxRecDepth 20000 in
theorem hL_X2_17 : Cond.classLink RX2 17 RX10 ∈ lw_g := lw_gg (lw_in1 (List.mem_of_getElem? (i := 72) rfl)) rfl
set_option maxRecDepth 20000 in
theorem hB_X10 : Cond.instantiable RX10 5 ∈ lw_g := lw_gg (lw_in1 (List.mem_of_getElem? (i := 73) rfl)) rfl
set_option maxRecDepth 20000 in
theorem hM_X2_19 : Cond.methodLink RX2 19 yX10_init ∈ lw_g := lw_gg (lw_in1 (List.mem_of_getElem? (i := 74) rfl)) rfl
set_option maxRecDepth 20000 in
theorem hI_X10_init : Cond.instanceMethod yX10_init ∈ lw_g := lw_gg (lw_in1 (List.mem_of_getElem? (i := 75) rfl)) rfl
set_option maxRecDepth 20000 in
theorem hC_X10_init : Cond.code yX10_init cX10_init 1 none ∈ lw_g := lw_gg (lw_in1 (List.mem_of_getElem? (i := 76) rfl)) rfl
set_option maxRecDepth 20000 in
theorem hM_X10_3 : Cond.methodLink RX10 3 objectInit ∈ lw_g := lw_gg (lw_in1 (List.mem_of_getElem? (i := 77) rfl)) rfl
set_option maxRecDepth 20000 in
theorem hF_X10_9 : Cond.fieldLink RX10 9 "EngineCell$Tellings" "channels" "[I" ∈ lw_g := lw_gg (lw_in1 (List.mem_of_getElem? (i := 78) rfl)) rfl
set_option maxRecDepth 20000 in
theorem hF_X10_15 : Cond.fieldLink RX10 15 "EngineCell$Tellings" "froms" "[I" ∈ lw_g := lw_gg (lw_in1 (List.mem_of_getElem? (i := 79) rfl)) rfl
set_option maxRecDepth 20000 in
theorem hF_X10_18 : Cond.fieldLink RX10 18 "EngineCell$Tellings" "firsts" "[I" ∈ lw_g := lw_gg (lw_in1 (List.mem_of_getElem? (i := 80) rfl)) rfl
set_option maxRecDepth 20000 in
theorem hF_X10_21 : Cond.fieldLink RX10 21 "EngineCell$Tellings" "seconds" "[I" ∈ lw_g := lw_gg (lw_in1 (List.mem_of_getElem? (i := 81) rfl)) rfl
set_option maxRecDepth 20000 in
theorem hF_X10_24 : Cond.fieldLink RX10 24 "EngineCell$Tellings" "count" "I" ∈ lw_g := lw_gg (lw_in1 (List.mem_of_getElem? (i := 82) rfl)) rfl
set_option maxRecDepth 20000 in
theorem hF_X11_190 : Cond.fieldLink RX11 190 "EngineCell$Tellings" "count" "I" ∈ lw_g := lw_gg (lw_in1 (List.mem_of_getElem? (i := 83) rfl)) rfl
set_option maxRecDepth 20000 in
theorem hF_X2_31 : Cond.fieldLink RX2 31 "EngineCell$Channels" "engine" "LEngineCell$Engine;" ∈ lw_g := lw_gg (lw_in1 (List.mem_of_getElem? (i := 95) rfl)) rfl
set_option maxRecDepth 20000 in
theorem hF_X2_11 : Cond.fieldLink RX2 11 "EngineCell$Channels" "rows" "[LEngineCell$Channel;" ∈ lw_g := lw_gg (lw_in1 (List.mem_of_getElem? (i := 96) rfl)) rfl
set_option maxRecDepth 20000 in
theorem hF_X2_20 : Cond.fieldLink RX2 20 "EngineCell$Channels" "losses" "LEngineCell$Tellings;" ∈ lw_g := lw_gg (lw_in1 (List.mem_of_getElem? (i := 97) rfl)) rfl
set_option maxRecDepth 20000 in
theorem hF_X11_219 : Cond.fieldLink RX11 219 "EngineCell$Channels" "losses" "LEngineCell$Tellings;" ∈ lw_g := lw_gg (lw_in1 (List.mem_of_getElem? (i := 98) rfl)) rfl
set_option maxRecDepth 20000 in
theorem hF_X2_24 : Cond.fieldLink RX2 24 "EngineCell$Channels" "corrections" "LEngineCell$Tellings;" ∈ lw_g := lw_gg (lw_in1 (List.mem_of_getElem? (i := 99) rfl)) rfl
set_option maxRecDepth 20000 in
theorem hF_X11_186 : Cond.fieldLink RX11 186 "EngineCell$Channels" "corrections" "LEngineCell$Tellings;" ∈ lw_g := lw_gg (lw_in1 (List.mem_of_getElem? (i := 100) rfl)) rfl
set_option maxRecDepth 20000 in
theorem hF_X2_27 : Cond.fieldLink RX2 27 "EngineCell$Channels" "count" "I" ∈ lw_g := lw_gg (lw_in1 (List.mem_of_getElem? (i := 101) rfl)) rfl
set_option maxRecDepth 20000 in
theorem hF_X11_185 : Cond.fieldLink RX11 185 "EngineCell$Channels" "count" "I" ∈ lw_g := lw_gg (lw_in1 (List.mem_of_getElem? (i := 102) rfl)) rfl
set_option maxRecDepth 20000 in
theorem hL_X11_38 : Cond.classLink RX11 38 RX5 ∈ lw_g := lw_gg (lw_in1 (List.mem_of_getElem? (i := 114) rfl)) rfl
set_option maxRecDepth 20000 in
theorem hB_X5 : Cond.instantiable RX5 2 ∈ lw_g := lw_gg (lw_in1 (List.mem_of_getElem? (i := 115) rfl)) rfl
set_option maxRecDepth 20000 in
theorem hM_X11_40 : Cond.methodLink RX11 40 yX5_init ∈ lw_g := lw_gg (lw_in1 (List.mem_of_getElem? (i := 116) rfl)) rfl
set_option maxRecDepth 20000 in
theorem hI_X5_init : Cond.instanceMethod yX5_init ∈ lw_g := lw_gg (lw_in1 (List.mem_of_getElem? (i := 117) rfl)) rfl
set_option maxRecDepth 20000 in
theorem hC_X5_init : Cond.code yX5_init cX5_init 1 none ∈ lw_g := lw_gg (lw_in1 (List.mem_of_getElem? (i := 118) rfl)) rfl
set_option maxRecDepth 20000 in
theorem hM_X5_3 : Cond.methodLink RX5 3 objectInit ∈ lw_g := lw_gg (lw_in1 (List.mem_of_getElem? (i := 119) rfl)) rfl
set_option maxRecDepth 20000 in
theorem hF_X5_9 : Cond.fieldLink RX5 9 "EngineCell$Marks" "ticks" "[I" ∈ lw_g := lw_gg (lw_in1 (List.mem_of_getElem? (i := 120) rfl)) rfl
set_option maxRecDepth 20000 in
theorem hF_X5_15 : Cond.fieldLink RX5 15 "EngineCell$Marks" "count" "I" ∈ lw_g := lw_gg (lw_in1 (List.mem_of_getElem? (i := 121) rfl)) rfl
set_option maxRecDepth 20000 in
theorem hF_X7_96 : Cond.fieldLink RX7 96 "EngineCell$Marks" "count" "I" ∈ lw_g := lw_gg (lw_in1 (List.mem_of_getElem? (i := 122) rfl)) rfl
set_option maxRecDepth 20000 in
theorem hF_X11_172 : Cond.fieldLink RX11 172 "EngineCell$Marks" "count" "I" ∈ lw_g := lw_gg (lw_in1 (List.mem_of_getElem? (i := 123) rfl)) rfl
set_option maxRecDepth 20000 in
theorem hL_X11_45 : Cond.classLink RX11 45 RX8 ∈ lw_g := lw_gg (lw_in1 (List.mem_of_getElem? (i := 129) rfl)) rfl
set_option maxRecDepth 20000 in
theorem hB_X8 : Cond.instantiable RX8 14 ∈ lw_g := lw_gg (lw_in1 (List.mem_of_getElem? (i := 130) rfl)) rfl
set_option maxRecDepth 20000 in
theorem hM_X11_47 : Cond.methodLink RX11 47 yX8_init ∈ lw_g := lw_gg (lw_in1 (List.mem_of_getElem? (i := 131) rfl)) rfl
set_option maxRecDepth 20000 in
theorem hI_X8_init : Cond.instanceMethod yX8_init ∈ lw_g := lw_gg (lw_in1 (List.mem_of_getElem? (i := 132) rfl)) rfl
set_option maxRecDepth 20000 in
theorem hC_X8_init : Cond.code yX8_init cX8_init 5 none ∈ lw_g := lw_gg (lw_in1 (List.mem_of_getElem? (i := 133) rfl)) rfl
set_option maxRecDepth 20000 in
theorem hM_X8_3 : Cond.methodLink RX8 3 objectInit ∈ lw_g := lw_gg (lw_in1 (List.mem_of_getElem? (i := 134) rfl)) rfl
set_option maxRecDepth 20000 in
theorem hF_X8_43 : Cond.fieldLink RX8 43 "EngineCell$Room" "engine" "LEngineCell$Engine;" ∈ lw_g := lw_gg (lw_in1 (List.mem_of_getElem? (i := 135) rfl)) rfl
set_option maxRecDepth 20000 in
theorem hF_X8_47 : Cond.fieldLink RX8 47 "EngineCell$Room" "program" "LEngineCell$Program;" ∈ lw_g := lw_gg (lw_in1 (List.mem_of_getElem? (i := 136) rfl)) rfl
set_option maxRecDepth 20000 in
theorem hF_X8_51 : Cond.fieldLink RX8 51 "EngineCell$Room" "channels" "LEngineCell$Channels;" ∈ lw_g := lw_gg (lw_in1 (List.mem_of_getElem? (i := 137) rfl)) rfl
set_option maxRecDepth 20000 in
theorem hF_X8_55 : Cond.fieldLink RX8 55 "EngineCell$Room" "marks" "LEngineCell$Marks;" ∈ lw_g := lw_gg (lw_in1 (List.mem_of_getElem? (i := 138) rfl)) rfl
set_option maxRecDepth 20000 in
theorem hF_X8_9 : Cond.fieldLink RX8 9 "EngineCell$Room" "ledBack" "[I" ∈ lw_g := lw_gg (lw_in1 (List.mem_of_getElem? (i := 139) rfl)) rfl
set_option maxRecDepth 20000 in
theorem hF_X8_15 : Cond.fieldLink RX8 15 "EngineCell$Room" "state" "I" ∈ lw_g := lw_gg (lw_in1 (List.mem_of_getElem? (i := 140) rfl)) rfl
set_option maxRecDepth 20000 in
theorem hF_X11_165 : Cond.fieldLink RX11 165 "EngineCell$Room" "state" "I" ∈ lw_g := lw_gg (lw_in1 (List.mem_of_getElem? (i := 141) rfl)) rfl
set_option maxRecDepth 20000 in
theorem hF_X8_19 : Cond.fieldLink RX8 19 "EngineCell$Room" "at" "I" ∈ lw_g := lw_gg (lw_in1 (List.mem_of_getElem? (i := 142) rfl)) rfl
set_option maxRecDepth 20000 in
theorem hF_X11_176 : Cond.fieldLink RX11 176 "EngineCell$Room" "at" "I" ∈ lw_g := lw_gg (lw_in1 (List.mem_of_getElem? (i := 143) rfl)) rfl
set_option maxRecDepth 20000 in
theorem hF_X8_22 : Cond.fieldLink RX8 22 "EngineCell$Room" "kind" "I" ∈ lw_g := lw_gg (lw_in1 (List.mem_of_getElem? (i := 144) rfl)) rfl
set_option maxRecDepth 20000 in
theorem hF_X11_179 : Cond.fieldLink RX11 179 "EngineCell$Room" "kind" "I" ∈ lw_g := lw_gg (lw_in1 (List.mem_of_getElem? (i := 145) rfl)) rfl
set_option maxRecDepth 20000 in
theorem hF_X8_25 : Cond.fieldLink RX8 25 "EngineCell$Room" "acts" "I" ∈ lw_g := lw_gg (lw_in1 (List.mem_of_getElem? (i := 146) rfl)) rfl
set_option maxRecDepth 20000 in
theorem hF_X11_182 : Cond.fieldLink RX11 182 "EngineCell$Room" "acts" "I" ∈ lw_g := lw_gg (lw_in1 (List.mem_of_getElem? (i := 147) rfl)) rfl
set_option maxRecDepth 20000 in
theorem hF_X8_28 : Cond.fieldLink RX8 28 "EngineCell$Room" "spent" "I" ∈ lw_g := lw_gg (lw_in1 (List.mem_of_getElem? (i := 148) rfl)) rfl
set_option maxRecDepth 20000 in
theorem hF_X8_31 : Cond.fieldLink RX8 31 "EngineCell$Room" "wanted" "I" ∈ lw_g := lw_gg (lw_in1 (List.mem_of_getElem? (i := 149) rfl)) rfl
set_option maxRecDepth 20000 in
theorem hF_X8_34 : Cond.fieldLink RX8 34 "EngineCell$Room" "pedal" "I" ∈ lw_g := lw_gg (lw_in1 (List.mem_of_getElem? (i := 150) rfl)) rfl
set_option maxRecDepth 20000 in
theorem hF_X8_37 : Cond.fieldLink RX8 37 "EngineCell$Room" "wantedAtFirst" "I" ∈ lw_g := lw_gg (lw_in1 (List.mem_of_getElem? (i := 151) rfl)) rfl
set_option maxRecDepth 20000 in
theorem hF_X8_40 : Cond.fieldLink RX8 40 "EngineCell$Room" "pedalAtFirst" "I" ∈ lw_g := lw_gg (lw_in1 (List.mem_of_getElem? (i := 152) rfl)) rfl
set_option maxRecDepth 20000 in
theorem hL_X11_54 : Cond.classLink RX11 54 RX7 ∈ lw_g := lw_gg (lw_in1 (List.mem_of_getElem? (i := 182) rfl)) rfl
set_option maxRecDepth 20000 in
theorem hB_X7 : Cond.instantiable RX7 7 ∈ lw_g := lw_gg (lw_in1 (List.mem_of_getElem? (i := 183) rfl)) rfl
set_option maxRecDepth 20000 in
theorem hM_X11_56 : Cond.methodLink RX11 56 yX7_init ∈ lw_g := lw_gg (lw_in1 (List.mem_of_getElem? (i := 184) rfl)) rfl
set_option maxRecDepth 20000 in
theorem hI_X7_init : Cond.instanceMethod yX7_init ∈ lw_g := lw_gg (lw_in1 (List.mem_of_getElem? (i := 185) rfl)) rfl
set_option maxRecDepth 20000 in
theorem hC_X7_init : Cond.code yX7_init cX7_init 4 none ∈ lw_g := lw_gg (lw_in1 (List.mem_of_getElem? (i := 186) rfl)) rfl
set_option maxRecDepth 20000 in
theorem hM_X7_3 : Cond.methodLink RX7 3 objectInit ∈ lw_g := lw_gg (lw_in1 (List.mem_of_getElem? (i := 187) rfl)) rfl
set_option maxRecDepth 20000 in
theorem hF_X7_26 : Cond.fieldLink RX7 26 "EngineCell$Reports" "engine" "LEngineCell$Engine;" ∈ lw_g := lw_gg (lw_in1 (List.mem_of_getElem? (i := 188) rfl)) rfl
set_option maxRecDepth 20000 in
theorem hF_X7_30 : Cond.fieldLink RX7 30 "EngineCell$Reports" "channels" "LEngineCell$Channels;" ∈ lw_g := lw_gg (lw_in1 (List.mem_of_getElem? (i := 189) rfl)) rfl
set_option maxRecDepth 20000 in
theorem hF_X7_34 : Cond.fieldLink RX7 34 "EngineCell$Reports" "marks" "LEngineCell$Marks;" ∈ lw_g := lw_gg (lw_in1 (List.mem_of_getElem? (i := 190) rfl)) rfl
set_option maxRecDepth 20000 in
theorem hF_X7_9 : Cond.fieldLink RX7 9 "EngineCell$Reports" "row" "[J" ∈ lw_g := lw_gg (lw_in1 (List.mem_of_getElem? (i := 191) rfl)) rfl
set_option maxRecDepth 20000 in
theorem hF_X7_15 : Cond.fieldLink RX7 15 "EngineCell$Reports" "ahead" "[J" ∈ lw_g := lw_gg (lw_in1 (List.mem_of_getElem? (i := 192) rfl)) rfl
set_option maxRecDepth 20000 in
theorem hF_X7_18 : Cond.fieldLink RX7 18 "EngineCell$Reports" "others" "[I" ∈ lw_g := lw_gg (lw_in1 (List.mem_of_getElem? (i := 193) rfl)) rfl
set_option maxRecDepth 20000 in
theorem hF_X7_22 : Cond.fieldLink RX7 22 "EngineCell$Reports" "otherCount" "I" ∈ lw_g := lw_gg (lw_in1 (List.mem_of_getElem? (i := 194) rfl)) rfl
set_option maxRecDepth 20000 in
theorem hF_X11_229 : Cond.fieldLink RX11 229 "EngineCell$Reports" "otherCount" "I" ∈ lw_g := lw_gg (lw_in1 (List.mem_of_getElem? (i := 195) rfl)) rfl
set_option maxRecDepth 20000 in
theorem hA_long : Cond.arrayClass .long ∈ lw_g := lw_gg (lw_in1 (List.mem_of_getElem? (i := 211) rfl)) rfl
set_option maxRecDepth 20000 in
theorem hL_X11_63 : Cond.classLink RX11 63 RX4 ∈ lw_g := lw_gg (lw_in1 (List.mem_of_getElem? (i := 212) rfl)) rfl
set_option maxRecDepth 20000 in
theorem hB_X4 : Cond.instantiable RX4 9 ∈ lw_g := lw_gg (lw_in1 (List.mem_of_getElem? (i := 213) rfl)) rfl
set_option maxRecDepth 20000 in
theorem hM_X11_65 : Cond.methodLink RX11 65 yX4_init ∈ lw_g := lw_gg (lw_in1 (List.mem_of_getElem? (i := 214) rfl)) rfl
set_option maxRecDepth 20000 in
theorem hI_X4_init : Cond.instanceMethod yX4_init ∈ lw_g := lw_gg (lw_in1 (List.mem_of_getElem? (i := 215) rfl)) rfl
set_option maxRecDepth 20000 in
theorem hC_X4_init : Cond.code yX4_init cX4_init 3 none ∈ lw_g := lw_gg (lw_in1 (List.mem_of_getElem? (i := 216) rfl)) rfl
set_option maxRecDepth 20000 in
theorem hM_X4_3 : Cond.methodLink RX4 3 objectInit ∈ lw_g := lw_gg (lw_in1 (List.mem_of_getElem? (i := 217) rfl)) rfl
set_option maxRecDepth 20000 in
theorem hF_X4_33 : Cond.fieldLink RX4 33 "EngineCell$Law" "engine" "LEngineCell$Engine;" ∈ lw_g := lw_gg (lw_in1 (List.mem_of_getElem? (i := 218) rfl)) rfl
set_option maxRecDepth 20000 in
theorem hF_X4_37 : Cond.fieldLink RX4 37 "EngineCell$Law" "channels" "LEngineCell$Channels;" ∈ lw_g := lw_gg (lw_in1 (List.mem_of_getElem? (i := 219) rfl)) rfl
set_option maxRecDepth 20000 in
theorem hF_X4_9 : Cond.fieldLink RX4 9 "EngineCell$Law" "n" "J" ∈ lw_g := lw_gg (lw_in1 (List.mem_of_getElem? (i := 220) rfl)) rfl
set_option maxRecDepth 20000 in
theorem hF_X11_263 : Cond.fieldLink RX11 263 "EngineCell$Law" "n" "J" ∈ lw_g := lw_gg (lw_in1 (List.mem_of_getElem? (i := 221) rfl)) rfl
set_option maxRecDepth 20000 in
theorem hF_X4_15 : Cond.fieldLink RX4 15 "EngineCell$Law" "off" "J" ∈ lw_g := lw_gg (lw_in1 (List.mem_of_getElem? (i := 222) rfl)) rfl
set_option maxRecDepth 20000 in
theorem hF_X11_274 : Cond.fieldLink RX11 274 "EngineCell$Law" "off" "J" ∈ lw_g := lw_gg (lw_in1 (List.mem_of_getElem? (i := 223) rfl)) rfl
set_option maxRecDepth 20000 in
theorem hF_X4_18 : Cond.fieldLink RX4 18 "EngineCell$Law" "farthest" "J" ∈ lw_g := lw_gg (lw_in1 (List.mem_of_getElem? (i := 224) rfl)) rfl
set_option maxRecDepth 20000 in
theorem hF_X11_277 : Cond.fieldLink RX11 277 "EngineCell$Law" "farthest" "J" ∈ lw_g := lw_gg (lw_in1 (List.mem_of_getElem? (i := 225) rfl)) rfl
set_option maxRecDepth 20000 in
theorem hF_X4_21 : Cond.fieldLink RX4 21 "EngineCell$Law" "sumX" "J" ∈ lw_g := lw_gg (lw_in1 (List.mem_of_getElem? (i := 226) rfl)) rfl
set_option maxRecDepth 20000 in
theorem hF_X4_24 : Cond.fieldLink RX4 24 "EngineCell$Law" "sumY" "J" ∈ lw_g := lw_gg (lw_in1 (List.mem_of_getElem? (i := 227) rfl)) rfl
set_option maxRecDepth 20000 in
theorem hF_X4_27 : Cond.fieldLink RX4 27 "EngineCell$Law" "sumXX" "J" ∈ lw_g := lw_gg (lw_in1 (List.mem_of_getElem? (i := 228) rfl)) rfl
set_option maxRecDepth 20000 in
theorem hF_X4_30 : Cond.fieldLink RX4 30 "EngineCell$Law" "sumXY" "J" ∈ lw_g := lw_gg (lw_in1 (List.mem_of_getElem? (i := 229) rfl)) rfl
set_option maxRecDepth 20000 in
theorem hL_X11_72 : Cond.classLink RX11 72 RX0 ∈ lw_g := lw_gg (lw_in2 (List.mem_of_getElem? (i := 9) rfl)) rfl
set_option maxRecDepth 20000 in
theorem hB_X0 : Cond.instantiable RX0 1 ∈ lw_g := lw_gg (lw_in2 (List.mem_of_getElem? (i := 10) rfl)) rfl
set_option maxRecDepth 20000 in
theorem hM_X11_74 : Cond.methodLink RX11 74 yX0_init ∈ lw_g := lw_gg (lw_in2 (List.mem_of_getElem? (i := 11) rfl)) rfl
set_option maxRecDepth 20000 in
theorem hI_X0_init : Cond.instanceMethod yX0_init ∈ lw_g := lw_gg (lw_in2 (List.mem_of_getElem? (i := 12) rfl)) rfl
set_option maxRecDepth 20000 in
theorem hC_X0_init : Cond.code yX0_init cX0_init 1 none ∈ lw_g := lw_gg (lw_in2 (List.mem_of_getElem? (i := 13) rfl)) rfl
set_option maxRecDepth 20000 in
theorem hM_X0_3 : Cond.methodLink RX0 3 objectInit ∈ lw_g := lw_gg (lw_in2 (List.mem_of_getElem? (i := 14) rfl)) rfl
set_option maxRecDepth 20000 in
theorem hF_X0_9 : Cond.fieldLink RX0 9 "EngineCell$Bodies" "trace" "I" ∈ lw_g := lw_gg (lw_in2 (List.mem_of_getElem? (i := 15) rfl)) rfl
set_option maxRecDepth 20000 in
theorem hF_X11_302 : Cond.fieldLink RX11 302 "EngineCell$Bodies" "trace" "I" ∈ lw_g := lw_gg (lw_in2 (List.mem_of_getElem? (i := 16) rfl)) rfl
set_option maxRecDepth 20000 in
theorem hL_X11_79 : Cond.classLink RX11 79 RX9 ∈ lw_g := lw_gg (lw_in2 (List.mem_of_getElem? (i := 20) rfl)) rfl
set_option maxRecDepth 20000 in
theorem hO_X9 : Cond.arrayOver (.object "EngineCell$Sheet") ∈ lw_tbl := lw_in2 (List.mem_of_getElem? (i := 21) rfl)
set_option maxRecDepth 20000 in
theorem hB_X9 : Cond.instantiable RX9 4 ∈ lw_g := lw_gg (lw_in2 (List.mem_of_getElem? (i := 22) rfl)) rfl
set_option maxRecDepth 20000 in
theorem hM_X11_85 : Cond.methodLink RX11 85 yX9_init ∈ lw_g := lw_gg (lw_in2 (List.mem_of_getElem? (i := 23) rfl)) rfl
set_option maxRecDepth 20000 in
theorem hI_X9_init : Cond.instanceMethod yX9_init ∈ lw_g := lw_gg (lw_in2 (List.mem_of_getElem? (i := 24) rfl)) rfl
set_option maxRecDepth 20000 in
theorem hC_X9_init : Cond.code yX9_init cX9_init 1 none ∈ lw_g := lw_gg (lw_in2 (List.mem_of_getElem? (i := 25) rfl)) rfl
set_option maxRecDepth 20000 in
theorem hM_X9_3 : Cond.methodLink RX9 3 objectInit ∈ lw_g := lw_gg (lw_in2 (List.mem_of_getElem? (i := 26) rfl)) rfl
set_option maxRecDepth 20000 in
theorem hF_X9_9 : Cond.fieldLink RX9 9 "EngineCell$Sheet" "cells" "[I" ∈ lw_g := lw_gg (lw_in2 (List.mem_of_getElem? (i := 27) rfl)) rfl
set_option maxRecDepth 20000 in
theorem hF_X9_15 : Cond.fieldLink RX9 15 "EngineCell$Sheet" "length" "I" ∈ lw_g := lw_gg (lw_in2 (List.mem_of_getElem? (i := 28) rfl)) rfl
set_option maxRecDepth 20000 in
theorem hF_X9_19 : Cond.fieldLink RX9 19 "EngineCell$Sheet" "lane" "I" ∈ lw_g := lw_gg (lw_in2 (List.mem_of_getElem? (i := 29) rfl)) rfl
set_option maxRecDepth 20000 in
theorem hF_X9_22 : Cond.fieldLink RX9 22 "EngineCell$Sheet" "there" "Z" ∈ lw_g := lw_gg (lw_in2 (List.mem_of_getElem? (i := 30) rfl)) rfl
set_option maxRecDepth 20000 in
theorem hF_X11_283 : Cond.fieldLink RX11 283 "EngineCell$Sheet" "there" "Z" ∈ lw_g := lw_gg (lw_in2 (List.mem_of_getElem? (i := 31) rfl)) rfl
set_option maxRecDepth 20000 in
theorem hF_X11_18 : Cond.fieldLink RX11 18 "EngineCell" "engine" "LEngineCell$Engine;" ∈ lw_g := lw_gg (lw_in2 (List.mem_of_getElem? (i := 41) rfl)) rfl
set_option maxRecDepth 20000 in
theorem hF_X11_25 : Cond.fieldLink RX11 25 "EngineCell" "program" "LEngineCell$Program;" ∈ lw_g := lw_gg (lw_in2 (List.mem_of_getElem? (i := 42) rfl)) rfl
set_option maxRecDepth 20000 in
theorem hF_X11_34 : Cond.fieldLink RX11 34 "EngineCell" "channels" "LEngineCell$Channels;" ∈ lw_g := lw_gg (lw_in2 (List.mem_of_getElem? (i := 43) rfl)) rfl
set_option maxRecDepth 20000 in
theorem hF_X11_41 : Cond.fieldLink RX11 41 "EngineCell" "marks" "LEngineCell$Marks;" ∈ lw_g := lw_gg (lw_in2 (List.mem_of_getElem? (i := 44) rfl)) rfl
set_option maxRecDepth 20000 in
theorem hF_X11_50 : Cond.fieldLink RX11 50 "EngineCell" "room" "LEngineCell$Room;" ∈ lw_g := lw_gg (lw_in2 (List.mem_of_getElem? (i := 45) rfl)) rfl
set_option maxRecDepth 20000 in
theorem hF_X11_59 : Cond.fieldLink RX11 59 "EngineCell" "reports" "LEngineCell$Reports;" ∈ lw_g := lw_gg (lw_in2 (List.mem_of_getElem? (i := 46) rfl)) rfl
set_option maxRecDepth 20000 in
theorem hF_X11_68 : Cond.fieldLink RX11 68 "EngineCell" "rule" "LEngineCell$Law;" ∈ lw_g := lw_gg (lw_in2 (List.mem_of_getElem? (i := 47) rfl)) rfl
set_option maxRecDepth 20000 in
theorem hF_X11_75 : Cond.fieldLink RX11 75 "EngineCell" "bodies" "LEngineCell$Bodies;" ∈ lw_g := lw_gg (lw_in2 (List.mem_of_getElem? (i := 48) rfl)) rfl
set_option maxRecDepth 20000 in
theorem hF_X11_81 : Cond.fieldLink RX11 81 "EngineCell" "sheets" "[LEngineCell$Sheet;" ∈ lw_g := lw_gg (lw_in2 (List.mem_of_getElem? (i := 49) rfl)) rfl
set_option maxRecDepth 20000 in
theorem hF_X11_11 : Cond.fieldLink RX11 11 "EngineCell" "fault" "I" ∈ lw_g := lw_gg (lw_in2 (List.mem_of_getElem? (i := 50) rfl)) rfl
set_option maxRecDepth 20000 in
theorem hM_L_13 : Cond.methodLink RL 13 yX11_map ∈ lw_g := lw_gg (lw_in2 (List.mem_of_getElem? (i := 72) rfl)) rfl
set_option maxRecDepth 20000 in
theorem hI_X11_map : Cond.instanceMethod yX11_map ∈ lw_g := lw_gg (lw_in2 (List.mem_of_getElem? (i := 73) rfl)) rfl
set_option maxRecDepth 20000 in
theorem hS_X11_map : Cond.selects RX11 yX11_map yX11_map ∈ lw_g := lw_gg (lw_in2 (List.mem_of_getElem? (i := 74) rfl)) rfl
set_option maxRecDepth 20000 in
theorem hC_X11_map : Cond.code yX11_map cX11_map 4 (some .int) ∈ lw_g := lw_gg (lw_in2 (List.mem_of_getElem? (i := 75) rfl)) rfl
set_option maxRecDepth 20000 in
theorem hM_X11_86 : Cond.methodLink RX11 86 yX11_within ∈ lw_g := lw_gg (lw_in2 (List.mem_of_getElem? (i := 76) rfl)) rfl
set_option maxRecDepth 20000 in
theorem hT_X11_within : Cond.static yX11_within ∈ lw_g := lw_gg (lw_in2 (List.mem_of_getElem? (i := 77) rfl)) rfl
set_option maxRecDepth 20000 in
theorem hC_X11_within : Cond.code yX11_within cX11_within 3 (some .boolean) ∈ lw_g := lw_gg (lw_in2 (List.mem_of_getElem? (i := 78) rfl)) rfl
set_option maxRecDepth 20000 in
theorem hM_X11_90 : Cond.methodLink RX11 90 yX8_isOff ∈ lw_g := lw_gg (lw_in2 (List.mem_of_getElem? (i := 79) rfl)) rfl
set_option maxRecDepth 20000 in
theorem hI_X8_isOff : Cond.instanceMethod yX8_isOff ∈ lw_g := lw_gg (lw_in2 (List.mem_of_getElem? (i := 80) rfl)) rfl
set_option maxRecDepth 20000 in
theorem hS_X8_isOff : Cond.selects RX8 yX8_isOff yX8_isOff ∈ lw_g := lw_gg (lw_in2 (List.mem_of_getElem? (i := 81) rfl)) rfl
set_option maxRecDepth 20000 in
theorem hC_X8_isOff : Cond.code yX8_isOff cX8_isOff 1 (some .boolean) ∈ lw_g := lw_gg (lw_in2 (List.mem_of_getElem? (i := 82) rfl)) rfl
set_option maxRecDepth 20000 in
theorem hM_X11_94 : Cond.methodLink RX11 94 yX3_mapped ∈ lw_g := lw_gg (lw_in2 (List.mem_of_getElem? (i := 83) rfl)) rfl
set_option maxRecDepth 20000 in
theorem hI_X3_mapped : Cond.instanceMethod yX3_mapped ∈ lw_g := lw_gg (lw_in2 (List.mem_of_getElem? (i := 84) rfl)) rfl
set_option maxRecDepth 20000 in
theorem hS_X3_mapped : Cond.selects RX3 yX3_mapped yX3_mapped ∈ lw_g := lw_gg (lw_in2 (List.mem_of_getElem? (i := 85) rfl)) rfl
set_option maxRecDepth 20000 in
theorem hC_X3_mapped : Cond.code yX3_mapped cX3_mapped 2 (some .int) ∈ lw_g := lw_gg (lw_in2 (List.mem_of_getElem? (i := 86) rfl)) rfl
set_option maxRecDepth 20000 in
theorem hN_X3_25 : Cond.methodLinkNest RX3 25 yX11_within "EngineCell" ∈ lw_tbl := lw_in2 (List.mem_of_getElem? (i := 87) rfl)
set_option maxRecDepth 20000 in
theorem hM_X11_98 : Cond.methodLink RX11 98 yX3_remap ∈ lw_g := lw_gg (lw_in2 (List.mem_of_getElem? (i := 88) rfl)) rfl
set_option maxRecDepth 20000 in
theorem hI_X3_remap : Cond.instanceMethod yX3_remap ∈ lw_g := lw_gg (lw_in2 (List.mem_of_getElem? (i := 89) rfl)) rfl
set_option maxRecDepth 20000 in
theorem hS_X3_remap : Cond.selects RX3 yX3_remap yX3_remap ∈ lw_g := lw_gg (lw_in2 (List.mem_of_getElem? (i := 90) rfl)) rfl
set_option maxRecDepth 20000 in
theorem hC_X3_remap : Cond.code yX3_remap cX3_remap 3 none ∈ lw_g := lw_gg (lw_in2 (List.mem_of_getElem? (i := 91) rfl)) rfl
set_option maxRecDepth 20000 in
theorem hM_L_18 : Cond.methodLink RL 18 yX11_torque ∈ lw_g := lw_gg (lw_in2 (List.mem_of_getElem? (i := 92) rfl)) rfl
set_option maxRecDepth 20000 in
theorem hI_X11_torque : Cond.instanceMethod yX11_torque ∈ lw_g := lw_gg (lw_in2 (List.mem_of_getElem? (i := 93) rfl)) rfl
set_option maxRecDepth 20000 in
theorem hS_X11_torque : Cond.selects RX11 yX11_torque yX11_torque ∈ lw_g := lw_gg (lw_in2 (List.mem_of_getElem? (i := 94) rfl)) rfl
set_option maxRecDepth 20000 in
theorem hC_X11_torque : Cond.code yX11_torque cX11_torque 3 (some .long) ∈ lw_g := lw_gg (lw_in2 (List.mem_of_getElem? (i := 95) rfl)) rfl
set_option maxRecDepth 20000 in
theorem hK_X11_102 : Cond.constantLong RX11 102 (-9223372036854775808) ∈ lw_g := lw_gg (lw_in2 (List.mem_of_getElem? (i := 96) rfl)) rfl
set_option maxRecDepth 20000 in
theorem hM_X11_104 : Cond.methodLink RX11 104 yX3_torqueAt ∈ lw_g := lw_gg (lw_in2 (List.mem_of_getElem? (i := 97) rfl)) rfl
set_option maxRecDepth 20000 in
theorem hI_X3_torqueAt : Cond.instanceMethod yX3_torqueAt ∈ lw_g := lw_gg (lw_in2 (List.mem_of_getElem? (i := 98) rfl)) rfl
set_option maxRecDepth 20000 in
theorem hS_X3_torqueAt : Cond.selects RX3 yX3_torqueAt yX3_torqueAt ∈ lw_g := lw_gg (lw_in2 (List.mem_of_getElem? (i := 99) rfl)) rfl
set_option maxRecDepth 20000 in
theorem hC_X3_torqueAt : Cond.code yX3_torqueAt cX3_torqueAt 12 (some .int) ∈ lw_g := lw_gg (lw_in2 (List.mem_of_getElem? (i := 100) rfl)) rfl
set_option maxRecDepth 20000 in
theorem hM_X3_29 : Cond.methodLink RX3 29 yJ9_min_7cf53 ∈ lw_g := lw_gg (lw_in2 (List.mem_of_getElem? (i := 101) rfl)) rfl
set_option maxRecDepth 20000 in
theorem hT_J9_min_7cf53 : Cond.static yJ9_min_7cf53 ∈ lw_g := lw_gg (lw_in2 (List.mem_of_getElem? (i := 102) rfl)) rfl
set_option maxRecDepth 20000 in
theorem hC_J9_min_7cf53 : Cond.code yJ9_min_7cf53 cJ9_min_7cf53 2 (some .int) ∈ lw_g := lw_gg (lw_in2 (List.mem_of_getElem? (i := 103) rfl)) rfl
set_option maxRecDepth 20000 in
theorem hM_X3_35 : Cond.methodLink RX3 35 yX3_mapped ∈ lw_g := lw_gg (lw_in2 (List.mem_of_getElem? (i := 104) rfl)) rfl
set_option maxRecDepth 20000 in
theorem hK_X3_39 : Cond.constantLong RX3 39 (2000) ∈ lw_g := lw_gg (lw_in2 (List.mem_of_getElem? (i := 105) rfl)) rfl
set_option maxRecDepth 20000 in
theorem hK_X3_41 : Cond.constantLong RX3 41 (250) ∈ lw_g := lw_gg (lw_in2 (List.mem_of_getElem? (i := 106) rfl)) rfl
set_option maxRecDepth 20000 in
theorem hK_X3_43 : Cond.constantLong RX3 43 (500000) ∈ lw_g := lw_gg (lw_in2 (List.mem_of_getElem? (i := 107) rfl)) rfl
set_option maxRecDepth 20000 in
theorem hM_L_23 : Cond.methodLink RL 23 yX11_lag ∈ lw_g := lw_gg (lw_in2 (List.mem_of_getElem? (i := 108) rfl)) rfl
set_option maxRecDepth 20000 in
theorem hI_X11_lag : Cond.instanceMethod yX11_lag ∈ lw_g := lw_gg (lw_in2 (List.mem_of_getElem? (i := 109) rfl)) rfl
set_option maxRecDepth 20000 in
theorem hS_X11_lag : Cond.selects RX11 yX11_lag yX11_lag ∈ lw_g := lw_gg (lw_in2 (List.mem_of_getElem? (i := 110) rfl)) rfl
set_option maxRecDepth 20000 in
theorem hC_X11_lag : Cond.code yX11_lag cX11_lag 3 (some .int) ∈ lw_g := lw_gg (lw_in2 (List.mem_of_getElem? (i := 111) rfl)) rfl
set_option maxRecDepth 20000 in
theorem hM_L_28 : Cond.methodLink RL 28 yX11_step ∈ lw_g := lw_gg (lw_in2 (List.mem_of_getElem? (i := 112) rfl)) rfl
set_option maxRecDepth 20000 in
theorem hI_X11_step : Cond.instanceMethod yX11_step ∈ lw_g := lw_gg (lw_in2 (List.mem_of_getElem? (i := 113) rfl)) rfl
set_option maxRecDepth 20000 in
theorem hS_X11_step : Cond.selects RX11 yX11_step yX11_step ∈ lw_g := lw_gg (lw_in2 (List.mem_of_getElem? (i := 114) rfl)) rfl
set_option maxRecDepth 20000 in
theorem hC_X11_step : Cond.code yX11_step cX11_step 5 (some .int) ∈ lw_g := lw_gg (lw_in2 (List.mem_of_getElem? (i := 115) rfl)) rfl
set_option maxRecDepth 20000 in
theorem hM_X11_114 : Cond.methodLink RX11 114 yX6_fits ∈ lw_g := lw_gg (lw_in2 (List.mem_of_getElem? (i := 116) rfl)) rfl
set_option maxRecDepth 20000 in
theorem hT_X6_fits : Cond.static yX6_fits ∈ lw_g := lw_gg (lw_in2 (List.mem_of_getElem? (i := 117) rfl)) rfl
set_option maxRecDepth 20000 in
theorem hC_X6_fits : Cond.code yX6_fits cX6_fits 5 (some .boolean) ∈ lw_g := lw_gg (lw_in2 (List.mem_of_getElem? (i := 118) rfl)) rfl
set_option maxRecDepth 20000 in
theorem hN_X6_19 : Cond.methodLinkNest RX6 19 yX11_within "EngineCell" ∈ lw_tbl := lw_in2 (List.mem_of_getElem? (i := 119) rfl)
set_option maxRecDepth 20000 in
theorem hM_X11_118 : Cond.methodLink RX11 118 yX6_add ∈ lw_g := lw_gg (lw_in2 (List.mem_of_getElem? (i := 120) rfl)) rfl
set_option maxRecDepth 20000 in
theorem hI_X6_add : Cond.instanceMethod yX6_add ∈ lw_g := lw_gg (lw_in2 (List.mem_of_getElem? (i := 121) rfl)) rfl
set_option maxRecDepth 20000 in
theorem hS_X6_add : Cond.selects RX6 yX6_add yX6_add ∈ lw_g := lw_gg (lw_in2 (List.mem_of_getElem? (i := 122) rfl)) rfl
set_option maxRecDepth 20000 in
theorem hC_X6_add : Cond.code yX6_add cX6_add 6 none ∈ lw_g := lw_gg (lw_in2 (List.mem_of_getElem? (i := 123) rfl)) rfl
set_option maxRecDepth 20000 in
theorem hM_L_33 : Cond.methodLink RL 33 yX11_load ∈ lw_g := lw_gg (lw_in2 (List.mem_of_getElem? (i := 124) rfl)) rfl
set_option maxRecDepth 20000 in
theorem hI_X11_load : Cond.instanceMethod yX11_load ∈ lw_g := lw_gg (lw_in2 (List.mem_of_getElem? (i := 125) rfl)) rfl
set_option maxRecDepth 20000 in
theorem hS_X11_load : Cond.selects RX11 yX11_load yX11_load ∈ lw_g := lw_gg (lw_in2 (List.mem_of_getElem? (i := 126) rfl)) rfl
set_option maxRecDepth 20000 in
theorem hC_X11_load : Cond.code yX11_load cX11_load 7 (some .int) ∈ lw_g := lw_gg (lw_in2 (List.mem_of_getElem? (i := 127) rfl)) rfl
set_option maxRecDepth 20000 in
theorem hM_X11_122 : Cond.methodLink RX11 122 yX11_findSheet ∈ lw_g := lw_gg (lw_in2 (List.mem_of_getElem? (i := 128) rfl)) rfl
set_option maxRecDepth 20000 in
theorem hI_X11_findSheet : Cond.instanceMethod yX11_findSheet ∈ lw_g := lw_gg (lw_in2 (List.mem_of_getElem? (i := 130) rfl)) rfl
set_option maxRecDepth 20000 in
theorem hC_X11_findSheet : Cond.code yX11_findSheet cX11_findSheet 2 (some (.object "EngineCell$Sheet")) ∈ lw_g := lw_gg (lw_in2 (List.mem_of_getElem? (i := 131) rfl)) rfl
set_option maxRecDepth 20000 in
theorem hM_X11_126 : Cond.methodLink RX11 126 yX9_faultAs ∈ lw_g := lw_gg (lw_in2 (List.mem_of_getElem? (i := 132) rfl)) rfl
set_option maxRecDepth 20000 in
theorem hI_X9_faultAs : Cond.instanceMethod yX9_faultAs ∈ lw_g := lw_gg (lw_in2 (List.mem_of_getElem? (i := 133) rfl)) rfl
set_option maxRecDepth 20000 in
theorem hS_X9_faultAs : Cond.selects RX9 yX9_faultAs yX9_faultAs ∈ lw_g := lw_gg (lw_in2 (List.mem_of_getElem? (i := 134) rfl)) rfl
set_option maxRecDepth 20000 in
theorem hC_X9_faultAs : Cond.code yX9_faultAs cX9_faultAs 2 (some .int) ∈ lw_g := lw_gg (lw_in2 (List.mem_of_getElem? (i := 135) rfl)) rfl
set_option maxRecDepth 20000 in
theorem hK_X11_129 : Cond.constantLong RX11 129 (4) ∈ lw_g := lw_gg (lw_in2 (List.mem_of_getElem? (i := 136) rfl)) rfl
set_option maxRecDepth 20000 in
theorem hM_X11_131 : Cond.methodLink RX11 131 yX9_faultFrom ∈ lw_g := lw_gg (lw_in2 (List.mem_of_getElem? (i := 137) rfl)) rfl
set_option maxRecDepth 20000 in
theorem hI_X9_faultFrom : Cond.instanceMethod yX9_faultFrom ∈ lw_g := lw_gg (lw_in2 (List.mem_of_getElem? (i := 138) rfl)) rfl
set_option maxRecDepth 20000 in
theorem hS_X9_faultFrom : Cond.selects RX9 yX9_faultFrom yX9_faultFrom ∈ lw_g := lw_gg (lw_in2 (List.mem_of_getElem? (i := 139) rfl)) rfl
set_option maxRecDepth 20000 in
theorem hC_X9_faultFrom : Cond.code yX9_faultFrom cX9_faultFrom 4 (some .int) ∈ lw_g := lw_gg (lw_in2 (List.mem_of_getElem? (i := 140) rfl)) rfl
set_option maxRecDepth 20000 in
theorem hM_X11_135 : Cond.methodLink RX11 135 yX11_faulted ∈ lw_g := lw_gg (lw_in2 (List.mem_of_getElem? (i := 141) rfl)) rfl
set_option maxRecDepth 20000 in
theorem hI_X11_faulted : Cond.instanceMethod yX11_faulted ∈ lw_g := lw_gg (lw_in2 (List.mem_of_getElem? (i := 143) rfl)) rfl
set_option maxRecDepth 20000 in
theorem hC_X11_faulted : Cond.code yX11_faulted cX11_faulted 2 (some .int) ∈ lw_g := lw_gg (lw_in2 (List.mem_of_getElem? (i := 144) rfl)) rfl
set_option maxRecDepth 20000 in
theorem hM_X11_138 : Cond.methodLink RX11 138 yX6_fitAll ∈ lw_g := lw_gg (lw_in2 (List.mem_of_getElem? (i := 145) rfl)) rfl
set_option maxRecDepth 20000 in
theorem hI_X6_fitAll : Cond.instanceMethod yX6_fitAll ∈ lw_g := lw_gg (lw_in2 (List.mem_of_getElem? (i := 146) rfl)) rfl
set_option maxRecDepth 20000 in
theorem hS_X6_fitAll : Cond.selects RX6 yX6_fitAll yX6_fitAll ∈ lw_g := lw_gg (lw_in2 (List.mem_of_getElem? (i := 147) rfl)) rfl
set_option maxRecDepth 20000 in
theorem hC_X6_fitAll : Cond.code yX6_fitAll cX6_fitAll 6 (some .boolean) ∈ lw_g := lw_gg (lw_in2 (List.mem_of_getElem? (i := 148) rfl)) rfl
set_option maxRecDepth 20000 in
theorem hM_X6_23 : Cond.methodLink RX6 23 yX9_cell ∈ lw_g := lw_gg (lw_in2 (List.mem_of_getElem? (i := 149) rfl)) rfl
set_option maxRecDepth 20000 in
theorem hI_X9_cell : Cond.instanceMethod yX9_cell ∈ lw_g := lw_gg (lw_in2 (List.mem_of_getElem? (i := 150) rfl)) rfl
set_option maxRecDepth 20000 in
theorem hS_X9_cell : Cond.selects RX9 yX9_cell yX9_cell ∈ lw_g := lw_gg (lw_in2 (List.mem_of_getElem? (i := 151) rfl)) rfl
set_option maxRecDepth 20000 in
theorem hC_X9_cell : Cond.code yX9_cell cX9_cell 2 (some .int) ∈ lw_g := lw_gg (lw_in2 (List.mem_of_getElem? (i := 152) rfl)) rfl
set_option maxRecDepth 20000 in
theorem hN_X9_26 : Cond.methodLinkNest RX9 26 yX11_within "EngineCell" ∈ lw_tbl := lw_in2 (List.mem_of_getElem? (i := 153) rfl)
set_option maxRecDepth 20000 in
theorem hM_X6_29 : Cond.methodLink RX6 29 yX6_fits ∈ lw_g := lw_gg (lw_in2 (List.mem_of_getElem? (i := 154) rfl)) rfl
set_option maxRecDepth 20000 in
theorem hM_X11_142 : Cond.methodLink RX11 142 yX6_addAll ∈ lw_g := lw_gg (lw_in2 (List.mem_of_getElem? (i := 155) rfl)) rfl
set_option maxRecDepth 20000 in
theorem hI_X6_addAll : Cond.instanceMethod yX6_addAll ∈ lw_g := lw_gg (lw_in2 (List.mem_of_getElem? (i := 156) rfl)) rfl
set_option maxRecDepth 20000 in
theorem hS_X6_addAll : Cond.selects RX6 yX6_addAll yX6_addAll ∈ lw_g := lw_gg (lw_in2 (List.mem_of_getElem? (i := 157) rfl)) rfl
set_option maxRecDepth 20000 in
theorem hC_X6_addAll : Cond.code yX6_addAll cX6_addAll 6 none ∈ lw_g := lw_gg (lw_in2 (List.mem_of_getElem? (i := 158) rfl)) rfl
set_option maxRecDepth 20000 in
theorem hM_X6_33 : Cond.methodLink RX6 33 yX6_add ∈ lw_g := lw_gg (lw_in2 (List.mem_of_getElem? (i := 159) rfl)) rfl
set_option maxRecDepth 20000 in
theorem hM_L_37 : Cond.methodLink RL 37 yX11_clear ∈ lw_g := lw_gg (lw_in2 (List.mem_of_getElem? (i := 160) rfl)) rfl
set_option maxRecDepth 20000 in
theorem hI_X11_clear : Cond.instanceMethod yX11_clear ∈ lw_g := lw_gg (lw_in2 (List.mem_of_getElem? (i := 161) rfl)) rfl
set_option maxRecDepth 20000 in
theorem hS_X11_clear : Cond.selects RX11 yX11_clear yX11_clear ∈ lw_g := lw_gg (lw_in2 (List.mem_of_getElem? (i := 162) rfl)) rfl
set_option maxRecDepth 20000 in
theorem hC_X11_clear : Cond.code yX11_clear cX11_clear 2 (some .int) ∈ lw_g := lw_gg (lw_in2 (List.mem_of_getElem? (i := 163) rfl)) rfl
set_option maxRecDepth 20000 in
theorem hM_L_42 : Cond.methodLink RL 42 yX11_stepped ∈ lw_g := lw_gg (lw_in2 (List.mem_of_getElem? (i := 164) rfl)) rfl
set_option maxRecDepth 20000 in
theorem hI_X11_stepped : Cond.instanceMethod yX11_stepped ∈ lw_g := lw_gg (lw_in2 (List.mem_of_getElem? (i := 165) rfl)) rfl
set_option maxRecDepth 20000 in
theorem hS_X11_stepped : Cond.selects RX11 yX11_stepped yX11_stepped ∈ lw_g := lw_gg (lw_in2 (List.mem_of_getElem? (i := 166) rfl)) rfl
set_option maxRecDepth 20000 in
theorem hC_X11_stepped : Cond.code yX11_stepped cX11_stepped 3 (some .int) ∈ lw_g := lw_gg (lw_in2 (List.mem_of_getElem? (i := 167) rfl)) rfl
set_option maxRecDepth 20000 in
theorem hM_X11_146 : Cond.methodLink RX11 146 yX6_has ∈ lw_g := lw_gg (lw_in2 (List.mem_of_getElem? (i := 168) rfl)) rfl
set_option maxRecDepth 20000 in
theorem hI_X6_has : Cond.instanceMethod yX6_has ∈ lw_g := lw_gg (lw_in2 (List.mem_of_getElem? (i := 169) rfl)) rfl
set_option maxRecDepth 20000 in
theorem hS_X6_has : Cond.selects RX6 yX6_has yX6_has ∈ lw_g := lw_gg (lw_in2 (List.mem_of_getElem? (i := 170) rfl)) rfl
set_option maxRecDepth 20000 in
theorem hC_X6_has : Cond.code yX6_has cX6_has 2 (some .boolean) ∈ lw_g := lw_gg (lw_in2 (List.mem_of_getElem? (i := 171) rfl)) rfl
set_option maxRecDepth 20000 in
theorem hM_X11_150 : Cond.methodLink RX11 150 yX6_cell ∈ lw_g := lw_gg (lw_in2 (List.mem_of_getElem? (i := 172) rfl)) rfl
set_option maxRecDepth 20000 in
theorem hI_X6_cell : Cond.instanceMethod yX6_cell ∈ lw_g := lw_gg (lw_in2 (List.mem_of_getElem? (i := 173) rfl)) rfl
set_option maxRecDepth 20000 in
theorem hS_X6_cell : Cond.selects RX6 yX6_cell yX6_cell ∈ lw_g := lw_gg (lw_in2 (List.mem_of_getElem? (i := 174) rfl)) rfl
set_option maxRecDepth 20000 in
theorem hC_X6_cell : Cond.code yX6_cell cX6_cell 3 (some .int) ∈ lw_g := lw_gg (lw_in2 (List.mem_of_getElem? (i := 175) rfl)) rfl
set_option maxRecDepth 20000 in
theorem hM_L_46 : Cond.methodLink RL 46 yX11_start ∈ lw_g := lw_gg (lw_in2 (List.mem_of_getElem? (i := 176) rfl)) rfl
set_option maxRecDepth 20000 in
theorem hI_X11_start : Cond.instanceMethod yX11_start ∈ lw_g := lw_gg (lw_in2 (List.mem_of_getElem? (i := 177) rfl)) rfl
set_option maxRecDepth 20000 in
theorem hS_X11_start : Cond.selects RX11 yX11_start yX11_start ∈ lw_g := lw_gg (lw_in2 (List.mem_of_getElem? (i := 178) rfl)) rfl
set_option maxRecDepth 20000 in
theorem hC_X11_start : Cond.code yX11_start cX11_start 1 (some .int) ∈ lw_g := lw_gg (lw_in2 (List.mem_of_getElem? (i := 179) rfl)) rfl
set_option maxRecDepth 20000 in
theorem hM_X11_153 : Cond.methodLink RX11 153 yX8_begin ∈ lw_g := lw_gg (lw_in2 (List.mem_of_getElem? (i := 180) rfl)) rfl
set_option maxRecDepth 20000 in
theorem hI_X8_begin : Cond.instanceMethod yX8_begin ∈ lw_g := lw_gg (lw_in2 (List.mem_of_getElem? (i := 181) rfl)) rfl
set_option maxRecDepth 20000 in
theorem hS_X8_begin : Cond.selects RX8 yX8_begin yX8_begin ∈ lw_g := lw_gg (lw_in2 (List.mem_of_getElem? (i := 182) rfl)) rfl
set_option maxRecDepth 20000 in
theorem hC_X8_begin : Cond.code yX8_begin cX8_begin 2 none ∈ lw_g := lw_gg (lw_in2 (List.mem_of_getElem? (i := 183) rfl)) rfl
set_option maxRecDepth 20000 in
theorem hM_X8_59 : Cond.methodLink RX8 59 yX8_comeTo ∈ lw_g := lw_gg (lw_in2 (List.mem_of_getElem? (i := 184) rfl)) rfl
set_option maxRecDepth 20000 in
theorem hI_X8_comeTo : Cond.instanceMethod yX8_comeTo ∈ lw_g := lw_gg (lw_in2 (List.mem_of_getElem? (i := 186) rfl)) rfl
set_option maxRecDepth 20000 in
theorem hC_X8_comeTo : Cond.code yX8_comeTo cX8_comeTo 2 none ∈ lw_g := lw_gg (lw_in2 (List.mem_of_getElem? (i := 187) rfl)) rfl
set_option maxRecDepth 20000 in
theorem hM_L_50 : Cond.methodLink RL 50 yX11_tick ∈ lw_g := lw_gg (lw_in2 (List.mem_of_getElem? (i := 188) rfl)) rfl
set_option maxRecDepth 20000 in
theorem hI_X11_tick : Cond.instanceMethod yX11_tick ∈ lw_g := lw_gg (lw_in2 (List.mem_of_getElem? (i := 189) rfl)) rfl
set_option maxRecDepth 20000 in
theorem hS_X11_tick : Cond.selects RX11 yX11_tick yX11_tick ∈ lw_g := lw_gg (lw_in2 (List.mem_of_getElem? (i := 190) rfl)) rfl
set_option maxRecDepth 20000 in
theorem hC_X11_tick : Cond.code yX11_tick cX11_tick 3 (some .int) ∈ lw_g := lw_gg (lw_in2 (List.mem_of_getElem? (i := 191) rfl)) rfl
set_option maxRecDepth 20000 in
theorem hM_X11_156 : Cond.methodLink RX11 156 yX8_isGoing ∈ lw_g := lw_gg (lw_in2 (List.mem_of_getElem? (i := 192) rfl)) rfl
set_option maxRecDepth 20000 in
theorem hI_X8_isGoing : Cond.instanceMethod yX8_isGoing ∈ lw_g := lw_gg (lw_in2 (List.mem_of_getElem? (i := 193) rfl)) rfl
set_option maxRecDepth 20000 in
theorem hS_X8_isGoing : Cond.selects RX8 yX8_isGoing yX8_isGoing ∈ lw_g := lw_gg (lw_in2 (List.mem_of_getElem? (i := 194) rfl)) rfl
set_option maxRecDepth 20000 in
theorem hC_X8_isGoing : Cond.code yX8_isGoing cX8_isGoing 1 (some .boolean) ∈ lw_g := lw_gg (lw_in2 (List.mem_of_getElem? (i := 195) rfl)) rfl
set_option maxRecDepth 20000 in
theorem hM_X11_162 : Cond.methodLink RX11 162 yX8_oneTick ∈ lw_g := lw_gg (lw_in2 (List.mem_of_getElem? (i := 196) rfl)) rfl
set_option maxRecDepth 20000 in
theorem hI_X8_oneTick : Cond.instanceMethod yX8_oneTick ∈ lw_g := lw_gg (lw_in2 (List.mem_of_getElem? (i := 197) rfl)) rfl
set_option maxRecDepth 20000 in
theorem hS_X8_oneTick : Cond.selects RX8 yX8_oneTick yX8_oneTick ∈ lw_g := lw_gg (lw_in2 (List.mem_of_getElem? (i := 198) rfl)) rfl
set_option maxRecDepth 20000 in
theorem hC_X8_oneTick : Cond.code yX8_oneTick cX8_oneTick 1 none ∈ lw_g := lw_gg (lw_in2 (List.mem_of_getElem? (i := 199) rfl)) rfl
set_option maxRecDepth 20000 in
theorem hM_X8_63 : Cond.methodLink RX8 63 yX3_latest ∈ lw_g := lw_gg (lw_in2 (List.mem_of_getElem? (i := 200) rfl)) rfl
set_option maxRecDepth 20000 in
theorem hI_X3_latest : Cond.instanceMethod yX3_latest ∈ lw_g := lw_gg (lw_in2 (List.mem_of_getElem? (i := 201) rfl)) rfl
set_option maxRecDepth 20000 in
theorem hS_X3_latest : Cond.selects RX3 yX3_latest yX3_latest ∈ lw_g := lw_gg (lw_in2 (List.mem_of_getElem? (i := 202) rfl)) rfl
set_option maxRecDepth 20000 in
theorem hC_X3_latest : Cond.code yX3_latest cX3_latest 2 (some .int) ∈ lw_g := lw_gg (lw_in2 (List.mem_of_getElem? (i := 203) rfl)) rfl
set_option maxRecDepth 20000 in
theorem hM_X3_45 : Cond.methodLink RX3 45 yX3_part ∈ lw_g := lw_gg (lw_in2 (List.mem_of_getElem? (i := 204) rfl)) rfl
set_option maxRecDepth 20000 in
theorem hI_X3_part : Cond.instanceMethod yX3_part ∈ lw_g := lw_gg (lw_in2 (List.mem_of_getElem? (i := 205) rfl)) rfl
set_option maxRecDepth 20000 in
theorem hS_X3_part : Cond.selects RX3 yX3_part yX3_part ∈ lw_g := lw_gg (lw_in2 (List.mem_of_getElem? (i := 206) rfl)) rfl
set_option maxRecDepth 20000 in
theorem hC_X3_part : Cond.code yX3_part cX3_part 3 (some .int) ∈ lw_g := lw_gg (lw_in2 (List.mem_of_getElem? (i := 207) rfl)) rfl
set_option maxRecDepth 20000 in
theorem hM_X8_69 : Cond.methodLink RX8 69 yX8_goOn ∈ lw_g := lw_gg (lw_in2 (List.mem_of_getElem? (i := 208) rfl)) rfl
set_option maxRecDepth 20000 in
theorem hI_X8_goOn : Cond.instanceMethod yX8_goOn ∈ lw_g := lw_gg (lw_in2 (List.mem_of_getElem? (i := 210) rfl)) rfl
set_option maxRecDepth 20000 in
theorem hC_X8_goOn : Cond.code yX8_goOn cX8_goOn 2 none ∈ lw_g := lw_gg (lw_in2 (List.mem_of_getElem? (i := 211) rfl)) rfl
set_option maxRecDepth 20000 in
theorem hM_X8_85 : Cond.methodLink RX8 85 yX8_halt ∈ lw_g := lw_gg (lw_in2 (List.mem_of_getElem? (i := 212) rfl)) rfl
set_option maxRecDepth 20000 in
theorem hI_X8_halt : Cond.instanceMethod yX8_halt ∈ lw_g := lw_gg (lw_in2 (List.mem_of_getElem? (i := 213) rfl)) rfl
set_option maxRecDepth 20000 in
theorem hS_X8_halt : Cond.selects RX8 yX8_halt yX8_halt ∈ lw_g := lw_gg (lw_in2 (List.mem_of_getElem? (i := 214) rfl)) rfl
set_option maxRecDepth 20000 in
theorem hC_X8_halt : Cond.code yX8_halt cX8_halt 2 none ∈ lw_g := lw_gg (lw_in2 (List.mem_of_getElem? (i := 215) rfl)) rfl
set_option maxRecDepth 20000 in
theorem hM_X8_93 : Cond.methodLink RX8 93 yX6_cell ∈ lw_g := lw_gg (lw_in2 (List.mem_of_getElem? (i := 216) rfl)) rfl
set_option maxRecDepth 20000 in
theorem hM_X8_97 : Cond.methodLink RX8 97 yX8_spend ∈ lw_g := lw_gg (lw_in2 (List.mem_of_getElem? (i := 217) rfl)) rfl
set_option maxRecDepth 20000 in
theorem hI_X8_spend : Cond.instanceMethod yX8_spend ∈ lw_g := lw_gg (lw_in2 (List.mem_of_getElem? (i := 219) rfl)) rfl
set_option maxRecDepth 20000 in
theorem hC_X8_spend : Cond.code yX8_spend cX8_spend 1 none ∈ lw_g := lw_gg (lw_in2 (List.mem_of_getElem? (i := 220) rfl)) rfl
set_option maxRecDepth 20000 in
theorem hM_X8_100 : Cond.methodLink RX8 100 yX8_ramp ∈ lw_g := lw_gg (lw_in2 (List.mem_of_getElem? (i := 221) rfl)) rfl
set_option maxRecDepth 20000 in
theorem hI_X8_ramp : Cond.instanceMethod yX8_ramp ∈ lw_g := lw_gg (lw_in2 (List.mem_of_getElem? (i := 223) rfl)) rfl
set_option maxRecDepth 20000 in
theorem hC_X8_ramp : Cond.code yX8_ramp cX8_ramp 3 none ∈ lw_g := lw_gg (lw_in2 (List.mem_of_getElem? (i := 224) rfl)) rfl
set_option maxRecDepth 20000 in
theorem hM_X8_103 : Cond.methodLink RX8 103 yX8_isWaitOver ∈ lw_g := lw_gg (lw_in2 (List.mem_of_getElem? (i := 225) rfl)) rfl
set_option maxRecDepth 20000 in
theorem hI_X8_isWaitOver : Cond.instanceMethod yX8_isWaitOver ∈ lw_g := lw_gg (lw_in2 (List.mem_of_getElem? (i := 227) rfl)) rfl
set_option maxRecDepth 20000 in
theorem hC_X8_isWaitOver : Cond.code yX8_isWaitOver cX8_isWaitOver 4 (some .boolean) ∈ lw_g := lw_gg (lw_in2 (List.mem_of_getElem? (i := 228) rfl)) rfl
set_option maxRecDepth 20000 in
theorem hM_X8_115 : Cond.methodLink RX8 115 yX2_find ∈ lw_g := lw_gg (lw_in2 (List.mem_of_getElem? (i := 229) rfl)) rfl
set_option maxRecDepth 20000 in
theorem hI_X2_find : Cond.instanceMethod yX2_find ∈ lw_g := lw_gg (lw_in2 (List.mem_of_getElem? (i := 230) rfl)) rfl
set_option maxRecDepth 20000 in
theorem hS_X2_find : Cond.selects RX2 yX2_find yX2_find ∈ lw_g := lw_gg (lw_in2 (List.mem_of_getElem? (i := 231) rfl)) rfl
set_option maxRecDepth 20000 in
theorem hC_X2_find : Cond.code yX2_find cX2_find 2 (some (.object "EngineCell$Channel")) ∈ lw_g := lw_gg (lw_in2 (List.mem_of_getElem? (i := 232) rfl)) rfl
set_option maxRecDepth 20000 in
theorem hM_X2_39 : Cond.methodLink RX2 39 yJ9_min_7cf53 ∈ lw_g := lw_gg (lw_in2 (List.mem_of_getElem? (i := 233) rfl)) rfl
set_option maxRecDepth 20000 in
theorem hN_X2_35 : Cond.methodLinkNest RX2 35 yX11_within "EngineCell" ∈ lw_tbl := lw_in2 (List.mem_of_getElem? (i := 234) rfl)
set_option maxRecDepth 20000 in
theorem hM_X8_119 : Cond.methodLink RX8 119 yX1_latestAt ∈ lw_g := lw_gg (lw_in2 (List.mem_of_getElem? (i := 235) rfl)) rfl
set_option maxRecDepth 20000 in
theorem hI_X1_latestAt : Cond.instanceMethod yX1_latestAt ∈ lw_g := lw_gg (lw_in2 (List.mem_of_getElem? (i := 236) rfl)) rfl
set_option maxRecDepth 20000 in
theorem hS_X1_latestAt : Cond.selects RX1 yX1_latestAt yX1_latestAt ∈ lw_g := lw_gg (lw_in2 (List.mem_of_getElem? (i := 237) rfl)) rfl
set_option maxRecDepth 20000 in
theorem hC_X1_latestAt : Cond.code yX1_latestAt cX1_latestAt 2 (some .int) ∈ lw_g := lw_gg (lw_in2 (List.mem_of_getElem? (i := 238) rfl)) rfl
set_option maxRecDepth 20000 in
theorem hM_X8_124 : Cond.methodLink RX8 124 yX2_value ∈ lw_g := lw_gg (lw_in2 (List.mem_of_getElem? (i := 239) rfl)) rfl
set_option maxRecDepth 20000 in
theorem hI_X2_value : Cond.instanceMethod yX2_value ∈ lw_g := lw_gg (lw_in3 (List.mem_of_getElem? (i := 0) rfl)) rfl
set_option maxRecDepth 20000 in
theorem hS_X2_value : Cond.selects RX2 yX2_value yX2_value ∈ lw_g := lw_gg (lw_in3 (List.mem_of_getElem? (i := 1) rfl)) rfl
set_option maxRecDepth 20000 in
theorem hC_X2_value : Cond.code yX2_value cX2_value 5 (some .long) ∈ lw_g := lw_gg (lw_in3 (List.mem_of_getElem? (i := 2) rfl)) rfl
set_option maxRecDepth 20000 in
theorem hM_X2_69 : Cond.methodLink RX2 69 yX2_isLost ∈ lw_g := lw_gg (lw_in3 (List.mem_of_getElem? (i := 3) rfl)) rfl
set_option maxRecDepth 20000 in
theorem hI_X2_isLost : Cond.instanceMethod yX2_isLost ∈ lw_g := lw_gg (lw_in3 (List.mem_of_getElem? (i := 4) rfl)) rfl
set_option maxRecDepth 20000 in
theorem hS_X2_isLost : Cond.selects RX2 yX2_isLost yX2_isLost ∈ lw_g := lw_gg (lw_in3 (List.mem_of_getElem? (i := 5) rfl)) rfl
set_option maxRecDepth 20000 in
theorem hC_X2_isLost : Cond.code yX2_isLost cX2_isLost 3 (some .boolean) ∈ lw_g := lw_gg (lw_in3 (List.mem_of_getElem? (i := 6) rfl)) rfl
set_option maxRecDepth 20000 in
theorem hM_X2_51 : Cond.methodLink RX2 51 yX10_covers ∈ lw_g := lw_gg (lw_in3 (List.mem_of_getElem? (i := 7) rfl)) rfl
set_option maxRecDepth 20000 in
theorem hI_X10_covers : Cond.instanceMethod yX10_covers ∈ lw_g := lw_gg (lw_in3 (List.mem_of_getElem? (i := 8) rfl)) rfl
set_option maxRecDepth 20000 in
theorem hS_X10_covers : Cond.selects RX10 yX10_covers yX10_covers ∈ lw_g := lw_gg (lw_in3 (List.mem_of_getElem? (i := 9) rfl)) rfl
set_option maxRecDepth 20000 in
theorem hC_X10_covers : Cond.code yX10_covers cX10_covers 4 (some .boolean) ∈ lw_g := lw_gg (lw_in3 (List.mem_of_getElem? (i := 10) rfl)) rfl
set_option maxRecDepth 20000 in
theorem hK_X2_73 : Cond.constantLong RX2 73 (-9223372036854775808) ∈ lw_g := lw_gg (lw_in3 (List.mem_of_getElem? (i := 11) rfl)) rfl
set_option maxRecDepth 20000 in
theorem hM_X2_58 : Cond.methodLink RX2 58 yX3_part ∈ lw_g := lw_gg (lw_in3 (List.mem_of_getElem? (i := 12) rfl)) rfl
set_option maxRecDepth 20000 in
theorem hM_X2_75 : Cond.methodLink RX2 75 yJ9_max_7cf53 ∈ lw_g := lw_gg (lw_in3 (List.mem_of_getElem? (i := 13) rfl)) rfl
set_option maxRecDepth 20000 in
theorem hT_J9_max_7cf53 : Cond.static yJ9_max_7cf53 ∈ lw_g := lw_gg (lw_in3 (List.mem_of_getElem? (i := 14) rfl)) rfl
set_option maxRecDepth 20000 in
theorem hC_J9_max_7cf53 : Cond.code yJ9_max_7cf53 cJ9_max_7cf53 2 (some .int) ∈ lw_g := lw_gg (lw_in3 (List.mem_of_getElem? (i := 15) rfl)) rfl
set_option maxRecDepth 20000 in
theorem hM_X2_78 : Cond.methodLink RX2 78 yX10_apply ∈ lw_g := lw_gg (lw_in3 (List.mem_of_getElem? (i := 16) rfl)) rfl
set_option maxRecDepth 20000 in
theorem hI_X10_apply : Cond.instanceMethod yX10_apply ∈ lw_g := lw_gg (lw_in3 (List.mem_of_getElem? (i := 17) rfl)) rfl
set_option maxRecDepth 20000 in
theorem hS_X10_apply : Cond.selects RX10 yX10_apply yX10_apply ∈ lw_g := lw_gg (lw_in3 (List.mem_of_getElem? (i := 18) rfl)) rfl
set_option maxRecDepth 20000 in
theorem hC_X10_apply : Cond.code yX10_apply cX10_apply 5 (some .int) ∈ lw_g := lw_gg (lw_in3 (List.mem_of_getElem? (i := 19) rfl)) rfl
set_option maxRecDepth 20000 in
theorem hM_X10_32 : Cond.methodLink RX10 32 yJ9_min_7cf53 ∈ lw_g := lw_gg (lw_in3 (List.mem_of_getElem? (i := 20) rfl)) rfl
set_option maxRecDepth 20000 in
theorem hK_X8_128 : Cond.constantLong RX8 128 (-9223372036854775808) ∈ lw_g := lw_gg (lw_in3 (List.mem_of_getElem? (i := 21) rfl)) rfl
set_option maxRecDepth 20000 in
theorem hM_X8_107 : Cond.methodLink RX8 107 yX8_loop ∈ lw_g := lw_gg (lw_in3 (List.mem_of_getElem? (i := 22) rfl)) rfl
set_option maxRecDepth 20000 in
theorem hI_X8_loop : Cond.instanceMethod yX8_loop ∈ lw_g := lw_gg (lw_in3 (List.mem_of_getElem? (i := 24) rfl)) rfl
set_option maxRecDepth 20000 in
theorem hC_X8_loop : Cond.code yX8_loop cX8_loop 1 none ∈ lw_g := lw_gg (lw_in3 (List.mem_of_getElem? (i := 25) rfl)) rfl
set_option maxRecDepth 20000 in
theorem hN_X8_130 : Cond.methodLinkNest RX8 130 yX11_within "EngineCell" ∈ lw_tbl := lw_in3 (List.mem_of_getElem? (i := 26) rfl)
set_option maxRecDepth 20000 in
theorem hM_X8_110 : Cond.methodLink RX8 110 yX5_add ∈ lw_g := lw_gg (lw_in3 (List.mem_of_getElem? (i := 27) rfl)) rfl
set_option maxRecDepth 20000 in
theorem hI_X5_add : Cond.instanceMethod yX5_add ∈ lw_g := lw_gg (lw_in3 (List.mem_of_getElem? (i := 28) rfl)) rfl
set_option maxRecDepth 20000 in
theorem hS_X5_add : Cond.selects RX5 yX5_add yX5_add ∈ lw_g := lw_gg (lw_in3 (List.mem_of_getElem? (i := 29) rfl)) rfl
set_option maxRecDepth 20000 in
theorem hC_X5_add : Cond.code yX5_add cX5_add 2 none ∈ lw_g := lw_gg (lw_in3 (List.mem_of_getElem? (i := 30) rfl)) rfl
set_option maxRecDepth 20000 in
theorem hN_X5_19 : Cond.methodLinkNest RX5 19 yX11_within "EngineCell" ∈ lw_tbl := lw_in3 (List.mem_of_getElem? (i := 31) rfl)
set_option maxRecDepth 20000 in
theorem hM_X8_72 : Cond.methodLink RX8 72 yX3_advance ∈ lw_g := lw_gg (lw_in3 (List.mem_of_getElem? (i := 32) rfl)) rfl
set_option maxRecDepth 20000 in
theorem hI_X3_advance : Cond.instanceMethod yX3_advance ∈ lw_g := lw_gg (lw_in3 (List.mem_of_getElem? (i := 33) rfl)) rfl
set_option maxRecDepth 20000 in
theorem hS_X3_advance : Cond.selects RX3 yX3_advance yX3_advance ∈ lw_g := lw_gg (lw_in3 (List.mem_of_getElem? (i := 34) rfl)) rfl
set_option maxRecDepth 20000 in
theorem hC_X3_advance : Cond.code yX3_advance cX3_advance 10 none ∈ lw_g := lw_gg (lw_in3 (List.mem_of_getElem? (i := 35) rfl)) rfl
set_option maxRecDepth 20000 in
theorem hM_X3_48 : Cond.methodLink RX3 48 yX3_latest ∈ lw_g := lw_gg (lw_in3 (List.mem_of_getElem? (i := 36) rfl)) rfl
set_option maxRecDepth 20000 in
theorem hM_X3_51 : Cond.methodLink RX3 51 yX3_change ∈ lw_g := lw_gg (lw_in3 (List.mem_of_getElem? (i := 37) rfl)) rfl
set_option maxRecDepth 20000 in
theorem hI_X3_change : Cond.instanceMethod yX3_change ∈ lw_g := lw_gg (lw_in3 (List.mem_of_getElem? (i := 39) rfl)) rfl
set_option maxRecDepth 20000 in
theorem hC_X3_change : Cond.code yX3_change cX3_change 4 (some .int) ∈ lw_g := lw_gg (lw_in3 (List.mem_of_getElem? (i := 40) rfl)) rfl
set_option maxRecDepth 20000 in
theorem hM_X3_60 : Cond.methodLink RX3 60 yJ6_compare_7cf53 ∈ lw_g := lw_gg (lw_in3 (List.mem_of_getElem? (i := 41) rfl)) rfl
set_option maxRecDepth 20000 in
theorem hT_J6_compare_7cf53 : Cond.static yJ6_compare_7cf53 ∈ lw_g := lw_gg (lw_in3 (List.mem_of_getElem? (i := 42) rfl)) rfl
set_option maxRecDepth 20000 in
theorem hC_J6_compare_7cf53 : Cond.code yJ6_compare_7cf53 cJ6_compare_7cf53 2 (some .int) ∈ lw_g := lw_gg (lw_in3 (List.mem_of_getElem? (i := 43) rfl)) rfl
set_option maxRecDepth 20000 in
theorem hM_X3_54 : Cond.methodLink RX3 54 yX3_torqueAt ∈ lw_g := lw_gg (lw_in3 (List.mem_of_getElem? (i := 44) rfl)) rfl
set_option maxRecDepth 20000 in
theorem hM_X3_57 : Cond.methodLink RX3 57 yJ9_max_7cf53 ∈ lw_g := lw_gg (lw_in3 (List.mem_of_getElem? (i := 45) rfl)) rfl
set_option maxRecDepth 20000 in
theorem hM_X8_79 : Cond.methodLink RX8 79 yX2_isOneAbove ∈ lw_g := lw_gg (lw_in3 (List.mem_of_getElem? (i := 46) rfl)) rfl
set_option maxRecDepth 20000 in
theorem hI_X2_isOneAbove : Cond.instanceMethod yX2_isOneAbove ∈ lw_g := lw_gg (lw_in3 (List.mem_of_getElem? (i := 47) rfl)) rfl
set_option maxRecDepth 20000 in
theorem hS_X2_isOneAbove : Cond.selects RX2 yX2_isOneAbove yX2_isOneAbove ∈ lw_g := lw_gg (lw_in3 (List.mem_of_getElem? (i := 48) rfl)) rfl
set_option maxRecDepth 20000 in
theorem hC_X2_isOneAbove : Cond.code yX2_isOneAbove cX2_isOneAbove 6 (some .boolean) ∈ lw_g := lw_gg (lw_in3 (List.mem_of_getElem? (i := 49) rfl)) rfl
set_option maxRecDepth 20000 in
theorem hM_X2_86 : Cond.methodLink RX2 86 yX1_readsAt ∈ lw_g := lw_gg (lw_in3 (List.mem_of_getElem? (i := 50) rfl)) rfl
set_option maxRecDepth 20000 in
theorem hI_X1_readsAt : Cond.instanceMethod yX1_readsAt ∈ lw_g := lw_gg (lw_in3 (List.mem_of_getElem? (i := 51) rfl)) rfl
set_option maxRecDepth 20000 in
theorem hS_X1_readsAt : Cond.selects RX1 yX1_readsAt yX1_readsAt ∈ lw_g := lw_gg (lw_in3 (List.mem_of_getElem? (i := 52) rfl)) rfl
set_option maxRecDepth 20000 in
theorem hC_X1_readsAt : Cond.code yX1_readsAt cX1_readsAt 2 (some .boolean) ∈ lw_g := lw_gg (lw_in3 (List.mem_of_getElem? (i := 53) rfl)) rfl
set_option maxRecDepth 20000 in
theorem hM_X2_90 : Cond.methodLink RX2 90 yX2_value ∈ lw_g := lw_gg (lw_in3 (List.mem_of_getElem? (i := 54) rfl)) rfl
set_option maxRecDepth 20000 in
theorem hM_L_54 : Cond.methodLink RL 54 yX11_stop ∈ lw_g := lw_gg (lw_in3 (List.mem_of_getElem? (i := 55) rfl)) rfl
set_option maxRecDepth 20000 in
theorem hI_X11_stop : Cond.instanceMethod yX11_stop ∈ lw_g := lw_gg (lw_in3 (List.mem_of_getElem? (i := 56) rfl)) rfl
set_option maxRecDepth 20000 in
theorem hS_X11_stop : Cond.selects RX11 yX11_stop yX11_stop ∈ lw_g := lw_gg (lw_in3 (List.mem_of_getElem? (i := 57) rfl)) rfl
set_option maxRecDepth 20000 in
theorem hC_X11_stop : Cond.code yX11_stop cX11_stop 1 (some .int) ∈ lw_g := lw_gg (lw_in3 (List.mem_of_getElem? (i := 58) rfl)) rfl
set_option maxRecDepth 20000 in
theorem hM_X11_168 : Cond.methodLink RX11 168 yX8_halt ∈ lw_g := lw_gg (lw_in3 (List.mem_of_getElem? (i := 59) rfl)) rfl
set_option maxRecDepth 20000 in
theorem hM_L_58 : Cond.methodLink RL 58 yX11_reset ∈ lw_g := lw_gg (lw_in3 (List.mem_of_getElem? (i := 60) rfl)) rfl
set_option maxRecDepth 20000 in
theorem hI_X11_reset : Cond.instanceMethod yX11_reset ∈ lw_g := lw_gg (lw_in3 (List.mem_of_getElem? (i := 61) rfl)) rfl
set_option maxRecDepth 20000 in
theorem hS_X11_reset : Cond.selects RX11 yX11_reset yX11_reset ∈ lw_g := lw_gg (lw_in3 (List.mem_of_getElem? (i := 62) rfl)) rfl
set_option maxRecDepth 20000 in
theorem hC_X11_reset : Cond.code yX11_reset cX11_reset 2 (some .int) ∈ lw_g := lw_gg (lw_in3 (List.mem_of_getElem? (i := 63) rfl)) rfl
set_option maxRecDepth 20000 in
theorem hM_X11_173 : Cond.methodLink RX11 173 yX8_rest ∈ lw_g := lw_gg (lw_in3 (List.mem_of_getElem? (i := 64) rfl)) rfl
set_option maxRecDepth 20000 in
theorem hI_X8_rest : Cond.instanceMethod yX8_rest ∈ lw_g := lw_gg (lw_in3 (List.mem_of_getElem? (i := 65) rfl)) rfl
set_option maxRecDepth 20000 in
theorem hS_X8_rest : Cond.selects RX8 yX8_rest yX8_rest ∈ lw_g := lw_gg (lw_in3 (List.mem_of_getElem? (i := 66) rfl)) rfl
set_option maxRecDepth 20000 in
theorem hC_X8_rest : Cond.code yX8_rest cX8_rest 1 none ∈ lw_g := lw_gg (lw_in3 (List.mem_of_getElem? (i := 67) rfl)) rfl
set_option maxRecDepth 20000 in
theorem hM_L_62 : Cond.methodLink RL 62 yX11_told ∈ lw_g := lw_gg (lw_in3 (List.mem_of_getElem? (i := 68) rfl)) rfl
set_option maxRecDepth 20000 in
theorem hI_X11_told : Cond.instanceMethod yX11_told ∈ lw_g := lw_gg (lw_in3 (List.mem_of_getElem? (i := 69) rfl)) rfl
set_option maxRecDepth 20000 in
theorem hS_X11_told : Cond.selects RX11 yX11_told yX11_told ∈ lw_g := lw_gg (lw_in3 (List.mem_of_getElem? (i := 70) rfl)) rfl
set_option maxRecDepth 20000 in
theorem hC_X11_told : Cond.code yX11_told cX11_told 2 (some .int) ∈ lw_g := lw_gg (lw_in3 (List.mem_of_getElem? (i := 71) rfl)) rfl
set_option maxRecDepth 20000 in
theorem hM_L_66 : Cond.methodLink RL 66 yX11_was ∈ lw_g := lw_gg (lw_in3 (List.mem_of_getElem? (i := 72) rfl)) rfl
set_option maxRecDepth 20000 in
theorem hI_X11_was : Cond.instanceMethod yX11_was ∈ lw_g := lw_gg (lw_in3 (List.mem_of_getElem? (i := 73) rfl)) rfl
set_option maxRecDepth 20000 in
theorem hS_X11_was : Cond.selects RX11 yX11_was yX11_was ∈ lw_g := lw_gg (lw_in3 (List.mem_of_getElem? (i := 74) rfl)) rfl
set_option maxRecDepth 20000 in
theorem hC_X11_was : Cond.code yX11_was cX11_was 3 (some .int) ∈ lw_g := lw_gg (lw_in3 (List.mem_of_getElem? (i := 75) rfl)) rfl
set_option maxRecDepth 20000 in
theorem hM_X11_193 : Cond.methodLink RX11 193 yX3_part ∈ lw_g := lw_gg (lw_in3 (List.mem_of_getElem? (i := 76) rfl)) rfl
set_option maxRecDepth 20000 in
theorem hM_L_70 : Cond.methodLink RL 70 yX11_mark ∈ lw_g := lw_gg (lw_in3 (List.mem_of_getElem? (i := 77) rfl)) rfl
set_option maxRecDepth 20000 in
theorem hI_X11_mark : Cond.instanceMethod yX11_mark ∈ lw_g := lw_gg (lw_in3 (List.mem_of_getElem? (i := 78) rfl)) rfl
set_option maxRecDepth 20000 in
theorem hS_X11_mark : Cond.selects RX11 yX11_mark yX11_mark ∈ lw_g := lw_gg (lw_in3 (List.mem_of_getElem? (i := 79) rfl)) rfl
set_option maxRecDepth 20000 in
theorem hC_X11_mark : Cond.code yX11_mark cX11_mark 2 (some .int) ∈ lw_g := lw_gg (lw_in3 (List.mem_of_getElem? (i := 80) rfl)) rfl
set_option maxRecDepth 20000 in
theorem hM_X11_196 : Cond.methodLink RX11 196 yX5_has ∈ lw_g := lw_gg (lw_in3 (List.mem_of_getElem? (i := 81) rfl)) rfl
set_option maxRecDepth 20000 in
theorem hI_X5_has : Cond.instanceMethod yX5_has ∈ lw_g := lw_gg (lw_in3 (List.mem_of_getElem? (i := 82) rfl)) rfl
set_option maxRecDepth 20000 in
theorem hS_X5_has : Cond.selects RX5 yX5_has yX5_has ∈ lw_g := lw_gg (lw_in3 (List.mem_of_getElem? (i := 83) rfl)) rfl
set_option maxRecDepth 20000 in
theorem hC_X5_has : Cond.code yX5_has cX5_has 2 (some .boolean) ∈ lw_g := lw_gg (lw_in3 (List.mem_of_getElem? (i := 84) rfl)) rfl
set_option maxRecDepth 20000 in
theorem hM_X11_197 : Cond.methodLink RX11 197 yX5_first ∈ lw_g := lw_gg (lw_in3 (List.mem_of_getElem? (i := 85) rfl)) rfl
set_option maxRecDepth 20000 in
theorem hI_X5_first : Cond.instanceMethod yX5_first ∈ lw_g := lw_gg (lw_in3 (List.mem_of_getElem? (i := 86) rfl)) rfl
set_option maxRecDepth 20000 in
theorem hS_X5_first : Cond.selects RX5 yX5_first yX5_first ∈ lw_g := lw_gg (lw_in3 (List.mem_of_getElem? (i := 87) rfl)) rfl
set_option maxRecDepth 20000 in
theorem hC_X5_first : Cond.code yX5_first cX5_first 2 (some .int) ∈ lw_g := lw_gg (lw_in3 (List.mem_of_getElem? (i := 88) rfl)) rfl
set_option maxRecDepth 20000 in
theorem hM_L_74 : Cond.methodLink RL 74 yX11_channel ∈ lw_g := lw_gg (lw_in3 (List.mem_of_getElem? (i := 89) rfl)) rfl
set_option maxRecDepth 20000 in
theorem hI_X11_channel : Cond.instanceMethod yX11_channel ∈ lw_g := lw_gg (lw_in3 (List.mem_of_getElem? (i := 90) rfl)) rfl
set_option maxRecDepth 20000 in
theorem hS_X11_channel : Cond.selects RX11 yX11_channel yX11_channel ∈ lw_g := lw_gg (lw_in3 (List.mem_of_getElem? (i := 91) rfl)) rfl
set_option maxRecDepth 20000 in
theorem hC_X11_channel : Cond.code yX11_channel cX11_channel 6 (some .int) ∈ lw_g := lw_gg (lw_in3 (List.mem_of_getElem? (i := 92) rfl)) rfl
set_option maxRecDepth 20000 in
theorem hL_X11_200 : Cond.classLink RX11 200 RX1 ∈ lw_g := lw_gg (lw_in3 (List.mem_of_getElem? (i := 93) rfl)) rfl
set_option maxRecDepth 20000 in
theorem hB_X1 : Cond.instantiable RX1 8 ∈ lw_g := lw_gg (lw_in3 (List.mem_of_getElem? (i := 94) rfl)) rfl
set_option maxRecDepth 20000 in
theorem hM_X11_202 : Cond.methodLink RX11 202 yX1_init ∈ lw_g := lw_gg (lw_in3 (List.mem_of_getElem? (i := 95) rfl)) rfl
set_option maxRecDepth 20000 in
theorem hI_X1_init : Cond.instanceMethod yX1_init ∈ lw_g := lw_gg (lw_in3 (List.mem_of_getElem? (i := 96) rfl)) rfl
set_option maxRecDepth 20000 in
theorem hC_X1_init : Cond.code yX1_init cX1_init 7 none ∈ lw_g := lw_gg (lw_in3 (List.mem_of_getElem? (i := 97) rfl)) rfl
set_option maxRecDepth 20000 in
theorem hM_X1_1 : Cond.methodLink RX1 1 objectInit ∈ lw_g := lw_gg (lw_in3 (List.mem_of_getElem? (i := 98) rfl)) rfl
set_option maxRecDepth 20000 in
theorem hF_X1_17 : Cond.fieldLink RX1 17 "EngineCell$Channel" "number" "I" ∈ lw_g := lw_gg (lw_in3 (List.mem_of_getElem? (i := 99) rfl)) rfl
set_option maxRecDepth 20000 in
theorem hF_X2_48 : Cond.fieldLink RX2 48 "EngineCell$Channel" "number" "I" ∈ lw_g := lw_gg (lw_in3 (List.mem_of_getElem? (i := 100) rfl)) rfl
set_option maxRecDepth 20000 in
theorem hF_X7_102 : Cond.fieldLink RX7 102 "EngineCell$Channel" "number" "I" ∈ lw_g := lw_gg (lw_in3 (List.mem_of_getElem? (i := 101) rfl)) rfl
set_option maxRecDepth 20000 in
theorem hF_X1_20 : Cond.fieldLink RX1 20 "EngineCell$Channel" "source" "I" ∈ lw_g := lw_gg (lw_in3 (List.mem_of_getElem? (i := 102) rfl)) rfl
set_option maxRecDepth 20000 in
theorem hF_X2_55 : Cond.fieldLink RX2 55 "EngineCell$Channel" "source" "I" ∈ lw_g := lw_gg (lw_in3 (List.mem_of_getElem? (i := 103) rfl)) rfl
set_option maxRecDepth 20000 in
theorem hF_X1_23 : Cond.fieldLink RX1 23 "EngineCell$Channel" "rate" "I" ∈ lw_g := lw_gg (lw_in3 (List.mem_of_getElem? (i := 104) rfl)) rfl
set_option maxRecDepth 20000 in
theorem hF_X4_68 : Cond.fieldLink RX4 68 "EngineCell$Channel" "rate" "I" ∈ lw_g := lw_gg (lw_in3 (List.mem_of_getElem? (i := 105) rfl)) rfl
set_option maxRecDepth 20000 in
theorem hF_X7_70 : Cond.fieldLink RX7 70 "EngineCell$Channel" "rate" "I" ∈ lw_g := lw_gg (lw_in3 (List.mem_of_getElem? (i := 106) rfl)) rfl
set_option maxRecDepth 20000 in
theorem hF_X1_26 : Cond.fieldLink RX1 26 "EngineCell$Channel" "delay" "I" ∈ lw_g := lw_gg (lw_in3 (List.mem_of_getElem? (i := 107) rfl)) rfl
set_option maxRecDepth 20000 in
theorem hF_X4_55 : Cond.fieldLink RX4 55 "EngineCell$Channel" "delay" "I" ∈ lw_g := lw_gg (lw_in3 (List.mem_of_getElem? (i := 108) rfl)) rfl
set_option maxRecDepth 20000 in
theorem hF_X2_45 : Cond.fieldLink RX2 45 "EngineCell$Channel" "delay" "I" ∈ lw_g := lw_gg (lw_in3 (List.mem_of_getElem? (i := 109) rfl)) rfl
set_option maxRecDepth 20000 in
theorem hF_X1_29 : Cond.fieldLink RX1 29 "EngineCell$Channel" "low" "I" ∈ lw_g := lw_gg (lw_in3 (List.mem_of_getElem? (i := 110) rfl)) rfl
set_option maxRecDepth 20000 in
theorem hF_X2_63 : Cond.fieldLink RX2 63 "EngineCell$Channel" "low" "I" ∈ lw_g := lw_gg (lw_in3 (List.mem_of_getElem? (i := 111) rfl)) rfl
set_option maxRecDepth 20000 in
theorem hF_X1_32 : Cond.fieldLink RX1 32 "EngineCell$Channel" "high" "I" ∈ lw_g := lw_gg (lw_in3 (List.mem_of_getElem? (i := 112) rfl)) rfl
set_option maxRecDepth 20000 in
theorem hF_X2_66 : Cond.fieldLink RX2 66 "EngineCell$Channel" "high" "I" ∈ lw_g := lw_gg (lw_in3 (List.mem_of_getElem? (i := 113) rfl)) rfl
set_option maxRecDepth 20000 in
theorem hF_X1_7 : Cond.fieldLink RX1 7 "EngineCell$Channel" "limited" "Z" ∈ lw_g := lw_gg (lw_in3 (List.mem_of_getElem? (i := 114) rfl)) rfl
set_option maxRecDepth 20000 in
theorem hF_X2_82 : Cond.fieldLink RX2 82 "EngineCell$Channel" "limited" "Z" ∈ lw_g := lw_gg (lw_in3 (List.mem_of_getElem? (i := 115) rfl)) rfl
set_option maxRecDepth 20000 in
theorem hF_X11_212 : Cond.fieldLink RX11 212 "EngineCell$Channel" "limited" "Z" ∈ lw_g := lw_gg (lw_in3 (List.mem_of_getElem? (i := 116) rfl)) rfl
set_option maxRecDepth 20000 in
theorem hF_X1_13 : Cond.fieldLink RX1 13 "EngineCell$Channel" "limit" "I" ∈ lw_g := lw_gg (lw_in3 (List.mem_of_getElem? (i := 117) rfl)) rfl
set_option maxRecDepth 20000 in
theorem hF_X2_94 : Cond.fieldLink RX2 94 "EngineCell$Channel" "limit" "I" ∈ lw_g := lw_gg (lw_in3 (List.mem_of_getElem? (i := 118) rfl)) rfl
set_option maxRecDepth 20000 in
theorem hF_X11_216 : Cond.fieldLink RX11 216 "EngineCell$Channel" "limit" "I" ∈ lw_g := lw_gg (lw_in3 (List.mem_of_getElem? (i := 119) rfl)) rfl
set_option maxRecDepth 20000 in
theorem hM_X11_205 : Cond.methodLink RX11 205 yX2_add ∈ lw_g := lw_gg (lw_in3 (List.mem_of_getElem? (i := 137) rfl)) rfl
set_option maxRecDepth 20000 in
theorem hI_X2_add : Cond.instanceMethod yX2_add ∈ lw_g := lw_gg (lw_in3 (List.mem_of_getElem? (i := 138) rfl)) rfl
set_option maxRecDepth 20000 in
theorem hS_X2_add : Cond.selects RX2 yX2_add yX2_add ∈ lw_g := lw_gg (lw_in3 (List.mem_of_getElem? (i := 139) rfl)) rfl
set_option maxRecDepth 20000 in
theorem hC_X2_add : Cond.code yX2_add cX2_add 2 none ∈ lw_g := lw_gg (lw_in3 (List.mem_of_getElem? (i := 140) rfl)) rfl
set_option maxRecDepth 20000 in
theorem hM_L_79 : Cond.methodLink RL 79 yX11_limit ∈ lw_g := lw_gg (lw_in3 (List.mem_of_getElem? (i := 141) rfl)) rfl
set_option maxRecDepth 20000 in
theorem hI_X11_limit : Cond.instanceMethod yX11_limit ∈ lw_g := lw_gg (lw_in3 (List.mem_of_getElem? (i := 142) rfl)) rfl
set_option maxRecDepth 20000 in
theorem hS_X11_limit : Cond.selects RX11 yX11_limit yX11_limit ∈ lw_g := lw_gg (lw_in3 (List.mem_of_getElem? (i := 143) rfl)) rfl
set_option maxRecDepth 20000 in
theorem hC_X11_limit : Cond.code yX11_limit cX11_limit 4 (some .int) ∈ lw_g := lw_gg (lw_in3 (List.mem_of_getElem? (i := 144) rfl)) rfl
set_option maxRecDepth 20000 in
theorem hM_X11_208 : Cond.methodLink RX11 208 yX2_find ∈ lw_g := lw_gg (lw_in3 (List.mem_of_getElem? (i := 145) rfl)) rfl
set_option maxRecDepth 20000 in
theorem hM_L_83 : Cond.methodLink RL 83 yX11_lose ∈ lw_g := lw_gg (lw_in3 (List.mem_of_getElem? (i := 146) rfl)) rfl
set_option maxRecDepth 20000 in
theorem hI_X11_lose : Cond.instanceMethod yX11_lose ∈ lw_g := lw_gg (lw_in3 (List.mem_of_getElem? (i := 147) rfl)) rfl
set_option maxRecDepth 20000 in
theorem hS_X11_lose : Cond.selects RX11 yX11_lose yX11_lose ∈ lw_g := lw_gg (lw_in3 (List.mem_of_getElem? (i := 148) rfl)) rfl
set_option maxRecDepth 20000 in
theorem hC_X11_lose : Cond.code yX11_lose cX11_lose 4 (some .int) ∈ lw_g := lw_gg (lw_in3 (List.mem_of_getElem? (i := 149) rfl)) rfl
set_option maxRecDepth 20000 in
theorem hM_X11_222 : Cond.methodLink RX11 222 yX10_add ∈ lw_g := lw_gg (lw_in3 (List.mem_of_getElem? (i := 150) rfl)) rfl
set_option maxRecDepth 20000 in
theorem hI_X10_add : Cond.instanceMethod yX10_add ∈ lw_g := lw_gg (lw_in3 (List.mem_of_getElem? (i := 151) rfl)) rfl
set_option maxRecDepth 20000 in
theorem hS_X10_add : Cond.selects RX10 yX10_add yX10_add ∈ lw_g := lw_gg (lw_in3 (List.mem_of_getElem? (i := 152) rfl)) rfl
set_option maxRecDepth 20000 in
theorem hC_X10_add : Cond.code yX10_add cX10_add 5 none ∈ lw_g := lw_gg (lw_in3 (List.mem_of_getElem? (i := 153) rfl)) rfl
set_option maxRecDepth 20000 in
theorem hN_X10_28 : Cond.methodLinkNest RX10 28 yX11_within "EngineCell" ∈ lw_tbl := lw_in3 (List.mem_of_getElem? (i := 154) rfl)
set_option maxRecDepth 20000 in
theorem hM_L_88 : Cond.methodLink RL 88 yX11_correct ∈ lw_g := lw_gg (lw_in3 (List.mem_of_getElem? (i := 155) rfl)) rfl
set_option maxRecDepth 20000 in
theorem hI_X11_correct : Cond.instanceMethod yX11_correct ∈ lw_g := lw_gg (lw_in3 (List.mem_of_getElem? (i := 156) rfl)) rfl
set_option maxRecDepth 20000 in
theorem hS_X11_correct : Cond.selects RX11 yX11_correct yX11_correct ∈ lw_g := lw_gg (lw_in3 (List.mem_of_getElem? (i := 157) rfl)) rfl
set_option maxRecDepth 20000 in
theorem hC_X11_correct : Cond.code yX11_correct cX11_correct 6 (some .int) ∈ lw_g := lw_gg (lw_in3 (List.mem_of_getElem? (i := 158) rfl)) rfl
set_option maxRecDepth 20000 in
theorem hM_X11_223 : Cond.methodLink RX11 223 yX7_keepAhead ∈ lw_g := lw_gg (lw_in3 (List.mem_of_getElem? (i := 159) rfl)) rfl
set_option maxRecDepth 20000 in
theorem hI_X7_keepAhead : Cond.instanceMethod yX7_keepAhead ∈ lw_g := lw_gg (lw_in3 (List.mem_of_getElem? (i := 160) rfl)) rfl
set_option maxRecDepth 20000 in
theorem hS_X7_keepAhead : Cond.selects RX7 yX7_keepAhead yX7_keepAhead ∈ lw_g := lw_gg (lw_in3 (List.mem_of_getElem? (i := 161) rfl)) rfl
set_option maxRecDepth 20000 in
theorem hC_X7_keepAhead : Cond.code yX7_keepAhead cX7_keepAhead 4 none ∈ lw_g := lw_gg (lw_in3 (List.mem_of_getElem? (i := 162) rfl)) rfl
set_option maxRecDepth 20000 in
theorem hM_X7_98 : Cond.methodLink RX7 98 yX7_reckon ∈ lw_g := lw_gg (lw_in3 (List.mem_of_getElem? (i := 163) rfl)) rfl
set_option maxRecDepth 20000 in
theorem hI_X7_reckon : Cond.instanceMethod yX7_reckon ∈ lw_g := lw_gg (lw_in3 (List.mem_of_getElem? (i := 164) rfl)) rfl
set_option maxRecDepth 20000 in
theorem hS_X7_reckon : Cond.selects RX7 yX7_reckon yX7_reckon ∈ lw_g := lw_gg (lw_in3 (List.mem_of_getElem? (i := 165) rfl)) rfl
set_option maxRecDepth 20000 in
theorem hC_X7_reckon : Cond.code yX7_reckon cX7_reckon 10 none ∈ lw_g := lw_gg (lw_in3 (List.mem_of_getElem? (i := 166) rfl)) rfl
set_option maxRecDepth 20000 in
theorem hM_X7_47 : Cond.methodLink RX7 47 yX5_last ∈ lw_g := lw_gg (lw_in3 (List.mem_of_getElem? (i := 167) rfl)) rfl
set_option maxRecDepth 20000 in
theorem hI_X5_last : Cond.instanceMethod yX5_last ∈ lw_g := lw_gg (lw_in3 (List.mem_of_getElem? (i := 168) rfl)) rfl
set_option maxRecDepth 20000 in
theorem hS_X5_last : Cond.selects RX5 yX5_last yX5_last ∈ lw_g := lw_gg (lw_in3 (List.mem_of_getElem? (i := 169) rfl)) rfl
set_option maxRecDepth 20000 in
theorem hC_X5_last : Cond.code yX5_last cX5_last 3 (some .int) ∈ lw_g := lw_gg (lw_in3 (List.mem_of_getElem? (i := 170) rfl)) rfl
set_option maxRecDepth 20000 in
theorem hM_X5_23 : Cond.methodLink RX5 23 yX5_has ∈ lw_g := lw_gg (lw_in3 (List.mem_of_getElem? (i := 171) rfl)) rfl
set_option maxRecDepth 20000 in
theorem hM_X5_27 : Cond.methodLink RX5 27 yX5_first ∈ lw_g := lw_gg (lw_in3 (List.mem_of_getElem? (i := 172) rfl)) rfl
set_option maxRecDepth 20000 in
theorem hM_X7_53 : Cond.methodLink RX7 53 yX5_first ∈ lw_g := lw_gg (lw_in3 (List.mem_of_getElem? (i := 173) rfl)) rfl
set_option maxRecDepth 20000 in
theorem hM_X7_57 : Cond.methodLink RX7 57 yX1_firstFrom ∈ lw_g := lw_gg (lw_in3 (List.mem_of_getElem? (i := 174) rfl)) rfl
set_option maxRecDepth 20000 in
theorem hI_X1_firstFrom : Cond.instanceMethod yX1_firstFrom ∈ lw_g := lw_gg (lw_in3 (List.mem_of_getElem? (i := 175) rfl)) rfl
set_option maxRecDepth 20000 in
theorem hS_X1_firstFrom : Cond.selects RX1 yX1_firstFrom yX1_firstFrom ∈ lw_g := lw_gg (lw_in3 (List.mem_of_getElem? (i := 176) rfl)) rfl
set_option maxRecDepth 20000 in
theorem hC_X1_firstFrom : Cond.code yX1_firstFrom cX1_firstFrom 2 (some .int) ∈ lw_g := lw_gg (lw_in3 (List.mem_of_getElem? (i := 177) rfl)) rfl
set_option maxRecDepth 20000 in
theorem hM_X1_35 : Cond.methodLink RX1 35 yX1_latestAt ∈ lw_g := lw_gg (lw_in3 (List.mem_of_getElem? (i := 178) rfl)) rfl
set_option maxRecDepth 20000 in
theorem hM_X7_62 : Cond.methodLink RX7 62 yX2_value ∈ lw_g := lw_gg (lw_in3 (List.mem_of_getElem? (i := 179) rfl)) rfl
set_option maxRecDepth 20000 in
theorem hK_X7_68 : Cond.constantLong RX7 68 (-9223372036854775808) ∈ lw_g := lw_gg (lw_in3 (List.mem_of_getElem? (i := 180) rfl)) rfl
set_option maxRecDepth 20000 in
theorem hM_X7_73 : Cond.methodLink RX7 73 yX7_join ∈ lw_g := lw_gg (lw_in3 (List.mem_of_getElem? (i := 181) rfl)) rfl
set_option maxRecDepth 20000 in
theorem hI_X7_join : Cond.instanceMethod yX7_join ∈ lw_g := lw_gg (lw_in3 (List.mem_of_getElem? (i := 183) rfl)) rfl
set_option maxRecDepth 20000 in
theorem hC_X7_join : Cond.code yX7_join cX7_join 5 none ∈ lw_g := lw_gg (lw_in3 (List.mem_of_getElem? (i := 184) rfl)) rfl
set_option maxRecDepth 20000 in
theorem hM_X7_77 : Cond.methodLink RX7 77 yX2_isFull ∈ lw_g := lw_gg (lw_in3 (List.mem_of_getElem? (i := 185) rfl)) rfl
set_option maxRecDepth 20000 in
theorem hI_X2_isFull : Cond.instanceMethod yX2_isFull ∈ lw_g := lw_gg (lw_in3 (List.mem_of_getElem? (i := 186) rfl)) rfl
set_option maxRecDepth 20000 in
theorem hS_X2_isFull : Cond.selects RX2 yX2_isFull yX2_isFull ∈ lw_g := lw_gg (lw_in3 (List.mem_of_getElem? (i := 187) rfl)) rfl
set_option maxRecDepth 20000 in
theorem hC_X2_isFull : Cond.code yX2_isFull cX2_isFull 3 (some .boolean) ∈ lw_g := lw_gg (lw_in3 (List.mem_of_getElem? (i := 188) rfl)) rfl
set_option maxRecDepth 20000 in
theorem hM_X7_81 : Cond.methodLink RX7 81 yX7_count ∈ lw_g := lw_gg (lw_in3 (List.mem_of_getElem? (i := 189) rfl)) rfl
set_option maxRecDepth 20000 in
theorem hI_X7_count : Cond.instanceMethod yX7_count ∈ lw_g := lw_gg (lw_in3 (List.mem_of_getElem? (i := 191) rfl)) rfl
set_option maxRecDepth 20000 in
theorem hC_X7_count : Cond.code yX7_count cX7_count 5 none ∈ lw_g := lw_gg (lw_in3 (List.mem_of_getElem? (i := 192) rfl)) rfl
set_option maxRecDepth 20000 in
theorem hM_X7_90 : Cond.methodLink RX7 90 yJ9_min_f86c9 ∈ lw_g := lw_gg (lw_in3 (List.mem_of_getElem? (i := 193) rfl)) rfl
set_option maxRecDepth 20000 in
theorem hT_J9_min_f86c9 : Cond.static yJ9_min_f86c9 ∈ lw_g := lw_gg (lw_in3 (List.mem_of_getElem? (i := 194) rfl)) rfl
set_option maxRecDepth 20000 in
theorem hC_J9_min_f86c9 : Cond.code yJ9_min_f86c9 cJ9_min_f86c9 4 (some .long) ∈ lw_g := lw_gg (lw_in3 (List.mem_of_getElem? (i := 195) rfl)) rfl
set_option maxRecDepth 20000 in
theorem hM_X7_94 : Cond.methodLink RX7 94 yJ9_max_f86c9 ∈ lw_g := lw_gg (lw_in3 (List.mem_of_getElem? (i := 196) rfl)) rfl
set_option maxRecDepth 20000 in
theorem hT_J9_max_f86c9 : Cond.static yJ9_max_f86c9 ∈ lw_g := lw_gg (lw_in3 (List.mem_of_getElem? (i := 197) rfl)) rfl
set_option maxRecDepth 20000 in
theorem hC_J9_max_f86c9 : Cond.code yJ9_max_f86c9 cJ9_max_f86c9 4 (some .long) ∈ lw_g := lw_gg (lw_in3 (List.mem_of_getElem? (i := 198) rfl)) rfl
set_option maxRecDepth 20000 in
theorem hM_X7_85 : Cond.methodLink RX7 85 yJ9_max_7cf53 ∈ lw_g := lw_gg (lw_in3 (List.mem_of_getElem? (i := 199) rfl)) rfl
set_option maxRecDepth 20000 in
theorem hM_X11_226 : Cond.methodLink RX11 226 yX7_nameOthers ∈ lw_g := lw_gg (lw_in3 (List.mem_of_getElem? (i := 200) rfl)) rfl
set_option maxRecDepth 20000 in
theorem hI_X7_nameOthers : Cond.instanceMethod yX7_nameOthers ∈ lw_g := lw_gg (lw_in3 (List.mem_of_getElem? (i := 201) rfl)) rfl
set_option maxRecDepth 20000 in
theorem hS_X7_nameOthers : Cond.selects RX7 yX7_nameOthers yX7_nameOthers ∈ lw_g := lw_gg (lw_in3 (List.mem_of_getElem? (i := 202) rfl)) rfl
set_option maxRecDepth 20000 in
theorem hC_X7_nameOthers : Cond.code yX7_nameOthers cX7_nameOthers 4 none ∈ lw_g := lw_gg (lw_in3 (List.mem_of_getElem? (i := 203) rfl)) rfl
set_option maxRecDepth 20000 in
theorem hM_X7_105 : Cond.methodLink RX7 105 yX7_name ∈ lw_g := lw_gg (lw_in3 (List.mem_of_getElem? (i := 204) rfl)) rfl
set_option maxRecDepth 20000 in
theorem hI_X7_name : Cond.instanceMethod yX7_name ∈ lw_g := lw_gg (lw_in3 (List.mem_of_getElem? (i := 206) rfl)) rfl
set_option maxRecDepth 20000 in
theorem hC_X7_name : Cond.code yX7_name cX7_name 2 none ∈ lw_g := lw_gg (lw_in3 (List.mem_of_getElem? (i := 207) rfl)) rfl
set_option maxRecDepth 20000 in
theorem hN_X7_38 : Cond.methodLinkNest RX7 38 yX11_within "EngineCell" ∈ lw_tbl := lw_in3 (List.mem_of_getElem? (i := 208) rfl)
set_option maxRecDepth 20000 in
theorem hM_L_92 : Cond.methodLink RL 92 yX11_other ∈ lw_g := lw_gg (lw_in3 (List.mem_of_getElem? (i := 209) rfl)) rfl
set_option maxRecDepth 20000 in
theorem hI_X11_other : Cond.instanceMethod yX11_other ∈ lw_g := lw_gg (lw_in3 (List.mem_of_getElem? (i := 210) rfl)) rfl
set_option maxRecDepth 20000 in
theorem hS_X11_other : Cond.selects RX11 yX11_other yX11_other ∈ lw_g := lw_gg (lw_in3 (List.mem_of_getElem? (i := 211) rfl)) rfl
set_option maxRecDepth 20000 in
theorem hC_X11_other : Cond.code yX11_other cX11_other 2 (some .int) ∈ lw_g := lw_gg (lw_in3 (List.mem_of_getElem? (i := 212) rfl)) rfl
set_option maxRecDepth 20000 in
theorem hM_X11_232 : Cond.methodLink RX11 232 yX7_otherAt ∈ lw_g := lw_gg (lw_in3 (List.mem_of_getElem? (i := 213) rfl)) rfl
set_option maxRecDepth 20000 in
theorem hI_X7_otherAt : Cond.instanceMethod yX7_otherAt ∈ lw_g := lw_gg (lw_in3 (List.mem_of_getElem? (i := 214) rfl)) rfl
set_option maxRecDepth 20000 in
theorem hS_X7_otherAt : Cond.selects RX7 yX7_otherAt yX7_otherAt ∈ lw_g := lw_gg (lw_in3 (List.mem_of_getElem? (i := 215) rfl)) rfl
set_option maxRecDepth 20000 in
theorem hC_X7_otherAt : Cond.code yX7_otherAt cX7_otherAt 2 (some .int) ∈ lw_g := lw_gg (lw_in3 (List.mem_of_getElem? (i := 216) rfl)) rfl
set_option maxRecDepth 20000 in
theorem hM_L_96 : Cond.methodLink RL 96 yX11_reading ∈ lw_g := lw_gg (lw_in3 (List.mem_of_getElem? (i := 217) rfl)) rfl
set_option maxRecDepth 20000 in
theorem hI_X11_reading : Cond.instanceMethod yX11_reading ∈ lw_g := lw_gg (lw_in3 (List.mem_of_getElem? (i := 218) rfl)) rfl
set_option maxRecDepth 20000 in
theorem hS_X11_reading : Cond.selects RX11 yX11_reading yX11_reading ∈ lw_g := lw_gg (lw_in3 (List.mem_of_getElem? (i := 219) rfl)) rfl
set_option maxRecDepth 20000 in
theorem hC_X11_reading : Cond.code yX11_reading cX11_reading 4 (some .long) ∈ lw_g := lw_gg (lw_in3 (List.mem_of_getElem? (i := 220) rfl)) rfl
set_option maxRecDepth 20000 in
theorem hM_X11_235 : Cond.methodLink RX11 235 yX1_readsAt ∈ lw_g := lw_gg (lw_in3 (List.mem_of_getElem? (i := 221) rfl)) rfl
set_option maxRecDepth 20000 in
theorem hM_X11_238 : Cond.methodLink RX11 238 yX2_value ∈ lw_g := lw_gg (lw_in3 (List.mem_of_getElem? (i := 222) rfl)) rfl
set_option maxRecDepth 20000 in
theorem hM_L_100 : Cond.methodLink RL 100 yX11_state ∈ lw_g := lw_gg (lw_in3 (List.mem_of_getElem? (i := 223) rfl)) rfl
set_option maxRecDepth 20000 in
theorem hI_X11_state : Cond.instanceMethod yX11_state ∈ lw_g := lw_gg (lw_in3 (List.mem_of_getElem? (i := 224) rfl)) rfl
set_option maxRecDepth 20000 in
theorem hS_X11_state : Cond.selects RX11 yX11_state yX11_state ∈ lw_g := lw_gg (lw_in3 (List.mem_of_getElem? (i := 225) rfl)) rfl
set_option maxRecDepth 20000 in
theorem hC_X11_state : Cond.code yX11_state cX11_state 4 (some .int) ∈ lw_g := lw_gg (lw_in3 (List.mem_of_getElem? (i := 226) rfl)) rfl
set_option maxRecDepth 20000 in
theorem hM_X11_242 : Cond.methodLink RX11 242 yX2_isLost ∈ lw_g := lw_gg (lw_in3 (List.mem_of_getElem? (i := 227) rfl)) rfl
set_option maxRecDepth 20000 in
theorem hM_X11_246 : Cond.methodLink RX11 246 yX2_isFull ∈ lw_g := lw_gg (lw_in3 (List.mem_of_getElem? (i := 228) rfl)) rfl
set_option maxRecDepth 20000 in
theorem hM_L_104 : Cond.methodLink RL 104 yX11_report ∈ lw_g := lw_gg (lw_in3 (List.mem_of_getElem? (i := 229) rfl)) rfl
set_option maxRecDepth 20000 in
theorem hI_X11_report : Cond.instanceMethod yX11_report ∈ lw_g := lw_gg (lw_in3 (List.mem_of_getElem? (i := 230) rfl)) rfl
set_option maxRecDepth 20000 in
theorem hS_X11_report : Cond.selects RX11 yX11_report yX11_report ∈ lw_g := lw_gg (lw_in3 (List.mem_of_getElem? (i := 231) rfl)) rfl
set_option maxRecDepth 20000 in
theorem hC_X11_report : Cond.code yX11_report cX11_report 5 (some .long) ∈ lw_g := lw_gg (lw_in3 (List.mem_of_getElem? (i := 232) rfl)) rfl
set_option maxRecDepth 20000 in
theorem hM_X11_249 : Cond.methodLink RX11 249 yX7_reckon ∈ lw_g := lw_gg (lw_in3 (List.mem_of_getElem? (i := 233) rfl)) rfl
set_option maxRecDepth 20000 in
theorem hM_X11_253 : Cond.methodLink RX11 253 yX7_number ∈ lw_g := lw_gg (lw_in3 (List.mem_of_getElem? (i := 234) rfl)) rfl
set_option maxRecDepth 20000 in
theorem hI_X7_number : Cond.instanceMethod yX7_number ∈ lw_g := lw_gg (lw_in3 (List.mem_of_getElem? (i := 235) rfl)) rfl
set_option maxRecDepth 20000 in
theorem hS_X7_number : Cond.selects RX7 yX7_number yX7_number ∈ lw_g := lw_gg (lw_in3 (List.mem_of_getElem? (i := 236) rfl)) rfl
set_option maxRecDepth 20000 in
theorem hC_X7_number : Cond.code yX7_number cX7_number 2 (some .long) ∈ lw_g := lw_gg (lw_in3 (List.mem_of_getElem? (i := 237) rfl)) rfl
set_option maxRecDepth 20000 in
theorem hM_L_109 : Cond.methodLink RL 109 yX11_valid ∈ lw_g := lw_gg (lw_in3 (List.mem_of_getElem? (i := 238) rfl)) rfl
set_option maxRecDepth 20000 in
theorem hI_X11_valid : Cond.instanceMethod yX11_valid ∈ lw_g := lw_gg (lw_in3 (List.mem_of_getElem? (i := 239) rfl)) rfl
set_option maxRecDepth 20000 in
theorem hS_X11_valid : Cond.selects RX11 yX11_valid yX11_valid ∈ lw_g := lw_gg (lw_in4 (List.mem_of_getElem? (i := 0) rfl)) rfl
set_option maxRecDepth 20000 in
theorem hC_X11_valid : Cond.code yX11_valid cX11_valid 3 (some .int) ∈ lw_g := lw_gg (lw_in4 (List.mem_of_getElem? (i := 1) rfl)) rfl
set_option maxRecDepth 20000 in
theorem hM_X11_257 : Cond.methodLink RX11 257 yX4_reckon ∈ lw_g := lw_gg (lw_in4 (List.mem_of_getElem? (i := 2) rfl)) rfl
set_option maxRecDepth 20000 in
theorem hI_X4_reckon : Cond.instanceMethod yX4_reckon ∈ lw_g := lw_gg (lw_in4 (List.mem_of_getElem? (i := 3) rfl)) rfl
set_option maxRecDepth 20000 in
theorem hS_X4_reckon : Cond.selects RX4 yX4_reckon yX4_reckon ∈ lw_g := lw_gg (lw_in4 (List.mem_of_getElem? (i := 4) rfl)) rfl
set_option maxRecDepth 20000 in
theorem hC_X4_reckon : Cond.code yX4_reckon cX4_reckon 5 none ∈ lw_g := lw_gg (lw_in4 (List.mem_of_getElem? (i := 5) rfl)) rfl
set_option maxRecDepth 20000 in
theorem hM_X4_47 : Cond.methodLink RX4 47 yX2_value ∈ lw_g := lw_gg (lw_in4 (List.mem_of_getElem? (i := 6) rfl)) rfl
set_option maxRecDepth 20000 in
theorem hK_X4_53 : Cond.constantLong RX4 53 (-9223372036854775808) ∈ lw_g := lw_gg (lw_in4 (List.mem_of_getElem? (i := 7) rfl)) rfl
set_option maxRecDepth 20000 in
theorem hM_X4_60 : Cond.methodLink RX4 60 yX3_part ∈ lw_g := lw_gg (lw_in4 (List.mem_of_getElem? (i := 8) rfl)) rfl
set_option maxRecDepth 20000 in
theorem hM_X4_64 : Cond.methodLink RX4 64 yX4_count ∈ lw_g := lw_gg (lw_in4 (List.mem_of_getElem? (i := 9) rfl)) rfl
set_option maxRecDepth 20000 in
theorem hI_X4_count : Cond.instanceMethod yX4_count ∈ lw_g := lw_gg (lw_in4 (List.mem_of_getElem? (i := 11) rfl)) rfl
set_option maxRecDepth 20000 in
theorem hC_X4_count : Cond.code yX4_count cX4_count 5 none ∈ lw_g := lw_gg (lw_in4 (List.mem_of_getElem? (i := 12) rfl)) rfl
set_option maxRecDepth 20000 in
theorem hM_X4_76 : Cond.methodLink RX4 76 yJ9_abs_067f4 ∈ lw_g := lw_gg (lw_in4 (List.mem_of_getElem? (i := 13) rfl)) rfl
set_option maxRecDepth 20000 in
theorem hT_J9_abs_067f4 : Cond.static yJ9_abs_067f4 ∈ lw_g := lw_gg (lw_in4 (List.mem_of_getElem? (i := 14) rfl)) rfl
set_option maxRecDepth 20000 in
theorem hC_J9_abs_067f4 : Cond.code yJ9_abs_067f4 cJ9_abs_067f4 2 (some .long) ∈ lw_g := lw_gg (lw_in4 (List.mem_of_getElem? (i := 15) rfl)) rfl
set_option maxRecDepth 20000 in
theorem hM_X4_80 : Cond.methodLink RX4 80 yJ9_max_f86c9 ∈ lw_g := lw_gg (lw_in4 (List.mem_of_getElem? (i := 16) rfl)) rfl
set_option maxRecDepth 20000 in
theorem hM_X4_71 : Cond.methodLink RX4 71 yJ9_max_7cf53 ∈ lw_g := lw_gg (lw_in4 (List.mem_of_getElem? (i := 17) rfl)) rfl
set_option maxRecDepth 20000 in
theorem hM_X11_259 : Cond.methodLink RX11 259 yX4_verdict ∈ lw_g := lw_gg (lw_in4 (List.mem_of_getElem? (i := 18) rfl)) rfl
set_option maxRecDepth 20000 in
theorem hI_X4_verdict : Cond.instanceMethod yX4_verdict ∈ lw_g := lw_gg (lw_in4 (List.mem_of_getElem? (i := 19) rfl)) rfl
set_option maxRecDepth 20000 in
theorem hS_X4_verdict : Cond.selects RX4 yX4_verdict yX4_verdict ∈ lw_g := lw_gg (lw_in4 (List.mem_of_getElem? (i := 20) rfl)) rfl
set_option maxRecDepth 20000 in
theorem hC_X4_verdict : Cond.code yX4_verdict cX4_verdict 1 (some .int) ∈ lw_g := lw_gg (lw_in4 (List.mem_of_getElem? (i := 21) rfl)) rfl
set_option maxRecDepth 20000 in
theorem hM_X4_83 : Cond.methodLink RX4 83 yX4_b ∈ lw_g := lw_gg (lw_in4 (List.mem_of_getElem? (i := 22) rfl)) rfl
set_option maxRecDepth 20000 in
theorem hI_X4_b : Cond.instanceMethod yX4_b ∈ lw_g := lw_gg (lw_in4 (List.mem_of_getElem? (i := 23) rfl)) rfl
set_option maxRecDepth 20000 in
theorem hS_X4_b : Cond.selects RX4 yX4_b yX4_b ∈ lw_g := lw_gg (lw_in4 (List.mem_of_getElem? (i := 24) rfl)) rfl
set_option maxRecDepth 20000 in
theorem hC_X4_b : Cond.code yX4_b cX4_b 1 (some .long) ∈ lw_g := lw_gg (lw_in4 (List.mem_of_getElem? (i := 25) rfl)) rfl
set_option maxRecDepth 20000 in
theorem hK_X4_87 : Cond.constantLong RX4 87 (950) ∈ lw_g := lw_gg (lw_in4 (List.mem_of_getElem? (i := 26) rfl)) rfl
set_option maxRecDepth 20000 in
theorem hK_X4_89 : Cond.constantLong RX4 89 (1000) ∈ lw_g := lw_gg (lw_in4 (List.mem_of_getElem? (i := 27) rfl)) rfl
set_option maxRecDepth 20000 in
theorem hM_X4_91 : Cond.methodLink RX4 91 yX4_a ∈ lw_g := lw_gg (lw_in4 (List.mem_of_getElem? (i := 28) rfl)) rfl
set_option maxRecDepth 20000 in
theorem hI_X4_a : Cond.instanceMethod yX4_a ∈ lw_g := lw_gg (lw_in4 (List.mem_of_getElem? (i := 29) rfl)) rfl
set_option maxRecDepth 20000 in
theorem hS_X4_a : Cond.selects RX4 yX4_a yX4_a ∈ lw_g := lw_gg (lw_in4 (List.mem_of_getElem? (i := 30) rfl)) rfl
set_option maxRecDepth 20000 in
theorem hC_X4_a : Cond.code yX4_a cX4_a 1 (some .long) ∈ lw_g := lw_gg (lw_in4 (List.mem_of_getElem? (i := 31) rfl)) rfl
set_option maxRecDepth 20000 in
theorem hK_X4_94 : Cond.constantLong RX4 94 (1050) ∈ lw_g := lw_gg (lw_in4 (List.mem_of_getElem? (i := 32) rfl)) rfl
set_option maxRecDepth 20000 in
theorem hK_X4_96 : Cond.constantLong RX4 96 (50) ∈ lw_g := lw_gg (lw_in4 (List.mem_of_getElem? (i := 33) rfl)) rfl
set_option maxRecDepth 20000 in
theorem hK_X4_98 : Cond.constantLong RX4 98 (400) ∈ lw_g := lw_gg (lw_in4 (List.mem_of_getElem? (i := 34) rfl)) rfl
set_option maxRecDepth 20000 in
theorem hM_L_113 : Cond.methodLink RL 113 yX11_law ∈ lw_g := lw_gg (lw_in4 (List.mem_of_getElem? (i := 35) rfl)) rfl
set_option maxRecDepth 20000 in
theorem hI_X11_law : Cond.instanceMethod yX11_law ∈ lw_g := lw_gg (lw_in4 (List.mem_of_getElem? (i := 36) rfl)) rfl
set_option maxRecDepth 20000 in
theorem hS_X11_law : Cond.selects RX11 yX11_law yX11_law ∈ lw_g := lw_gg (lw_in4 (List.mem_of_getElem? (i := 37) rfl)) rfl
set_option maxRecDepth 20000 in
theorem hC_X11_law : Cond.code yX11_law cX11_law 4 (some .long) ∈ lw_g := lw_gg (lw_in4 (List.mem_of_getElem? (i := 38) rfl)) rfl
set_option maxRecDepth 20000 in
theorem hM_X11_267 : Cond.methodLink RX11 267 yX4_a ∈ lw_g := lw_gg (lw_in4 (List.mem_of_getElem? (i := 39) rfl)) rfl
set_option maxRecDepth 20000 in
theorem hM_X11_271 : Cond.methodLink RX11 271 yX4_b ∈ lw_g := lw_gg (lw_in4 (List.mem_of_getElem? (i := 40) rfl)) rfl
set_option maxRecDepth 20000 in
theorem hM_L_117 : Cond.methodLink RL 117 yX11_sheet ∈ lw_g := lw_gg (lw_in4 (List.mem_of_getElem? (i := 41) rfl)) rfl
set_option maxRecDepth 20000 in
theorem hI_X11_sheet : Cond.instanceMethod yX11_sheet ∈ lw_g := lw_gg (lw_in4 (List.mem_of_getElem? (i := 42) rfl)) rfl
set_option maxRecDepth 20000 in
theorem hS_X11_sheet : Cond.selects RX11 yX11_sheet yX11_sheet ∈ lw_g := lw_gg (lw_in4 (List.mem_of_getElem? (i := 43) rfl)) rfl
set_option maxRecDepth 20000 in
theorem hC_X11_sheet : Cond.code yX11_sheet cX11_sheet 5 (some .int) ∈ lw_g := lw_gg (lw_in4 (List.mem_of_getElem? (i := 44) rfl)) rfl
set_option maxRecDepth 20000 in
theorem hM_X11_280 : Cond.methodLink RX11 280 yX9_renew ∈ lw_g := lw_gg (lw_in4 (List.mem_of_getElem? (i := 45) rfl)) rfl
set_option maxRecDepth 20000 in
theorem hI_X9_renew : Cond.instanceMethod yX9_renew ∈ lw_g := lw_gg (lw_in4 (List.mem_of_getElem? (i := 46) rfl)) rfl
set_option maxRecDepth 20000 in
theorem hS_X9_renew : Cond.selects RX9 yX9_renew yX9_renew ∈ lw_g := lw_gg (lw_in4 (List.mem_of_getElem? (i := 47) rfl)) rfl
set_option maxRecDepth 20000 in
theorem hC_X9_renew : Cond.code yX9_renew cX9_renew 4 none ∈ lw_g := lw_gg (lw_in4 (List.mem_of_getElem? (i := 48) rfl)) rfl
set_option maxRecDepth 20000 in
theorem hM_L_121 : Cond.methodLink RL 121 yX11_drop ∈ lw_g := lw_gg (lw_in4 (List.mem_of_getElem? (i := 49) rfl)) rfl
set_option maxRecDepth 20000 in
theorem hI_X11_drop : Cond.instanceMethod yX11_drop ∈ lw_g := lw_gg (lw_in4 (List.mem_of_getElem? (i := 50) rfl)) rfl
set_option maxRecDepth 20000 in
theorem hS_X11_drop : Cond.selects RX11 yX11_drop yX11_drop ∈ lw_g := lw_gg (lw_in4 (List.mem_of_getElem? (i := 51) rfl)) rfl
set_option maxRecDepth 20000 in
theorem hC_X11_drop : Cond.code yX11_drop cX11_drop 4 (some .int) ∈ lw_g := lw_gg (lw_in4 (List.mem_of_getElem? (i := 52) rfl)) rfl
set_option maxRecDepth 20000 in
theorem hM_L_125 : Cond.methodLink RL 125 yX11_put ∈ lw_g := lw_gg (lw_in4 (List.mem_of_getElem? (i := 53) rfl)) rfl
set_option maxRecDepth 20000 in
theorem hI_X11_put : Cond.instanceMethod yX11_put ∈ lw_g := lw_gg (lw_in4 (List.mem_of_getElem? (i := 54) rfl)) rfl
set_option maxRecDepth 20000 in
theorem hS_X11_put : Cond.selects RX11 yX11_put yX11_put ∈ lw_g := lw_gg (lw_in4 (List.mem_of_getElem? (i := 55) rfl)) rfl
set_option maxRecDepth 20000 in
theorem hC_X11_put : Cond.code yX11_put cX11_put 6 (some .int) ∈ lw_g := lw_gg (lw_in4 (List.mem_of_getElem? (i := 56) rfl)) rfl
set_option maxRecDepth 20000 in
theorem hM_X11_286 : Cond.methodLink RX11 286 yX9_write ∈ lw_g := lw_gg (lw_in4 (List.mem_of_getElem? (i := 57) rfl)) rfl
set_option maxRecDepth 20000 in
theorem hI_X9_write : Cond.instanceMethod yX9_write ∈ lw_g := lw_gg (lw_in4 (List.mem_of_getElem? (i := 58) rfl)) rfl
set_option maxRecDepth 20000 in
theorem hS_X9_write : Cond.selects RX9 yX9_write yX9_write ∈ lw_g := lw_gg (lw_in4 (List.mem_of_getElem? (i := 59) rfl)) rfl
set_option maxRecDepth 20000 in
theorem hC_X9_write : Cond.code yX9_write cX9_write 3 none ∈ lw_g := lw_gg (lw_in4 (List.mem_of_getElem? (i := 60) rfl)) rfl
set_option maxRecDepth 20000 in
theorem hM_L_129 : Cond.methodLink RL 129 yX11_at ∈ lw_g := lw_gg (lw_in4 (List.mem_of_getElem? (i := 61) rfl)) rfl
set_option maxRecDepth 20000 in
theorem hI_X11_at : Cond.instanceMethod yX11_at ∈ lw_g := lw_gg (lw_in4 (List.mem_of_getElem? (i := 62) rfl)) rfl
set_option maxRecDepth 20000 in
theorem hS_X11_at : Cond.selects RX11 yX11_at yX11_at ∈ lw_g := lw_gg (lw_in4 (List.mem_of_getElem? (i := 63) rfl)) rfl
set_option maxRecDepth 20000 in
theorem hC_X11_at : Cond.code yX11_at cX11_at 6 (some .long) ∈ lw_g := lw_gg (lw_in4 (List.mem_of_getElem? (i := 64) rfl)) rfl
set_option maxRecDepth 20000 in
theorem hM_X11_289 : Cond.methodLink RX11 289 yX9_cell ∈ lw_g := lw_gg (lw_in4 (List.mem_of_getElem? (i := 65) rfl)) rfl
set_option maxRecDepth 20000 in
theorem hM_L_133 : Cond.methodLink RL 133 yX11_tell ∈ lw_g := lw_gg (lw_in4 (List.mem_of_getElem? (i := 66) rfl)) rfl
set_option maxRecDepth 20000 in
theorem hI_X11_tell : Cond.instanceMethod yX11_tell ∈ lw_g := lw_gg (lw_in4 (List.mem_of_getElem? (i := 67) rfl)) rfl
set_option maxRecDepth 20000 in
theorem hS_X11_tell : Cond.selects RX11 yX11_tell yX11_tell ∈ lw_g := lw_gg (lw_in4 (List.mem_of_getElem? (i := 68) rfl)) rfl
set_option maxRecDepth 20000 in
theorem hC_X11_tell : Cond.code yX11_tell cX11_tell 2 (some .int) ∈ lw_g := lw_gg (lw_in4 (List.mem_of_getElem? (i := 69) rfl)) rfl
set_option maxRecDepth 20000 in
theorem hM_X11_291 : Cond.methodLink RX11 291 yX0_telling ∈ lw_g := lw_gg (lw_in4 (List.mem_of_getElem? (i := 70) rfl)) rfl
set_option maxRecDepth 20000 in
theorem hI_X0_telling : Cond.instanceMethod yX0_telling ∈ lw_g := lw_gg (lw_in4 (List.mem_of_getElem? (i := 71) rfl)) rfl
set_option maxRecDepth 20000 in
theorem hS_X0_telling : Cond.selects RX0 yX0_telling yX0_telling ∈ lw_g := lw_gg (lw_in4 (List.mem_of_getElem? (i := 72) rfl)) rfl
set_option maxRecDepth 20000 in
theorem hC_X0_telling : Cond.code yX0_telling cX0_telling 4 (some .int) ∈ lw_g := lw_gg (lw_in4 (List.mem_of_getElem? (i := 73) rfl)) rfl
set_option maxRecDepth 20000 in
theorem hM_X0_15 : Cond.methodLink RX0 15 yX0_holds ∈ lw_g := lw_gg (lw_in4 (List.mem_of_getElem? (i := 74) rfl)) rfl
set_option maxRecDepth 20000 in
theorem hI_X0_holds : Cond.instanceMethod yX0_holds ∈ lw_g := lw_gg (lw_in4 (List.mem_of_getElem? (i := 76) rfl)) rfl
set_option maxRecDepth 20000 in
theorem hC_X0_holds : Cond.code yX0_holds cX0_holds 2 (some .int) ∈ lw_g := lw_gg (lw_in4 (List.mem_of_getElem? (i := 77) rfl)) rfl
set_option maxRecDepth 20000 in
theorem hM_X0_30 : Cond.methodLink RX0 30 yX0_leave ∈ lw_g := lw_gg (lw_in4 (List.mem_of_getElem? (i := 78) rfl)) rfl
set_option maxRecDepth 20000 in
theorem hI_X0_leave : Cond.instanceMethod yX0_leave ∈ lw_g := lw_gg (lw_in4 (List.mem_of_getElem? (i := 80) rfl)) rfl
set_option maxRecDepth 20000 in
theorem hC_X0_leave : Cond.code yX0_leave cX0_leave 2 none ∈ lw_g := lw_gg (lw_in4 (List.mem_of_getElem? (i := 81) rfl)) rfl
set_option maxRecDepth 20000 in
theorem hM_X0_19 : Cond.methodLink RX0 19 yX0_ramps ∈ lw_g := lw_gg (lw_in4 (List.mem_of_getElem? (i := 82) rfl)) rfl
set_option maxRecDepth 20000 in
theorem hI_X0_ramps : Cond.instanceMethod yX0_ramps ∈ lw_g := lw_gg (lw_in4 (List.mem_of_getElem? (i := 84) rfl)) rfl
set_option maxRecDepth 20000 in
theorem hC_X0_ramps : Cond.code yX0_ramps cX0_ramps 2 (some .int) ∈ lw_g := lw_gg (lw_in4 (List.mem_of_getElem? (i := 85) rfl)) rfl
set_option maxRecDepth 20000 in
theorem hM_X0_22 : Cond.methodLink RX0 22 yX0_waits ∈ lw_g := lw_gg (lw_in4 (List.mem_of_getElem? (i := 86) rfl)) rfl
set_option maxRecDepth 20000 in
theorem hI_X0_waits : Cond.instanceMethod yX0_waits ∈ lw_g := lw_gg (lw_in4 (List.mem_of_getElem? (i := 88) rfl)) rfl
set_option maxRecDepth 20000 in
theorem hC_X0_waits : Cond.code yX0_waits cX0_waits 3 (some .int) ∈ lw_g := lw_gg (lw_in4 (List.mem_of_getElem? (i := 89) rfl)) rfl
set_option maxRecDepth 20000 in
theorem hM_X0_26 : Cond.methodLink RX0 26 yX0_loops ∈ lw_g := lw_gg (lw_in4 (List.mem_of_getElem? (i := 90) rfl)) rfl
set_option maxRecDepth 20000 in
theorem hI_X0_loops : Cond.instanceMethod yX0_loops ∈ lw_g := lw_gg (lw_in4 (List.mem_of_getElem? (i := 92) rfl)) rfl
set_option maxRecDepth 20000 in
theorem hC_X0_loops : Cond.code yX0_loops cX0_loops 1 (some .int) ∈ lw_g := lw_gg (lw_in4 (List.mem_of_getElem? (i := 93) rfl)) rfl
set_option maxRecDepth 20000 in
theorem hM_L_137 : Cond.methodLink RL 137 yX11_draw ∈ lw_g := lw_gg (lw_in4 (List.mem_of_getElem? (i := 94) rfl)) rfl
set_option maxRecDepth 20000 in
theorem hI_X11_draw : Cond.instanceMethod yX11_draw ∈ lw_g := lw_gg (lw_in4 (List.mem_of_getElem? (i := 95) rfl)) rfl
set_option maxRecDepth 20000 in
theorem hS_X11_draw : Cond.selects RX11 yX11_draw yX11_draw ∈ lw_g := lw_gg (lw_in4 (List.mem_of_getElem? (i := 96) rfl)) rfl
set_option maxRecDepth 20000 in
theorem hC_X11_draw : Cond.code yX11_draw cX11_draw 2 (some .int) ∈ lw_g := lw_gg (lw_in4 (List.mem_of_getElem? (i := 97) rfl)) rfl
set_option maxRecDepth 20000 in
theorem hM_X11_295 : Cond.methodLink RX11 295 yX0_drawing ∈ lw_g := lw_gg (lw_in4 (List.mem_of_getElem? (i := 98) rfl)) rfl
set_option maxRecDepth 20000 in
theorem hI_X0_drawing : Cond.instanceMethod yX0_drawing ∈ lw_g := lw_gg (lw_in4 (List.mem_of_getElem? (i := 99) rfl)) rfl
set_option maxRecDepth 20000 in
theorem hS_X0_drawing : Cond.selects RX0 yX0_drawing yX0_drawing ∈ lw_g := lw_gg (lw_in4 (List.mem_of_getElem? (i := 100) rfl)) rfl
set_option maxRecDepth 20000 in
theorem hC_X0_drawing : Cond.code yX0_drawing cX0_drawing 2 (some .int) ∈ lw_g := lw_gg (lw_in4 (List.mem_of_getElem? (i := 101) rfl)) rfl
set_option maxRecDepth 20000 in
theorem hM_L_141 : Cond.methodLink RL 141 yX11_as ∈ lw_g := lw_gg (lw_in4 (List.mem_of_getElem? (i := 102) rfl)) rfl
set_option maxRecDepth 20000 in
theorem hI_X11_as : Cond.instanceMethod yX11_as ∈ lw_g := lw_gg (lw_in4 (List.mem_of_getElem? (i := 103) rfl)) rfl
set_option maxRecDepth 20000 in
theorem hS_X11_as : Cond.selects RX11 yX11_as yX11_as ∈ lw_g := lw_gg (lw_in4 (List.mem_of_getElem? (i := 104) rfl)) rfl
set_option maxRecDepth 20000 in
theorem hC_X11_as : Cond.code yX11_as cX11_as 3 (some .int) ∈ lw_g := lw_gg (lw_in4 (List.mem_of_getElem? (i := 105) rfl)) rfl
set_option maxRecDepth 20000 in
theorem hM_X11_298 : Cond.methodLink RX11 298 yX0_isA ∈ lw_g := lw_gg (lw_in4 (List.mem_of_getElem? (i := 106) rfl)) rfl
set_option maxRecDepth 20000 in
theorem hT_X0_isA : Cond.static yX0_isA ∈ lw_g := lw_gg (lw_in4 (List.mem_of_getElem? (i := 107) rfl)) rfl
set_option maxRecDepth 20000 in
theorem hC_X0_isA : Cond.code yX0_isA cX0_isA 2 (some .boolean) ∈ lw_g := lw_gg (lw_in4 (List.mem_of_getElem? (i := 108) rfl)) rfl
set_option maxRecDepth 20000 in
theorem hM_L_145 : Cond.methodLink RL 145 yX11_trace ∈ lw_g := lw_gg (lw_in4 (List.mem_of_getElem? (i := 109) rfl)) rfl
set_option maxRecDepth 20000 in
theorem hI_X11_trace : Cond.instanceMethod yX11_trace ∈ lw_g := lw_gg (lw_in4 (List.mem_of_getElem? (i := 110) rfl)) rfl
set_option maxRecDepth 20000 in
theorem hS_X11_trace : Cond.selects RX11 yX11_trace yX11_trace ∈ lw_g := lw_gg (lw_in4 (List.mem_of_getElem? (i := 111) rfl)) rfl
set_option maxRecDepth 20000 in
theorem hC_X11_trace : Cond.code yX11_trace cX11_trace 1 (some .int) ∈ lw_g := lw_gg (lw_in4 (List.mem_of_getElem? (i := 112) rfl)) rfl
set_option maxRecDepth 20000 in
theorem hM_L_149 : Cond.methodLink RL 149 yX11_fault ∈ lw_g := lw_gg (lw_in4 (List.mem_of_getElem? (i := 113) rfl)) rfl
set_option maxRecDepth 20000 in
theorem hI_X11_fault : Cond.instanceMethod yX11_fault ∈ lw_g := lw_gg (lw_in4 (List.mem_of_getElem? (i := 114) rfl)) rfl
set_option maxRecDepth 20000 in
theorem hS_X11_fault : Cond.selects RX11 yX11_fault yX11_fault ∈ lw_g := lw_gg (lw_in4 (List.mem_of_getElem? (i := 115) rfl)) rfl
set_option maxRecDepth 20000 in
theorem hC_X11_fault : Cond.code yX11_fault cX11_fault 1 (some .int) ∈ lw_g := lw_gg (lw_in4 (List.mem_of_getElem? (i := 116) rfl)) rfl
set_option maxRecDepth 20000 in
theorem hL_L_10 : Cond.classLink RL 10 RX12 ∈ lw_g := lw_gg (lw_in4 (List.mem_of_getElem? (i := 117) rfl)) rfl
set_option maxRecDepth 20000 in
theorem hB_X12 : Cond.instantiable RX12 52 ∈ lw_g := lw_gg (lw_in4 (List.mem_of_getElem? (i := 118) rfl)) rfl
set_option maxRecDepth 20000 in
theorem hM_L_12 : Cond.methodLink RL 12 yX12_init ∈ lw_g := lw_gg (lw_in4 (List.mem_of_getElem? (i := 119) rfl)) rfl
set_option maxRecDepth 20000 in
theorem hI_X12_init : Cond.instanceMethod yX12_init ∈ lw_g := lw_gg (lw_in4 (List.mem_of_getElem? (i := 120) rfl)) rfl
set_option maxRecDepth 20000 in
theorem hC_X12_init : Cond.code yX12_init cX12_init 1 none ∈ lw_g := lw_gg (lw_in4 (List.mem_of_getElem? (i := 121) rfl)) rfl
set_option maxRecDepth 20000 in
theorem hM_X12_1 : Cond.methodLink RX12 1 objectInit ∈ lw_g := lw_gg (lw_in4 (List.mem_of_getElem? (i := 122) rfl)) rfl
set_option maxRecDepth 20000 in
theorem hF_X12_103 : Cond.fieldLink RX12 103 "EngineCellModel" "fault" "I" ∈ lw_g := lw_gg (lw_in4 (List.mem_of_getElem? (i := 123) rfl)) rfl
set_option maxRecDepth 20000 in
theorem hF_X12_296 : Cond.fieldLink RX12 296 "EngineCellModel" "trace" "I" ∈ lw_g := lw_gg (lw_in4 (List.mem_of_getElem? (i := 124) rfl)) rfl
set_option maxRecDepth 20000 in
theorem hF_X12_7 : Cond.fieldLink RX12 7 "EngineCellModel" "map" "[I" ∈ lw_g := lw_gg (lw_in4 (List.mem_of_getElem? (i := 125) rfl)) rfl
set_option maxRecDepth 20000 in
theorem hF_X12_13 : Cond.fieldLink RX12 13 "EngineCellModel" "lag" "I" ∈ lw_g := lw_gg (lw_in4 (List.mem_of_getElem? (i := 126) rfl)) rfl
set_option maxRecDepth 20000 in
theorem hF_X12_118 : Cond.fieldLink RX12 118 "EngineCellModel" "room" "I" ∈ lw_g := lw_gg (lw_in4 (List.mem_of_getElem? (i := 127) rfl)) rfl
set_option maxRecDepth 20000 in
theorem hF_X12_190 : Cond.fieldLink RX12 190 "EngineCellModel" "tick" "I" ∈ lw_g := lw_gg (lw_in4 (List.mem_of_getElem? (i := 128) rfl)) rfl
set_option maxRecDepth 20000 in
theorem hF_X12_164 : Cond.fieldLink RX12 164 "EngineCellModel" "at" "I" ∈ lw_g := lw_gg (lw_in4 (List.mem_of_getElem? (i := 129) rfl)) rfl
set_option maxRecDepth 20000 in
theorem hF_X12_167 : Cond.fieldLink RX12 167 "EngineCellModel" "inStep" "I" ∈ lw_g := lw_gg (lw_in4 (List.mem_of_getElem? (i := 130) rfl)) rfl
set_option maxRecDepth 20000 in
theorem hF_X12_196 : Cond.fieldLink RX12 196 "EngineCellModel" "beginSpeed" "I" ∈ lw_g := lw_gg (lw_in4 (List.mem_of_getElem? (i := 131) rfl)) rfl
set_option maxRecDepth 20000 in
theorem hF_X12_202 : Cond.fieldLink RX12 202 "EngineCellModel" "beginPedal" "I" ∈ lw_g := lw_gg (lw_in4 (List.mem_of_getElem? (i := 132) rfl)) rfl
set_option maxRecDepth 20000 in
theorem hF_X12_17 : Cond.fieldLink RX12 17 "EngineCellModel" "kind" "I" ∈ lw_g := lw_gg (lw_in4 (List.mem_of_getElem? (i := 133) rfl)) rfl
set_option maxRecDepth 20000 in
theorem hF_X12_170 : Cond.fieldLink RX12 170 "EngineCellModel" "acts" "I" ∈ lw_g := lw_gg (lw_in4 (List.mem_of_getElem? (i := 134) rfl)) rfl
set_option maxRecDepth 20000 in
theorem hF_X12_20 : Cond.fieldLink RX12 20 "EngineCellModel" "was" "[I" ∈ lw_g := lw_gg (lw_in4 (List.mem_of_getElem? (i := 135) rfl)) rfl
set_option maxRecDepth 20000 in
theorem hF_X12_139 : Cond.fieldLink RX12 139 "EngineCellModel" "steps" "I" ∈ lw_g := lw_gg (lw_in4 (List.mem_of_getElem? (i := 136) rfl)) rfl
set_option maxRecDepth 20000 in
theorem hF_X12_23 : Cond.fieldLink RX12 23 "EngineCellModel" "stepKind" "[I" ∈ lw_g := lw_gg (lw_in4 (List.mem_of_getElem? (i := 137) rfl)) rfl
set_option maxRecDepth 20000 in
theorem hF_X12_26 : Cond.fieldLink RX12 26 "EngineCellModel" "stepA" "[I" ∈ lw_g := lw_gg (lw_in4 (List.mem_of_getElem? (i := 138) rfl)) rfl
set_option maxRecDepth 20000 in
theorem hF_X12_29 : Cond.fieldLink RX12 29 "EngineCellModel" "stepB" "[I" ∈ lw_g := lw_gg (lw_in4 (List.mem_of_getElem? (i := 139) rfl)) rfl
set_option maxRecDepth 20000 in
theorem hF_X12_32 : Cond.fieldLink RX12 32 "EngineCellModel" "stepC" "[I" ∈ lw_g := lw_gg (lw_in4 (List.mem_of_getElem? (i := 140) rfl)) rfl
set_option maxRecDepth 20000 in
theorem hF_X12_35 : Cond.fieldLink RX12 35 "EngineCellModel" "led" "[I" ∈ lw_g := lw_gg (lw_in4 (List.mem_of_getElem? (i := 141) rfl)) rfl
set_option maxRecDepth 20000 in
theorem hF_X12_38 : Cond.fieldLink RX12 38 "EngineCellModel" "lanes" "[I" ∈ lw_g := lw_gg (lw_in4 (List.mem_of_getElem? (i := 142) rfl)) rfl
set_option maxRecDepth 20000 in
theorem hF_X12_41 : Cond.fieldLink RX12 41 "EngineCellModel" "sheetLong" "[I" ∈ lw_g := lw_gg (lw_in4 (List.mem_of_getElem? (i := 143) rfl)) rfl
set_option maxRecDepth 20000 in
theorem hF_X12_44 : Cond.fieldLink RX12 44 "EngineCellModel" "cells" "[I" ∈ lw_g := lw_gg (lw_in4 (List.mem_of_getElem? (i := 144) rfl)) rfl
set_option maxRecDepth 20000 in
theorem hF_X12_187 : Cond.fieldLink RX12 187 "EngineCellModel" "marks" "I" ∈ lw_g := lw_gg (lw_in4 (List.mem_of_getElem? (i := 145) rfl)) rfl
set_option maxRecDepth 20000 in
theorem hF_X12_47 : Cond.fieldLink RX12 47 "EngineCellModel" "markTick" "[I" ∈ lw_g := lw_gg (lw_in4 (List.mem_of_getElem? (i := 146) rfl)) rfl
set_option maxRecDepth 20000 in
theorem hF_X12_193 : Cond.fieldLink RX12 193 "EngineCellModel" "wantedSpeed" "I" ∈ lw_g := lw_gg (lw_in4 (List.mem_of_getElem? (i := 147) rfl)) rfl
set_option maxRecDepth 20000 in
theorem hF_X12_199 : Cond.fieldLink RX12 199 "EngineCellModel" "pedal" "I" ∈ lw_g := lw_gg (lw_in4 (List.mem_of_getElem? (i := 148) rfl)) rfl
set_option maxRecDepth 20000 in
theorem hF_X12_205 : Cond.fieldLink RX12 205 "EngineCellModel" "channels" "I" ∈ lw_g := lw_gg (lw_in4 (List.mem_of_getElem? (i := 149) rfl)) rfl
set_option maxRecDepth 20000 in
theorem hF_X12_50 : Cond.fieldLink RX12 50 "EngineCellModel" "source" "[I" ∈ lw_g := lw_gg (lw_in4 (List.mem_of_getElem? (i := 150) rfl)) rfl
set_option maxRecDepth 20000 in
theorem hF_X12_53 : Cond.fieldLink RX12 53 "EngineCellModel" "rate" "[I" ∈ lw_g := lw_gg (lw_in4 (List.mem_of_getElem? (i := 151) rfl)) rfl
set_option maxRecDepth 20000 in
theorem hF_X12_56 : Cond.fieldLink RX12 56 "EngineCellModel" "delay" "[I" ∈ lw_g := lw_gg (lw_in4 (List.mem_of_getElem? (i := 152) rfl)) rfl
set_option maxRecDepth 20000 in
theorem hF_X12_59 : Cond.fieldLink RX12 59 "EngineCellModel" "low" "[I" ∈ lw_g := lw_gg (lw_in4 (List.mem_of_getElem? (i := 153) rfl)) rfl
set_option maxRecDepth 20000 in
theorem hF_X12_62 : Cond.fieldLink RX12 62 "EngineCellModel" "high" "[I" ∈ lw_g := lw_gg (lw_in4 (List.mem_of_getElem? (i := 154) rfl)) rfl
set_option maxRecDepth 20000 in
theorem hF_X12_65 : Cond.fieldLink RX12 65 "EngineCellModel" "hasLimit" "[Z" ∈ lw_g := lw_gg (lw_in4 (List.mem_of_getElem? (i := 155) rfl)) rfl
set_option maxRecDepth 20000 in
theorem hF_X12_69 : Cond.fieldLink RX12 69 "EngineCellModel" "limits" "[I" ∈ lw_g := lw_gg (lw_in4 (List.mem_of_getElem? (i := 156) rfl)) rfl
set_option maxRecDepth 20000 in
theorem hF_X12_240 : Cond.fieldLink RX12 240 "EngineCellModel" "losses" "I" ∈ lw_g := lw_gg (lw_in4 (List.mem_of_getElem? (i := 157) rfl)) rfl
set_option maxRecDepth 20000 in
theorem hF_X12_72 : Cond.fieldLink RX12 72 "EngineCellModel" "lossOf" "[I" ∈ lw_g := lw_gg (lw_in4 (List.mem_of_getElem? (i := 158) rfl)) rfl
set_option maxRecDepth 20000 in
theorem hF_X12_75 : Cond.fieldLink RX12 75 "EngineCellModel" "lossFrom" "[I" ∈ lw_g := lw_gg (lw_in4 (List.mem_of_getElem? (i := 159) rfl)) rfl
set_option maxRecDepth 20000 in
theorem hF_X12_78 : Cond.fieldLink RX12 78 "EngineCellModel" "lossTo" "[I" ∈ lw_g := lw_gg (lw_in4 (List.mem_of_getElem? (i := 160) rfl)) rfl
set_option maxRecDepth 20000 in
theorem hF_X12_222 : Cond.fieldLink RX12 222 "EngineCellModel" "corrections" "I" ∈ lw_g := lw_gg (lw_in4 (List.mem_of_getElem? (i := 161) rfl)) rfl
set_option maxRecDepth 20000 in
theorem hF_X12_81 : Cond.fieldLink RX12 81 "EngineCellModel" "correctOf" "[I" ∈ lw_g := lw_gg (lw_in4 (List.mem_of_getElem? (i := 162) rfl)) rfl
set_option maxRecDepth 20000 in
theorem hF_X12_84 : Cond.fieldLink RX12 84 "EngineCellModel" "correctFrom" "[I" ∈ lw_g := lw_gg (lw_in4 (List.mem_of_getElem? (i := 163) rfl)) rfl
set_option maxRecDepth 20000 in
theorem hF_X12_87 : Cond.fieldLink RX12 87 "EngineCellModel" "correctBy" "[I" ∈ lw_g := lw_gg (lw_in4 (List.mem_of_getElem? (i := 164) rfl)) rfl
set_option maxRecDepth 20000 in
theorem hF_X12_90 : Cond.fieldLink RX12 90 "EngineCellModel" "correctMore" "[I" ∈ lw_g := lw_gg (lw_in4 (List.mem_of_getElem? (i := 165) rfl)) rfl
set_option maxRecDepth 20000 in
theorem hF_X12_93 : Cond.fieldLink RX12 93 "EngineCellModel" "numbers" "[J" ∈ lw_g := lw_gg (lw_in4 (List.mem_of_getElem? (i := 166) rfl)) rfl
set_option maxRecDepth 20000 in
theorem hF_X12_260 : Cond.fieldLink RX12 260 "EngineCellModel" "others" "I" ∈ lw_g := lw_gg (lw_in4 (List.mem_of_getElem? (i := 167) rfl)) rfl
set_option maxRecDepth 20000 in
theorem hF_X12_97 : Cond.fieldLink RX12 97 "EngineCellModel" "otherAt" "[I" ∈ lw_g := lw_gg (lw_in4 (List.mem_of_getElem? (i := 168) rfl)) rfl
set_option maxRecDepth 20000 in
theorem hF_X12_100 : Cond.fieldLink RX12 100 "EngineCellModel" "kept" "[J" ∈ lw_g := lw_gg (lw_in4 (List.mem_of_getElem? (i := 169) rfl)) rfl
set_option maxRecDepth 20000 in
theorem hF_X12_263 : Cond.fieldLink RX12 263 "EngineCellModel" "lawN" "J" ∈ lw_g := lw_gg (lw_in4 (List.mem_of_getElem? (i := 170) rfl)) rfl
set_option maxRecDepth 20000 in
theorem hF_X12_273 : Cond.fieldLink RX12 273 "EngineCellModel" "lawA" "J" ∈ lw_g := lw_gg (lw_in4 (List.mem_of_getElem? (i := 171) rfl)) rfl
set_option maxRecDepth 20000 in
theorem hF_X12_276 : Cond.fieldLink RX12 276 "EngineCellModel" "lawB" "J" ∈ lw_g := lw_gg (lw_in4 (List.mem_of_getElem? (i := 172) rfl)) rfl
set_option maxRecDepth 20000 in
theorem hF_X12_267 : Cond.fieldLink RX12 267 "EngineCellModel" "lawSum" "J" ∈ lw_g := lw_gg (lw_in4 (List.mem_of_getElem? (i := 173) rfl)) rfl
set_option maxRecDepth 20000 in
theorem hF_X12_270 : Cond.fieldLink RX12 270 "EngineCellModel" "lawMost" "J" ∈ lw_g := lw_gg (lw_in4 (List.mem_of_getElem? (i := 174) rfl)) rfl
set_option maxRecDepth 20000 in
theorem hA_boolean : Cond.arrayClass .boolean ∈ lw_g := lw_gg (lw_in5 (List.mem_of_getElem? (i := 40) rfl)) rfl
set_option maxRecDepth 20000 in
theorem hM_L_17 : Cond.methodLink RL 17 yX12_map ∈ lw_g := lw_gg (lw_in5 (List.mem_of_getElem? (i := 41) rfl)) rfl
set_option maxRecDepth 20000 in
theorem hI_X12_map : Cond.instanceMethod yX12_map ∈ lw_g := lw_gg (lw_in5 (List.mem_of_getElem? (i := 42) rfl)) rfl
set_option maxRecDepth 20000 in
theorem hS_X12_map : Cond.selects RX12 yX12_map yX12_map ∈ lw_g := lw_gg (lw_in5 (List.mem_of_getElem? (i := 43) rfl)) rfl
set_option maxRecDepth 20000 in
theorem hC_X12_map : Cond.code yX12_map cX12_map 4 (some .int) ∈ lw_g := lw_gg (lw_in5 (List.mem_of_getElem? (i := 44) rfl)) rfl
set_option maxRecDepth 20000 in
theorem hK_X12_108 : Cond.constantLong RX12 108 (24) ∈ lw_g := lw_gg (lw_in5 (List.mem_of_getElem? (i := 45) rfl)) rfl
set_option maxRecDepth 20000 in
theorem hM_X12_110 : Cond.methodLink RX12 110 yX12_within ∈ lw_g := lw_gg (lw_in5 (List.mem_of_getElem? (i := 46) rfl)) rfl
set_option maxRecDepth 20000 in
theorem hT_X12_within : Cond.static yX12_within ∈ lw_g := lw_gg (lw_in5 (List.mem_of_getElem? (i := 47) rfl)) rfl
set_option maxRecDepth 20000 in
theorem hC_X12_within : Cond.code yX12_within cX12_within 6 (some .boolean) ∈ lw_g := lw_gg (lw_in5 (List.mem_of_getElem? (i := 48) rfl)) rfl
set_option maxRecDepth 20000 in
theorem hK_X12_114 : Cond.constantLong RX12 114 (-500) ∈ lw_g := lw_gg (lw_in5 (List.mem_of_getElem? (i := 49) rfl)) rfl
set_option maxRecDepth 20000 in
theorem hK_X12_116 : Cond.constantLong RX12 116 (1000) ∈ lw_g := lw_gg (lw_in5 (List.mem_of_getElem? (i := 50) rfl)) rfl
set_option maxRecDepth 20000 in
theorem hM_L_22 : Cond.methodLink RL 22 yX12_torque ∈ lw_g := lw_gg (lw_in5 (List.mem_of_getElem? (i := 51) rfl)) rfl
set_option maxRecDepth 20000 in
theorem hI_X12_torque : Cond.instanceMethod yX12_torque ∈ lw_g := lw_gg (lw_in5 (List.mem_of_getElem? (i := 52) rfl)) rfl
set_option maxRecDepth 20000 in
theorem hS_X12_torque : Cond.selects RX12 yX12_torque yX12_torque ∈ lw_g := lw_gg (lw_in5 (List.mem_of_getElem? (i := 53) rfl)) rfl
set_option maxRecDepth 20000 in
theorem hC_X12_torque : Cond.code yX12_torque cX12_torque 3 (some .long) ∈ lw_g := lw_gg (lw_in5 (List.mem_of_getElem? (i := 54) rfl)) rfl
set_option maxRecDepth 20000 in
theorem hK_X12_127 : Cond.constantLong RX12 127 (8000) ∈ lw_g := lw_gg (lw_in5 (List.mem_of_getElem? (i := 55) rfl)) rfl
set_option maxRecDepth 20000 in
theorem hM_X12_129 : Cond.methodLink RX12 129 yX12_torqueAt ∈ lw_g := lw_gg (lw_in5 (List.mem_of_getElem? (i := 56) rfl)) rfl
set_option maxRecDepth 20000 in
theorem hI_X12_torqueAt : Cond.instanceMethod yX12_torqueAt ∈ lw_g := lw_gg (lw_in5 (List.mem_of_getElem? (i := 58) rfl)) rfl
set_option maxRecDepth 20000 in
theorem hC_X12_torqueAt : Cond.code yX12_torqueAt cX12_torqueAt 11 (some .int) ∈ lw_g := lw_gg (lw_in5 (List.mem_of_getElem? (i := 59) rfl)) rfl
set_option maxRecDepth 20000 in
theorem hK_X12_121 : Cond.constantLong RX12 121 (2000) ∈ lw_g := lw_gg (lw_in5 (List.mem_of_getElem? (i := 60) rfl)) rfl
set_option maxRecDepth 20000 in
theorem hK_X12_123 : Cond.constantLong RX12 123 (250) ∈ lw_g := lw_gg (lw_in5 (List.mem_of_getElem? (i := 61) rfl)) rfl
set_option maxRecDepth 20000 in
theorem hK_X12_125 : Cond.constantLong RX12 125 (500000) ∈ lw_g := lw_gg (lw_in5 (List.mem_of_getElem? (i := 62) rfl)) rfl
set_option maxRecDepth 20000 in
theorem hK_X12_106 : Cond.constantLong RX12 106 (-9223372036854775808) ∈ lw_g := lw_gg (lw_in5 (List.mem_of_getElem? (i := 63) rfl)) rfl
set_option maxRecDepth 20000 in
theorem hM_L_27 : Cond.methodLink RL 27 yX12_lag ∈ lw_g := lw_gg (lw_in5 (List.mem_of_getElem? (i := 64) rfl)) rfl
set_option maxRecDepth 20000 in
theorem hI_X12_lag : Cond.instanceMethod yX12_lag ∈ lw_g := lw_gg (lw_in5 (List.mem_of_getElem? (i := 65) rfl)) rfl
set_option maxRecDepth 20000 in
theorem hS_X12_lag : Cond.selects RX12 yX12_lag yX12_lag ∈ lw_g := lw_gg (lw_in5 (List.mem_of_getElem? (i := 66) rfl)) rfl
set_option maxRecDepth 20000 in
theorem hC_X12_lag : Cond.code yX12_lag cX12_lag 3 (some .int) ∈ lw_g := lw_gg (lw_in5 (List.mem_of_getElem? (i := 67) rfl)) rfl
set_option maxRecDepth 20000 in
theorem hK_X12_133 : Cond.constantLong RX12 133 (20) ∈ lw_g := lw_gg (lw_in5 (List.mem_of_getElem? (i := 68) rfl)) rfl
set_option maxRecDepth 20000 in
theorem hM_L_32 : Cond.methodLink RL 32 yX12_step ∈ lw_g := lw_gg (lw_in5 (List.mem_of_getElem? (i := 69) rfl)) rfl
set_option maxRecDepth 20000 in
theorem hI_X12_step : Cond.instanceMethod yX12_step ∈ lw_g := lw_gg (lw_in5 (List.mem_of_getElem? (i := 70) rfl)) rfl
set_option maxRecDepth 20000 in
theorem hS_X12_step : Cond.selects RX12 yX12_step yX12_step ∈ lw_g := lw_gg (lw_in5 (List.mem_of_getElem? (i := 71) rfl)) rfl
set_option maxRecDepth 20000 in
theorem hC_X12_step : Cond.code yX12_step cX12_step 5 (some .int) ∈ lw_g := lw_gg (lw_in5 (List.mem_of_getElem? (i := 72) rfl)) rfl
set_option maxRecDepth 20000 in
theorem hM_X12_142 : Cond.methodLink RX12 142 yX12_mayStand ∈ lw_g := lw_gg (lw_in5 (List.mem_of_getElem? (i := 73) rfl)) rfl
set_option maxRecDepth 20000 in
theorem hT_X12_mayStand : Cond.static yX12_mayStand ∈ lw_g := lw_gg (lw_in5 (List.mem_of_getElem? (i := 74) rfl)) rfl
set_option maxRecDepth 20000 in
theorem hC_X12_mayStand : Cond.code yX12_mayStand cX12_mayStand 5 (some .boolean) ∈ lw_g := lw_gg (lw_in5 (List.mem_of_getElem? (i := 75) rfl)) rfl
set_option maxRecDepth 20000 in
theorem hK_X12_135 : Cond.constantLong RX12 135 (500) ∈ lw_g := lw_gg (lw_in5 (List.mem_of_getElem? (i := 76) rfl)) rfl
set_option maxRecDepth 20000 in
theorem hK_X12_137 : Cond.constantLong RX12 137 (100) ∈ lw_g := lw_gg (lw_in5 (List.mem_of_getElem? (i := 77) rfl)) rfl
set_option maxRecDepth 20000 in
theorem hM_X12_146 : Cond.methodLink RX12 146 yX12_addStep ∈ lw_g := lw_gg (lw_in5 (List.mem_of_getElem? (i := 78) rfl)) rfl
set_option maxRecDepth 20000 in
theorem hI_X12_addStep : Cond.instanceMethod yX12_addStep ∈ lw_g := lw_gg (lw_in5 (List.mem_of_getElem? (i := 80) rfl)) rfl
set_option maxRecDepth 20000 in
theorem hC_X12_addStep : Cond.code yX12_addStep cX12_addStep 5 none ∈ lw_g := lw_gg (lw_in5 (List.mem_of_getElem? (i := 81) rfl)) rfl
set_option maxRecDepth 20000 in
theorem hM_L_36 : Cond.methodLink RL 36 yX12_load ∈ lw_g := lw_gg (lw_in5 (List.mem_of_getElem? (i := 82) rfl)) rfl
set_option maxRecDepth 20000 in
theorem hI_X12_load : Cond.instanceMethod yX12_load ∈ lw_g := lw_gg (lw_in5 (List.mem_of_getElem? (i := 83) rfl)) rfl
set_option maxRecDepth 20000 in
theorem hS_X12_load : Cond.selects RX12 yX12_load yX12_load ∈ lw_g := lw_gg (lw_in5 (List.mem_of_getElem? (i := 84) rfl)) rfl
set_option maxRecDepth 20000 in
theorem hC_X12_load : Cond.code yX12_load cX12_load 7 (some .int) ∈ lw_g := lw_gg (lw_in5 (List.mem_of_getElem? (i := 85) rfl)) rfl
set_option maxRecDepth 20000 in
theorem hK_X12_150 : Cond.constantLong RX12 150 (3) ∈ lw_g := lw_gg (lw_in5 (List.mem_of_getElem? (i := 86) rfl)) rfl
set_option maxRecDepth 20000 in
theorem hK_X12_152 : Cond.constantLong RX12 152 (2) ∈ lw_g := lw_gg (lw_in5 (List.mem_of_getElem? (i := 87) rfl)) rfl
set_option maxRecDepth 20000 in
theorem hM_X12_154 : Cond.methodLink RX12 154 yX12_fails ∈ lw_g := lw_gg (lw_in5 (List.mem_of_getElem? (i := 88) rfl)) rfl
set_option maxRecDepth 20000 in
theorem hI_X12_fails : Cond.instanceMethod yX12_fails ∈ lw_g := lw_gg (lw_in5 (List.mem_of_getElem? (i := 90) rfl)) rfl
set_option maxRecDepth 20000 in
theorem hC_X12_fails : Cond.code yX12_fails cX12_fails 2 (some .int) ∈ lw_g := lw_gg (lw_in5 (List.mem_of_getElem? (i := 91) rfl)) rfl
set_option maxRecDepth 20000 in
theorem hK_X12_158 : Cond.constantLong RX12 158 (4) ∈ lw_g := lw_gg (lw_in5 (List.mem_of_getElem? (i := 92) rfl)) rfl
set_option maxRecDepth 20000 in
theorem hM_L_41 : Cond.methodLink RL 41 yX12_clear ∈ lw_g := lw_gg (lw_in5 (List.mem_of_getElem? (i := 93) rfl)) rfl
set_option maxRecDepth 20000 in
theorem hI_X12_clear : Cond.instanceMethod yX12_clear ∈ lw_g := lw_gg (lw_in5 (List.mem_of_getElem? (i := 94) rfl)) rfl
set_option maxRecDepth 20000 in
theorem hS_X12_clear : Cond.selects RX12 yX12_clear yX12_clear ∈ lw_g := lw_gg (lw_in5 (List.mem_of_getElem? (i := 95) rfl)) rfl
set_option maxRecDepth 20000 in
theorem hC_X12_clear : Cond.code yX12_clear cX12_clear 2 (some .int) ∈ lw_g := lw_gg (lw_in5 (List.mem_of_getElem? (i := 96) rfl)) rfl
set_option maxRecDepth 20000 in
theorem hM_L_45 : Cond.methodLink RL 45 yX12_stepped ∈ lw_g := lw_gg (lw_in5 (List.mem_of_getElem? (i := 97) rfl)) rfl
set_option maxRecDepth 20000 in
theorem hI_X12_stepped : Cond.instanceMethod yX12_stepped ∈ lw_g := lw_gg (lw_in5 (List.mem_of_getElem? (i := 98) rfl)) rfl
set_option maxRecDepth 20000 in
theorem hS_X12_stepped : Cond.selects RX12 yX12_stepped yX12_stepped ∈ lw_g := lw_gg (lw_in5 (List.mem_of_getElem? (i := 99) rfl)) rfl
set_option maxRecDepth 20000 in
theorem hC_X12_stepped : Cond.code yX12_stepped cX12_stepped 3 (some .int) ∈ lw_g := lw_gg (lw_in5 (List.mem_of_getElem? (i := 100) rfl)) rfl
set_option maxRecDepth 20000 in
theorem hM_X12_160 : Cond.methodLink RX12 160 yX12_isStep ∈ lw_g := lw_gg (lw_in5 (List.mem_of_getElem? (i := 101) rfl)) rfl
set_option maxRecDepth 20000 in
theorem hI_X12_isStep : Cond.instanceMethod yX12_isStep ∈ lw_g := lw_gg (lw_in5 (List.mem_of_getElem? (i := 103) rfl)) rfl
set_option maxRecDepth 20000 in
theorem hC_X12_isStep : Cond.code yX12_isStep cX12_isStep 2 (some .boolean) ∈ lw_g := lw_gg (lw_in5 (List.mem_of_getElem? (i := 104) rfl)) rfl
set_option maxRecDepth 20000 in
theorem hM_L_49 : Cond.methodLink RL 49 yX12_start ∈ lw_g := lw_gg (lw_in5 (List.mem_of_getElem? (i := 105) rfl)) rfl
set_option maxRecDepth 20000 in
theorem hI_X12_start : Cond.instanceMethod yX12_start ∈ lw_g := lw_gg (lw_in5 (List.mem_of_getElem? (i := 106) rfl)) rfl
set_option maxRecDepth 20000 in
theorem hS_X12_start : Cond.selects RX12 yX12_start yX12_start ∈ lw_g := lw_gg (lw_in5 (List.mem_of_getElem? (i := 107) rfl)) rfl
set_option maxRecDepth 20000 in
theorem hC_X12_start : Cond.code yX12_start cX12_start 2 (some .int) ∈ lw_g := lw_gg (lw_in5 (List.mem_of_getElem? (i := 108) rfl)) rfl
set_option maxRecDepth 20000 in
theorem hM_L_53 : Cond.methodLink RL 53 yX12_tick ∈ lw_g := lw_gg (lw_in5 (List.mem_of_getElem? (i := 109) rfl)) rfl
set_option maxRecDepth 20000 in
theorem hI_X12_tick : Cond.instanceMethod yX12_tick ∈ lw_g := lw_gg (lw_in5 (List.mem_of_getElem? (i := 110) rfl)) rfl
set_option maxRecDepth 20000 in
theorem hS_X12_tick : Cond.selects RX12 yX12_tick yX12_tick ∈ lw_g := lw_gg (lw_in5 (List.mem_of_getElem? (i := 111) rfl)) rfl
set_option maxRecDepth 20000 in
theorem hC_X12_tick : Cond.code yX12_tick cX12_tick 3 (some .int) ∈ lw_g := lw_gg (lw_in5 (List.mem_of_getElem? (i := 112) rfl)) rfl
set_option maxRecDepth 20000 in
theorem hM_X12_219 : Cond.methodLink RX12 219 yX12_turn ∈ lw_g := lw_gg (lw_in5 (List.mem_of_getElem? (i := 113) rfl)) rfl
set_option maxRecDepth 20000 in
theorem hI_X12_turn : Cond.instanceMethod yX12_turn ∈ lw_g := lw_gg (lw_in5 (List.mem_of_getElem? (i := 115) rfl)) rfl
set_option maxRecDepth 20000 in
theorem hC_X12_turn : Cond.code yX12_turn cX12_turn 11 none ∈ lw_g := lw_gg (lw_in5 (List.mem_of_getElem? (i := 116) rfl)) rfl
set_option maxRecDepth 20000 in
theorem hM_X12_216 : Cond.methodLink RX12 216 yX12_goOn ∈ lw_g := lw_gg (lw_in5 (List.mem_of_getElem? (i := 117) rfl)) rfl
set_option maxRecDepth 20000 in
theorem hI_X12_goOn : Cond.instanceMethod yX12_goOn ∈ lw_g := lw_gg (lw_in5 (List.mem_of_getElem? (i := 119) rfl)) rfl
set_option maxRecDepth 20000 in
theorem hC_X12_goOn : Cond.code yX12_goOn cX12_goOn 2 none ∈ lw_g := lw_gg (lw_in5 (List.mem_of_getElem? (i := 120) rfl)) rfl
set_option maxRecDepth 20000 in
theorem hM_X12_173 : Cond.methodLink RX12 173 yX12_stopBy ∈ lw_g := lw_gg (lw_in5 (List.mem_of_getElem? (i := 121) rfl)) rfl
set_option maxRecDepth 20000 in
theorem hI_X12_stopBy : Cond.instanceMethod yX12_stopBy ∈ lw_g := lw_gg (lw_in5 (List.mem_of_getElem? (i := 123) rfl)) rfl
set_option maxRecDepth 20000 in
theorem hC_X12_stopBy : Cond.code yX12_stopBy cX12_stopBy 2 none ∈ lw_g := lw_gg (lw_in5 (List.mem_of_getElem? (i := 124) rfl)) rfl
set_option maxRecDepth 20000 in
theorem hM_X12_177 : Cond.methodLink RX12 177 yX12_passes ∈ lw_g := lw_gg (lw_in5 (List.mem_of_getElem? (i := 125) rfl)) rfl
set_option maxRecDepth 20000 in
theorem hI_X12_passes : Cond.instanceMethod yX12_passes ∈ lw_g := lw_gg (lw_in5 (List.mem_of_getElem? (i := 127) rfl)) rfl
set_option maxRecDepth 20000 in
theorem hC_X12_passes : Cond.code yX12_passes cX12_passes 2 none ∈ lw_g := lw_gg (lw_in5 (List.mem_of_getElem? (i := 128) rfl)) rfl
set_option maxRecDepth 20000 in
theorem hM_X12_180 : Cond.methodLink RX12 180 yX12_ramp ∈ lw_g := lw_gg (lw_in5 (List.mem_of_getElem? (i := 129) rfl)) rfl
set_option maxRecDepth 20000 in
theorem hI_X12_ramp : Cond.instanceMethod yX12_ramp ∈ lw_g := lw_gg (lw_in5 (List.mem_of_getElem? (i := 131) rfl)) rfl
set_option maxRecDepth 20000 in
theorem hC_X12_ramp : Cond.code yX12_ramp cX12_ramp 2 none ∈ lw_g := lw_gg (lw_in5 (List.mem_of_getElem? (i := 132) rfl)) rfl
set_option maxRecDepth 20000 in
theorem hM_X12_183 : Cond.methodLink RX12 183 yX12_waits ∈ lw_g := lw_gg (lw_in5 (List.mem_of_getElem? (i := 133) rfl)) rfl
set_option maxRecDepth 20000 in
theorem hI_X12_waits : Cond.instanceMethod yX12_waits ∈ lw_g := lw_gg (lw_in5 (List.mem_of_getElem? (i := 135) rfl)) rfl
set_option maxRecDepth 20000 in
theorem hC_X12_waits : Cond.code yX12_waits cX12_waits 3 (some .boolean) ∈ lw_g := lw_gg (lw_in5 (List.mem_of_getElem? (i := 136) rfl)) rfl
set_option maxRecDepth 20000 in
theorem hM_X12_208 : Cond.methodLink RX12 208 yX12_isLost ∈ lw_g := lw_gg (lw_in5 (List.mem_of_getElem? (i := 137) rfl)) rfl
set_option maxRecDepth 20000 in
theorem hI_X12_isLost : Cond.instanceMethod yX12_isLost ∈ lw_g := lw_gg (lw_in5 (List.mem_of_getElem? (i := 139) rfl)) rfl
set_option maxRecDepth 20000 in
theorem hC_X12_isLost : Cond.code yX12_isLost cX12_isLost 5 (some .boolean) ∈ lw_g := lw_gg (lw_in5 (List.mem_of_getElem? (i := 140) rfl)) rfl
set_option maxRecDepth 20000 in
theorem hM_X12_212 : Cond.methodLink RX12 212 yX12_corrected ∈ lw_g := lw_gg (lw_in5 (List.mem_of_getElem? (i := 141) rfl)) rfl
set_option maxRecDepth 20000 in
theorem hI_X12_corrected : Cond.instanceMethod yX12_corrected ∈ lw_g := lw_gg (lw_in5 (List.mem_of_getElem? (i := 143) rfl)) rfl
set_option maxRecDepth 20000 in
theorem hC_X12_corrected : Cond.code yX12_corrected cX12_corrected 6 (some .long) ∈ lw_g := lw_gg (lw_in5 (List.mem_of_getElem? (i := 144) rfl)) rfl
set_option maxRecDepth 20000 in
theorem hM_X12_243 : Cond.methodLink RX12 243 yX12_raw ∈ lw_g := lw_gg (lw_in5 (List.mem_of_getElem? (i := 145) rfl)) rfl
set_option maxRecDepth 20000 in
theorem hI_X12_raw : Cond.instanceMethod yX12_raw ∈ lw_g := lw_gg (lw_in5 (List.mem_of_getElem? (i := 147) rfl)) rfl
set_option maxRecDepth 20000 in
theorem hC_X12_raw : Cond.code yX12_raw cX12_raw 3 (some .int) ∈ lw_g := lw_gg (lw_in5 (List.mem_of_getElem? (i := 148) rfl)) rfl
set_option maxRecDepth 20000 in
theorem hM_L_57 : Cond.methodLink RL 57 yX12_stop ∈ lw_g := lw_gg (lw_in5 (List.mem_of_getElem? (i := 149) rfl)) rfl
set_option maxRecDepth 20000 in
theorem hI_X12_stop : Cond.instanceMethod yX12_stop ∈ lw_g := lw_gg (lw_in5 (List.mem_of_getElem? (i := 150) rfl)) rfl
set_option maxRecDepth 20000 in
theorem hS_X12_stop : Cond.selects RX12 yX12_stop yX12_stop ∈ lw_g := lw_gg (lw_in5 (List.mem_of_getElem? (i := 151) rfl)) rfl
set_option maxRecDepth 20000 in
theorem hC_X12_stop : Cond.code yX12_stop cX12_stop 1 (some .int) ∈ lw_g := lw_gg (lw_in5 (List.mem_of_getElem? (i := 152) rfl)) rfl
set_option maxRecDepth 20000 in
theorem hM_L_61 : Cond.methodLink RL 61 yX12_reset ∈ lw_g := lw_gg (lw_in5 (List.mem_of_getElem? (i := 153) rfl)) rfl
set_option maxRecDepth 20000 in
theorem hI_X12_reset : Cond.instanceMethod yX12_reset ∈ lw_g := lw_gg (lw_in5 (List.mem_of_getElem? (i := 154) rfl)) rfl
set_option maxRecDepth 20000 in
theorem hS_X12_reset : Cond.selects RX12 yX12_reset yX12_reset ∈ lw_g := lw_gg (lw_in5 (List.mem_of_getElem? (i := 155) rfl)) rfl
set_option maxRecDepth 20000 in
theorem hC_X12_reset : Cond.code yX12_reset cX12_reset 2 (some .int) ∈ lw_g := lw_gg (lw_in5 (List.mem_of_getElem? (i := 156) rfl)) rfl
set_option maxRecDepth 20000 in
theorem hM_L_65 : Cond.methodLink RL 65 yX12_told ∈ lw_g := lw_gg (lw_in5 (List.mem_of_getElem? (i := 157) rfl)) rfl
set_option maxRecDepth 20000 in
theorem hI_X12_told : Cond.instanceMethod yX12_told ∈ lw_g := lw_gg (lw_in5 (List.mem_of_getElem? (i := 158) rfl)) rfl
set_option maxRecDepth 20000 in
theorem hS_X12_told : Cond.selects RX12 yX12_told yX12_told ∈ lw_g := lw_gg (lw_in5 (List.mem_of_getElem? (i := 159) rfl)) rfl
set_option maxRecDepth 20000 in
theorem hC_X12_told : Cond.code yX12_told cX12_told 2 (some .int) ∈ lw_g := lw_gg (lw_in5 (List.mem_of_getElem? (i := 160) rfl)) rfl
set_option maxRecDepth 20000 in
theorem hM_L_69 : Cond.methodLink RL 69 yX12_was ∈ lw_g := lw_gg (lw_in5 (List.mem_of_getElem? (i := 161) rfl)) rfl
set_option maxRecDepth 20000 in
theorem hI_X12_was : Cond.instanceMethod yX12_was ∈ lw_g := lw_gg (lw_in5 (List.mem_of_getElem? (i := 162) rfl)) rfl
set_option maxRecDepth 20000 in
theorem hS_X12_was : Cond.selects RX12 yX12_was yX12_was ∈ lw_g := lw_gg (lw_in5 (List.mem_of_getElem? (i := 163) rfl)) rfl
set_option maxRecDepth 20000 in
theorem hC_X12_was : Cond.code yX12_was cX12_was 3 (some .int) ∈ lw_g := lw_gg (lw_in5 (List.mem_of_getElem? (i := 164) rfl)) rfl
set_option maxRecDepth 20000 in
theorem hK_X12_225 : Cond.constantLong RX12 225 (6) ∈ lw_g := lw_gg (lw_in5 (List.mem_of_getElem? (i := 165) rfl)) rfl
set_option maxRecDepth 20000 in
theorem hM_L_73 : Cond.methodLink RL 73 yX12_mark ∈ lw_g := lw_gg (lw_in5 (List.mem_of_getElem? (i := 166) rfl)) rfl
set_option maxRecDepth 20000 in
theorem hI_X12_mark : Cond.instanceMethod yX12_mark ∈ lw_g := lw_gg (lw_in5 (List.mem_of_getElem? (i := 167) rfl)) rfl
set_option maxRecDepth 20000 in
theorem hS_X12_mark : Cond.selects RX12 yX12_mark yX12_mark ∈ lw_g := lw_gg (lw_in5 (List.mem_of_getElem? (i := 168) rfl)) rfl
set_option maxRecDepth 20000 in
theorem hC_X12_mark : Cond.code yX12_mark cX12_mark 2 (some .int) ∈ lw_g := lw_gg (lw_in5 (List.mem_of_getElem? (i := 169) rfl)) rfl
set_option maxRecDepth 20000 in
theorem hM_L_78 : Cond.methodLink RL 78 yX12_channel ∈ lw_g := lw_gg (lw_in5 (List.mem_of_getElem? (i := 170) rfl)) rfl
set_option maxRecDepth 20000 in
theorem hI_X12_channel : Cond.instanceMethod yX12_channel ∈ lw_g := lw_gg (lw_in5 (List.mem_of_getElem? (i := 171) rfl)) rfl
set_option maxRecDepth 20000 in
theorem hS_X12_channel : Cond.selects RX12 yX12_channel yX12_channel ∈ lw_g := lw_gg (lw_in5 (List.mem_of_getElem? (i := 172) rfl)) rfl
set_option maxRecDepth 20000 in
theorem hC_X12_channel : Cond.code yX12_channel cX12_channel 6 (some .int) ∈ lw_g := lw_gg (lw_in5 (List.mem_of_getElem? (i := 173) rfl)) rfl
set_option maxRecDepth 20000 in
theorem hK_X12_227 : Cond.constantLong RX12 227 (-10000) ∈ lw_g := lw_gg (lw_in5 (List.mem_of_getElem? (i := 174) rfl)) rfl
set_option maxRecDepth 20000 in
theorem hK_X12_229 : Cond.constantLong RX12 229 (10000) ∈ lw_g := lw_gg (lw_in5 (List.mem_of_getElem? (i := 175) rfl)) rfl
set_option maxRecDepth 20000 in
theorem hM_L_82 : Cond.methodLink RL 82 yX12_limit ∈ lw_g := lw_gg (lw_in5 (List.mem_of_getElem? (i := 176) rfl)) rfl
set_option maxRecDepth 20000 in
theorem hI_X12_limit : Cond.instanceMethod yX12_limit ∈ lw_g := lw_gg (lw_in5 (List.mem_of_getElem? (i := 177) rfl)) rfl
set_option maxRecDepth 20000 in
theorem hS_X12_limit : Cond.selects RX12 yX12_limit yX12_limit ∈ lw_g := lw_gg (lw_in5 (List.mem_of_getElem? (i := 178) rfl)) rfl
set_option maxRecDepth 20000 in
theorem hC_X12_limit : Cond.code yX12_limit cX12_limit 3 (some .int) ∈ lw_g := lw_gg (lw_in5 (List.mem_of_getElem? (i := 179) rfl)) rfl
set_option maxRecDepth 20000 in
theorem hM_X12_231 : Cond.methodLink RX12 231 yX12_isChannel ∈ lw_g := lw_gg (lw_in5 (List.mem_of_getElem? (i := 180) rfl)) rfl
set_option maxRecDepth 20000 in
theorem hI_X12_isChannel : Cond.instanceMethod yX12_isChannel ∈ lw_g := lw_gg (lw_in5 (List.mem_of_getElem? (i := 182) rfl)) rfl
set_option maxRecDepth 20000 in
theorem hC_X12_isChannel : Cond.code yX12_isChannel cX12_isChannel 2 (some .boolean) ∈ lw_g := lw_gg (lw_in5 (List.mem_of_getElem? (i := 183) rfl)) rfl
set_option maxRecDepth 20000 in
theorem hK_X12_234 : Cond.constantLong RX12 234 (-30000) ∈ lw_g := lw_gg (lw_in5 (List.mem_of_getElem? (i := 184) rfl)) rfl
set_option maxRecDepth 20000 in
theorem hK_X12_236 : Cond.constantLong RX12 236 (30000) ∈ lw_g := lw_gg (lw_in5 (List.mem_of_getElem? (i := 185) rfl)) rfl
set_option maxRecDepth 20000 in
theorem hM_L_87 : Cond.methodLink RL 87 yX12_lose ∈ lw_g := lw_gg (lw_in5 (List.mem_of_getElem? (i := 186) rfl)) rfl
set_option maxRecDepth 20000 in
theorem hI_X12_lose : Cond.instanceMethod yX12_lose ∈ lw_g := lw_gg (lw_in5 (List.mem_of_getElem? (i := 187) rfl)) rfl
set_option maxRecDepth 20000 in
theorem hS_X12_lose : Cond.selects RX12 yX12_lose yX12_lose ∈ lw_g := lw_gg (lw_in5 (List.mem_of_getElem? (i := 188) rfl)) rfl
set_option maxRecDepth 20000 in
theorem hC_X12_lose : Cond.code yX12_lose cX12_lose 4 (some .int) ∈ lw_g := lw_gg (lw_in5 (List.mem_of_getElem? (i := 189) rfl)) rfl
set_option maxRecDepth 20000 in
theorem hK_X12_238 : Cond.constantLong RX12 238 (3000) ∈ lw_g := lw_gg (lw_in5 (List.mem_of_getElem? (i := 190) rfl)) rfl
set_option maxRecDepth 20000 in
theorem hM_L_99 : Cond.methodLink RL 99 yX12_reading ∈ lw_g := lw_gg (lw_in5 (List.mem_of_getElem? (i := 191) rfl)) rfl
set_option maxRecDepth 20000 in
theorem hI_X12_reading : Cond.instanceMethod yX12_reading ∈ lw_g := lw_gg (lw_in5 (List.mem_of_getElem? (i := 192) rfl)) rfl
set_option maxRecDepth 20000 in
theorem hS_X12_reading : Cond.selects RX12 yX12_reading yX12_reading ∈ lw_g := lw_gg (lw_in5 (List.mem_of_getElem? (i := 193) rfl)) rfl
set_option maxRecDepth 20000 in
theorem hC_X12_reading : Cond.code yX12_reading cX12_reading 3 (some .long) ∈ lw_g := lw_gg (lw_in5 (List.mem_of_getElem? (i := 194) rfl)) rfl
set_option maxRecDepth 20000 in
theorem hM_X12_246 : Cond.methodLink RX12 246 yX12_isRead ∈ lw_g := lw_gg (lw_in5 (List.mem_of_getElem? (i := 195) rfl)) rfl
set_option maxRecDepth 20000 in
theorem hI_X12_isRead : Cond.instanceMethod yX12_isRead ∈ lw_g := lw_gg (lw_in5 (List.mem_of_getElem? (i := 197) rfl)) rfl
set_option maxRecDepth 20000 in
theorem hC_X12_isRead : Cond.code yX12_isRead cX12_isRead 3 (some .boolean) ∈ lw_g := lw_gg (lw_in5 (List.mem_of_getElem? (i := 198) rfl)) rfl
set_option maxRecDepth 20000 in
theorem hM_L_103 : Cond.methodLink RL 103 yX12_state ∈ lw_g := lw_gg (lw_in5 (List.mem_of_getElem? (i := 199) rfl)) rfl
set_option maxRecDepth 20000 in
theorem hI_X12_state : Cond.instanceMethod yX12_state ∈ lw_g := lw_gg (lw_in5 (List.mem_of_getElem? (i := 200) rfl)) rfl
set_option maxRecDepth 20000 in
theorem hS_X12_state : Cond.selects RX12 yX12_state yX12_state ∈ lw_g := lw_gg (lw_in5 (List.mem_of_getElem? (i := 201) rfl)) rfl
set_option maxRecDepth 20000 in
theorem hC_X12_state : Cond.code yX12_state cX12_state 3 (some .int) ∈ lw_g := lw_gg (lw_in5 (List.mem_of_getElem? (i := 202) rfl)) rfl
set_option maxRecDepth 20000 in
theorem hM_X12_249 : Cond.methodLink RX12 249 yX12_isCut ∈ lw_g := lw_gg (lw_in5 (List.mem_of_getElem? (i := 203) rfl)) rfl
set_option maxRecDepth 20000 in
theorem hI_X12_isCut : Cond.instanceMethod yX12_isCut ∈ lw_g := lw_gg (lw_in5 (List.mem_of_getElem? (i := 205) rfl)) rfl
set_option maxRecDepth 20000 in
theorem hC_X12_isCut : Cond.code yX12_isCut cX12_isCut 4 (some .boolean) ∈ lw_g := lw_gg (lw_in5 (List.mem_of_getElem? (i := 206) rfl)) rfl
set_option maxRecDepth 20000 in
theorem hM_L_108 : Cond.methodLink RL 108 yX12_report ∈ lw_g := lw_gg (lw_in5 (List.mem_of_getElem? (i := 207) rfl)) rfl
set_option maxRecDepth 20000 in
theorem hI_X12_report : Cond.instanceMethod yX12_report ∈ lw_g := lw_gg (lw_in5 (List.mem_of_getElem? (i := 208) rfl)) rfl
set_option maxRecDepth 20000 in
theorem hS_X12_report : Cond.selects RX12 yX12_report yX12_report ∈ lw_g := lw_gg (lw_in5 (List.mem_of_getElem? (i := 209) rfl)) rfl
set_option maxRecDepth 20000 in
theorem hC_X12_report : Cond.code yX12_report cX12_report 4 (some .long) ∈ lw_g := lw_gg (lw_in5 (List.mem_of_getElem? (i := 210) rfl)) rfl
set_option maxRecDepth 20000 in
theorem hK_X12_252 : Cond.constantLong RX12 252 (7) ∈ lw_g := lw_gg (lw_in5 (List.mem_of_getElem? (i := 211) rfl)) rfl
set_option maxRecDepth 20000 in
theorem hM_X12_254 : Cond.methodLink RX12 254 yX12_makeReport ∈ lw_g := lw_gg (lw_in5 (List.mem_of_getElem? (i := 212) rfl)) rfl
set_option maxRecDepth 20000 in
theorem hI_X12_makeReport : Cond.instanceMethod yX12_makeReport ∈ lw_g := lw_gg (lw_in5 (List.mem_of_getElem? (i := 214) rfl)) rfl
set_option maxRecDepth 20000 in
theorem hC_X12_makeReport : Cond.code yX12_makeReport cX12_makeReport 9 none ∈ lw_g := lw_gg (lw_in5 (List.mem_of_getElem? (i := 215) rfl)) rfl
set_option maxRecDepth 20000 in
theorem hM_L_91 : Cond.methodLink RL 91 yX12_correct ∈ lw_g := lw_gg (lw_in5 (List.mem_of_getElem? (i := 216) rfl)) rfl
set_option maxRecDepth 20000 in
theorem hI_X12_correct : Cond.instanceMethod yX12_correct ∈ lw_g := lw_gg (lw_in5 (List.mem_of_getElem? (i := 217) rfl)) rfl
set_option maxRecDepth 20000 in
theorem hS_X12_correct : Cond.selects RX12 yX12_correct yX12_correct ∈ lw_g := lw_gg (lw_in5 (List.mem_of_getElem? (i := 218) rfl)) rfl
set_option maxRecDepth 20000 in
theorem hC_X12_correct : Cond.code yX12_correct cX12_correct 7 (some .int) ∈ lw_g := lw_gg (lw_in5 (List.mem_of_getElem? (i := 219) rfl)) rfl
set_option maxRecDepth 20000 in
theorem hK_X12_258 : Cond.constantLong RX12 258 (-1000) ∈ lw_g := lw_gg (lw_in5 (List.mem_of_getElem? (i := 220) rfl)) rfl
set_option maxRecDepth 20000 in
theorem hM_L_95 : Cond.methodLink RL 95 yX12_other ∈ lw_g := lw_gg (lw_in5 (List.mem_of_getElem? (i := 221) rfl)) rfl
set_option maxRecDepth 20000 in
theorem hI_X12_other : Cond.instanceMethod yX12_other ∈ lw_g := lw_gg (lw_in5 (List.mem_of_getElem? (i := 222) rfl)) rfl
set_option maxRecDepth 20000 in
theorem hS_X12_other : Cond.selects RX12 yX12_other yX12_other ∈ lw_g := lw_gg (lw_in5 (List.mem_of_getElem? (i := 223) rfl)) rfl
set_option maxRecDepth 20000 in
theorem hC_X12_other : Cond.code yX12_other cX12_other 2 (some .int) ∈ lw_g := lw_gg (lw_in5 (List.mem_of_getElem? (i := 224) rfl)) rfl
set_option maxRecDepth 20000 in
theorem hM_L_112 : Cond.methodLink RL 112 yX12_valid ∈ lw_g := lw_gg (lw_in5 (List.mem_of_getElem? (i := 225) rfl)) rfl
set_option maxRecDepth 20000 in
theorem hI_X12_valid : Cond.instanceMethod yX12_valid ∈ lw_g := lw_gg (lw_in5 (List.mem_of_getElem? (i := 226) rfl)) rfl
set_option maxRecDepth 20000 in
theorem hS_X12_valid : Cond.selects RX12 yX12_valid yX12_valid ∈ lw_g := lw_gg (lw_in5 (List.mem_of_getElem? (i := 227) rfl)) rfl
set_option maxRecDepth 20000 in
theorem hC_X12_valid : Cond.code yX12_valid cX12_valid 2 (some .int) ∈ lw_g := lw_gg (lw_in5 (List.mem_of_getElem? (i := 228) rfl)) rfl
set_option maxRecDepth 20000 in
theorem hM_X12_279 : Cond.methodLink RX12 279 yX12_makeLaw ∈ lw_g := lw_gg (lw_in5 (List.mem_of_getElem? (i := 229) rfl)) rfl
set_option maxRecDepth 20000 in
theorem hI_X12_makeLaw : Cond.instanceMethod yX12_makeLaw ∈ lw_g := lw_gg (lw_in5 (List.mem_of_getElem? (i := 231) rfl)) rfl
set_option maxRecDepth 20000 in
theorem hC_X12_makeLaw : Cond.code yX12_makeLaw cX12_makeLaw 17 none ∈ lw_g := lw_gg (lw_in5 (List.mem_of_getElem? (i := 232) rfl)) rfl
set_option maxRecDepth 20000 in
theorem hK_X12_282 : Cond.constantLong RX12 282 (950) ∈ lw_g := lw_gg (lw_in5 (List.mem_of_getElem? (i := 233) rfl)) rfl
set_option maxRecDepth 20000 in
theorem hK_X12_284 : Cond.constantLong RX12 284 (1050) ∈ lw_g := lw_gg (lw_in5 (List.mem_of_getElem? (i := 234) rfl)) rfl
set_option maxRecDepth 20000 in
theorem hK_X12_286 : Cond.constantLong RX12 286 (50) ∈ lw_g := lw_gg (lw_in5 (List.mem_of_getElem? (i := 235) rfl)) rfl
set_option maxRecDepth 20000 in
theorem hK_X12_288 : Cond.constantLong RX12 288 (-50) ∈ lw_g := lw_gg (lw_in5 (List.mem_of_getElem? (i := 236) rfl)) rfl
set_option maxRecDepth 20000 in
theorem hK_X12_290 : Cond.constantLong RX12 290 (400) ∈ lw_g := lw_gg (lw_in5 (List.mem_of_getElem? (i := 237) rfl)) rfl
set_option maxRecDepth 20000 in
theorem hM_L_116 : Cond.methodLink RL 116 yX12_law ∈ lw_g := lw_gg (lw_in5 (List.mem_of_getElem? (i := 238) rfl)) rfl
set_option maxRecDepth 20000 in
theorem hI_X12_law : Cond.instanceMethod yX12_law ∈ lw_g := lw_gg (lw_in5 (List.mem_of_getElem? (i := 239) rfl)) rfl
set_option maxRecDepth 20000 in
theorem hS_X12_law : Cond.selects RX12 yX12_law yX12_law ∈ lw_g := lw_gg (lw_in6 (List.mem_of_getElem? (i := 0) rfl)) rfl
set_option maxRecDepth 20000 in
theorem hC_X12_law : Cond.code yX12_law cX12_law 3 (some .long) ∈ lw_g := lw_gg (lw_in6 (List.mem_of_getElem? (i := 1) rfl)) rfl
set_option maxRecDepth 20000 in
theorem hM_L_120 : Cond.methodLink RL 120 yX12_sheet ∈ lw_g := lw_gg (lw_in6 (List.mem_of_getElem? (i := 2) rfl)) rfl
set_option maxRecDepth 20000 in
theorem hI_X12_sheet : Cond.instanceMethod yX12_sheet ∈ lw_g := lw_gg (lw_in6 (List.mem_of_getElem? (i := 3) rfl)) rfl
set_option maxRecDepth 20000 in
theorem hS_X12_sheet : Cond.selects RX12 yX12_sheet yX12_sheet ∈ lw_g := lw_gg (lw_in6 (List.mem_of_getElem? (i := 4) rfl)) rfl
set_option maxRecDepth 20000 in
theorem hC_X12_sheet : Cond.code yX12_sheet cX12_sheet 5 (some .int) ∈ lw_g := lw_gg (lw_in6 (List.mem_of_getElem? (i := 5) rfl)) rfl
set_option maxRecDepth 20000 in
theorem hM_L_124 : Cond.methodLink RL 124 yX12_drop ∈ lw_g := lw_gg (lw_in6 (List.mem_of_getElem? (i := 6) rfl)) rfl
set_option maxRecDepth 20000 in
theorem hI_X12_drop : Cond.instanceMethod yX12_drop ∈ lw_g := lw_gg (lw_in6 (List.mem_of_getElem? (i := 7) rfl)) rfl
set_option maxRecDepth 20000 in
theorem hS_X12_drop : Cond.selects RX12 yX12_drop yX12_drop ∈ lw_g := lw_gg (lw_in6 (List.mem_of_getElem? (i := 8) rfl)) rfl
set_option maxRecDepth 20000 in
theorem hC_X12_drop : Cond.code yX12_drop cX12_drop 3 (some .int) ∈ lw_g := lw_gg (lw_in6 (List.mem_of_getElem? (i := 9) rfl)) rfl
set_option maxRecDepth 20000 in
theorem hM_L_128 : Cond.methodLink RL 128 yX12_put ∈ lw_g := lw_gg (lw_in6 (List.mem_of_getElem? (i := 10) rfl)) rfl
set_option maxRecDepth 20000 in
theorem hI_X12_put : Cond.instanceMethod yX12_put ∈ lw_g := lw_gg (lw_in6 (List.mem_of_getElem? (i := 11) rfl)) rfl
set_option maxRecDepth 20000 in
theorem hS_X12_put : Cond.selects RX12 yX12_put yX12_put ∈ lw_g := lw_gg (lw_in6 (List.mem_of_getElem? (i := 12) rfl)) rfl
set_option maxRecDepth 20000 in
theorem hC_X12_put : Cond.code yX12_put cX12_put 4 (some .int) ∈ lw_g := lw_gg (lw_in6 (List.mem_of_getElem? (i := 13) rfl)) rfl
set_option maxRecDepth 20000 in
theorem hM_L_132 : Cond.methodLink RL 132 yX12_at ∈ lw_g := lw_gg (lw_in6 (List.mem_of_getElem? (i := 14) rfl)) rfl
set_option maxRecDepth 20000 in
theorem hI_X12_at : Cond.instanceMethod yX12_at ∈ lw_g := lw_gg (lw_in6 (List.mem_of_getElem? (i := 15) rfl)) rfl
set_option maxRecDepth 20000 in
theorem hS_X12_at : Cond.selects RX12 yX12_at yX12_at ∈ lw_g := lw_gg (lw_in6 (List.mem_of_getElem? (i := 16) rfl)) rfl
set_option maxRecDepth 20000 in
theorem hC_X12_at : Cond.code yX12_at cX12_at 4 (some .long) ∈ lw_g := lw_gg (lw_in6 (List.mem_of_getElem? (i := 17) rfl)) rfl
set_option maxRecDepth 20000 in
theorem hM_X12_292 : Cond.methodLink RX12 292 yX12_lost ∈ lw_g := lw_gg (lw_in6 (List.mem_of_getElem? (i := 18) rfl)) rfl
set_option maxRecDepth 20000 in
theorem hI_X12_lost : Cond.instanceMethod yX12_lost ∈ lw_g := lw_gg (lw_in6 (List.mem_of_getElem? (i := 20) rfl)) rfl
set_option maxRecDepth 20000 in
theorem hC_X12_lost : Cond.code yX12_lost cX12_lost 2 (some .long) ∈ lw_g := lw_gg (lw_in6 (List.mem_of_getElem? (i := 21) rfl)) rfl
set_option maxRecDepth 20000 in
theorem hM_L_136 : Cond.methodLink RL 136 yX12_tell ∈ lw_g := lw_gg (lw_in6 (List.mem_of_getElem? (i := 22) rfl)) rfl
set_option maxRecDepth 20000 in
theorem hI_X12_tell : Cond.instanceMethod yX12_tell ∈ lw_g := lw_gg (lw_in6 (List.mem_of_getElem? (i := 23) rfl)) rfl
set_option maxRecDepth 20000 in
theorem hS_X12_tell : Cond.selects RX12 yX12_tell yX12_tell ∈ lw_g := lw_gg (lw_in6 (List.mem_of_getElem? (i := 24) rfl)) rfl
set_option maxRecDepth 20000 in
theorem hC_X12_tell : Cond.code yX12_tell cX12_tell 2 (some .int) ∈ lw_g := lw_gg (lw_in6 (List.mem_of_getElem? (i := 25) rfl)) rfl
set_option maxRecDepth 20000 in
theorem hM_X12_299 : Cond.methodLink RX12 299 yX12_begins ∈ lw_g := lw_gg (lw_in6 (List.mem_of_getElem? (i := 26) rfl)) rfl
set_option maxRecDepth 20000 in
theorem hI_X12_begins : Cond.instanceMethod yX12_begins ∈ lw_g := lw_gg (lw_in6 (List.mem_of_getElem? (i := 28) rfl)) rfl
set_option maxRecDepth 20000 in
theorem hC_X12_begins : Cond.code yX12_begins cX12_begins 2 none ∈ lw_g := lw_gg (lw_in6 (List.mem_of_getElem? (i := 29) rfl)) rfl
set_option maxRecDepth 20000 in
theorem hM_L_140 : Cond.methodLink RL 140 yX12_draw ∈ lw_g := lw_gg (lw_in6 (List.mem_of_getElem? (i := 30) rfl)) rfl
set_option maxRecDepth 20000 in
theorem hI_X12_draw : Cond.instanceMethod yX12_draw ∈ lw_g := lw_gg (lw_in6 (List.mem_of_getElem? (i := 31) rfl)) rfl
set_option maxRecDepth 20000 in
theorem hS_X12_draw : Cond.selects RX12 yX12_draw yX12_draw ∈ lw_g := lw_gg (lw_in6 (List.mem_of_getElem? (i := 32) rfl)) rfl
set_option maxRecDepth 20000 in
theorem hC_X12_draw : Cond.code yX12_draw cX12_draw 3 (some .int) ∈ lw_g := lw_gg (lw_in6 (List.mem_of_getElem? (i := 33) rfl)) rfl
set_option maxRecDepth 20000 in
theorem hM_L_144 : Cond.methodLink RL 144 yX12_as ∈ lw_g := lw_gg (lw_in6 (List.mem_of_getElem? (i := 34) rfl)) rfl
set_option maxRecDepth 20000 in
theorem hI_X12_as : Cond.instanceMethod yX12_as ∈ lw_g := lw_gg (lw_in6 (List.mem_of_getElem? (i := 35) rfl)) rfl
set_option maxRecDepth 20000 in
theorem hS_X12_as : Cond.selects RX12 yX12_as yX12_as ∈ lw_g := lw_gg (lw_in6 (List.mem_of_getElem? (i := 36) rfl)) rfl
set_option maxRecDepth 20000 in
theorem hC_X12_as : Cond.code yX12_as cX12_as 5 (some .int) ∈ lw_g := lw_gg (lw_in6 (List.mem_of_getElem? (i := 37) rfl)) rfl
set_option maxRecDepth 20000 in
theorem hM_L_148 : Cond.methodLink RL 148 yX12_trace ∈ lw_g := lw_gg (lw_in6 (List.mem_of_getElem? (i := 38) rfl)) rfl
set_option maxRecDepth 20000 in
theorem hI_X12_trace : Cond.instanceMethod yX12_trace ∈ lw_g := lw_gg (lw_in6 (List.mem_of_getElem? (i := 39) rfl)) rfl
set_option maxRecDepth 20000 in
theorem hS_X12_trace : Cond.selects RX12 yX12_trace yX12_trace ∈ lw_g := lw_gg (lw_in6 (List.mem_of_getElem? (i := 40) rfl)) rfl
set_option maxRecDepth 20000 in
theorem hC_X12_trace : Cond.code yX12_trace cX12_trace 1 (some .int) ∈ lw_g := lw_gg (lw_in6 (List.mem_of_getElem? (i := 41) rfl)) rfl
set_option maxRecDepth 20000 in
theorem hM_L_152 : Cond.methodLink RL 152 yX12_fault ∈ lw_g := lw_gg (lw_in6 (List.mem_of_getElem? (i := 42) rfl)) rfl
set_option maxRecDepth 20000 in
theorem hI_X12_fault : Cond.instanceMethod yX12_fault ∈ lw_g := lw_gg (lw_in6 (List.mem_of_getElem? (i := 43) rfl)) rfl
set_option maxRecDepth 20000 in
theorem hS_X12_fault : Cond.selects RX12 yX12_fault yX12_fault ∈ lw_g := lw_gg (lw_in6 (List.mem_of_getElem? (i := 44) rfl)) rfl
set_option maxRecDepth 20000 in
theorem hC_X12_fault : Cond.code yX12_fault cX12_fault 1 (some .int) ∈ lw_g := lw_gg (lw_in6 (List.mem_of_getElem? (i := 45) rfl)) rfl
set_option maxRecDepth 20000 in
theorem hS_X11_findSheet : Cond.selects RX11 yX11_findSheet yX11_findSheet ∈ lw_g := lw_gg (List.mem_append_left _ (List.mem_of_getElem? (i := 0) rfl)) rfl
set_option maxRecDepth 20000 in
theorem hS_X11_faulted : Cond.selects RX11 yX11_faulted yX11_faulted ∈ lw_g := lw_gg (List.mem_append_left _ (List.mem_of_getElem? (i := 1) rfl)) rfl
set_option maxRecDepth 20000 in
theorem hS_X8_comeTo : Cond.selects RX8 yX8_comeTo yX8_comeTo ∈ lw_g := lw_gg (List.mem_append_left _ (List.mem_of_getElem? (i := 2) rfl)) rfl
set_option maxRecDepth 20000 in
theorem hS_X8_goOn : Cond.selects RX8 yX8_goOn yX8_goOn ∈ lw_g := lw_gg (List.mem_append_left _ (List.mem_of_getElem? (i := 3) rfl)) rfl
set_option maxRecDepth 20000 in
theorem hS_X8_spend : Cond.selects RX8 yX8_spend yX8_spend ∈ lw_g := lw_gg (List.mem_append_left _ (List.mem_of_getElem? (i := 4) rfl)) rfl
set_option maxRecDepth 20000 in
theorem hS_X8_ramp : Cond.selects RX8 yX8_ramp yX8_ramp ∈ lw_g := lw_gg (List.mem_append_left _ (List.mem_of_getElem? (i := 5) rfl)) rfl
set_option maxRecDepth 20000 in
theorem hS_X8_isWaitOver : Cond.selects RX8 yX8_isWaitOver yX8_isWaitOver ∈ lw_g := lw_gg (List.mem_append_left _ (List.mem_of_getElem? (i := 6) rfl)) rfl
set_option maxRecDepth 20000 in
theorem hS_X8_loop : Cond.selects RX8 yX8_loop yX8_loop ∈ lw_g := lw_gg (List.mem_append_left _ (List.mem_of_getElem? (i := 7) rfl)) rfl
set_option maxRecDepth 20000 in
theorem hS_X3_change : Cond.selects RX3 yX3_change yX3_change ∈ lw_g := lw_gg (List.mem_append_left _ (List.mem_of_getElem? (i := 8) rfl)) rfl
set_option maxRecDepth 20000 in
theorem hS_X7_join : Cond.selects RX7 yX7_join yX7_join ∈ lw_g := lw_gg (List.mem_append_left _ (List.mem_of_getElem? (i := 9) rfl)) rfl
set_option maxRecDepth 20000 in
theorem hS_X7_count : Cond.selects RX7 yX7_count yX7_count ∈ lw_g := lw_gg (List.mem_append_left _ (List.mem_of_getElem? (i := 10) rfl)) rfl
set_option maxRecDepth 20000 in
theorem hS_X7_name : Cond.selects RX7 yX7_name yX7_name ∈ lw_g := lw_gg (List.mem_append_left _ (List.mem_of_getElem? (i := 11) rfl)) rfl
set_option maxRecDepth 20000 in
theorem hS_X4_count : Cond.selects RX4 yX4_count yX4_count ∈ lw_g := lw_gg (List.mem_append_left _ (List.mem_of_getElem? (i := 12) rfl)) rfl
set_option maxRecDepth 20000 in
theorem hS_X0_holds : Cond.selects RX0 yX0_holds yX0_holds ∈ lw_g := lw_gg (List.mem_append_left _ (List.mem_of_getElem? (i := 13) rfl)) rfl
set_option maxRecDepth 20000 in
theorem hS_X0_leave : Cond.selects RX0 yX0_leave yX0_leave ∈ lw_g := lw_gg (List.mem_append_left _ (List.mem_of_getElem? (i := 14) rfl)) rfl
set_option maxRecDepth 20000 in
theorem hS_X0_ramps : Cond.selects RX0 yX0_ramps yX0_ramps ∈ lw_g := lw_gg (List.mem_append_left _ (List.mem_of_getElem? (i := 15) rfl)) rfl
set_option maxRecDepth 20000 in
theorem hS_X0_waits : Cond.selects RX0 yX0_waits yX0_waits ∈ lw_g := lw_gg (List.mem_append_left _ (List.mem_of_getElem? (i := 16) rfl)) rfl
set_option maxRecDepth 20000 in
theorem hS_X0_loops : Cond.selects RX0 yX0_loops yX0_loops ∈ lw_g := lw_gg (List.mem_append_left _ (List.mem_of_getElem? (i := 17) rfl)) rfl
set_option maxRecDepth 20000 in
theorem hS_X12_torqueAt : Cond.selects RX12 yX12_torqueAt yX12_torqueAt ∈ lw_g := lw_gg (List.mem_append_left _ (List.mem_of_getElem? (i := 18) rfl)) rfl
set_option maxRecDepth 20000 in
theorem hS_X12_addStep : Cond.selects RX12 yX12_addStep yX12_addStep ∈ lw_g := lw_gg (List.mem_append_left _ (List.mem_of_getElem? (i := 19) rfl)) rfl
set_option maxRecDepth 20000 in
theorem hS_X12_fails : Cond.selects RX12 yX12_fails yX12_fails ∈ lw_g := lw_gg (List.mem_append_left _ (List.mem_of_getElem? (i := 20) rfl)) rfl
set_option maxRecDepth 20000 in
theorem hS_X12_isStep : Cond.selects RX12 yX12_isStep yX12_isStep ∈ lw_g := lw_gg (List.mem_append_left _ (List.mem_of_getElem? (i := 21) rfl)) rfl
set_option maxRecDepth 20000 in
theorem hS_X12_turn : Cond.selects RX12 yX12_turn yX12_turn ∈ lw_g := lw_gg (List.mem_append_left _ (List.mem_of_getElem? (i := 22) rfl)) rfl
set_option maxRecDepth 20000 in
theorem hS_X12_goOn : Cond.selects RX12 yX12_goOn yX12_goOn ∈ lw_g := lw_gg (List.mem_append_left _ (List.mem_of_getElem? (i := 23) rfl)) rfl
set_option maxRecDepth 20000 in
theorem hS_X12_stopBy : Cond.selects RX12 yX12_stopBy yX12_stopBy ∈ lw_g := lw_gg (List.mem_append_left _ (List.mem_of_getElem? (i := 24) rfl)) rfl
set_option maxRecDepth 20000 in
theorem hS_X12_passes : Cond.selects RX12 yX12_passes yX12_passes ∈ lw_g := lw_gg (List.mem_append_left _ (List.mem_of_getElem? (i := 25) rfl)) rfl
set_option maxRecDepth 20000 in
theorem hS_X12_ramp : Cond.selects RX12 yX12_ramp yX12_ramp ∈ lw_g := lw_gg (List.mem_append_left _ (List.mem_of_getElem? (i := 26) rfl)) rfl
set_option maxRecDepth 20000 in
theorem hS_X12_waits : Cond.selects RX12 yX12_waits yX12_waits ∈ lw_g := lw_gg (List.mem_append_left _ (List.mem_of_getElem? (i := 27) rfl)) rfl
set_option maxRecDepth 20000 in
theorem hS_X12_isLost : Cond.selects RX12 yX12_isLost yX12_isLost ∈ lw_g := lw_gg (List.mem_append_left _ (List.mem_of_getElem? (i := 28) rfl)) rfl
set_option maxRecDepth 20000 in
theorem hS_X12_corrected : Cond.selects RX12 yX12_corrected yX12_corrected ∈ lw_g := lw_gg (List.mem_append_left _ (List.mem_of_getElem? (i := 29) rfl)) rfl
set_option maxRecDepth 20000 in
theorem hS_X12_raw : Cond.selects RX12 yX12_raw yX12_raw ∈ lw_g := lw_gg (List.mem_append_left _ (List.mem_of_getElem? (i := 30) rfl)) rfl
set_option maxRecDepth 20000 in
theorem hS_X12_isChannel : Cond.selects RX12 yX12_isChannel yX12_isChannel ∈ lw_g := lw_gg (List.mem_append_left _ (List.mem_of_getElem? (i := 31) rfl)) rfl
set_option maxRecDepth 20000 in
theorem hS_X12_isRead : Cond.selects RX12 yX12_isRead yX12_isRead ∈ lw_g := lw_gg (List.mem_append_left _ (List.mem_of_getElem? (i := 32) rfl)) rfl
set_option maxRecDepth 20000 in
theorem hS_X12_isCut : Cond.selects RX12 yX12_isCut yX12_isCut ∈ lw_g := lw_gg (List.mem_append_left _ (List.mem_of_getElem? (i := 33) rfl)) rfl
set_option maxRecDepth 20000 in
theorem hS_X12_makeReport : Cond.selects RX12 yX12_makeReport yX12_makeReport ∈ lw_g := lw_gg (List.mem_append_left _ (List.mem_of_getElem? (i := 34) rfl)) rfl
set_option maxRecDepth 20000 in
theorem hS_X12_makeLaw : Cond.selects RX12 yX12_makeLaw yX12_makeLaw ∈ lw_g := lw_gg (List.mem_append_left _ (List.mem_of_getElem? (i := 35) rfl)) rfl
set_option maxRecDepth 20000 in
theorem hS_X12_lost : Cond.selects RX12 yX12_lost yX12_lost ∈ lw_g := lw_gg (List.mem_append_left _ (List.mem_of_getElem? (i := 36) rfl)) rfl
set_option maxRecDepth 20000 in
theorem hS_X12_begins : Cond.selects RX12 yX12_begins yX12_begins ∈ lw_g := lw_gg (List.mem_append_left _ (List.mem_of_getElem? (i := 37) rfl)) rfl
set_option maxRecDepth 20000 in
theorem hU_X0 : ∀ w ∈ u_ws RX0 TX0 1, w ∈ lw_g := show ∀ w ∈ [u_lay RX0 TX0 0], w ∈ lw_g from List.forall_mem_cons.mpr ⟨lw_gg (lw_in2 (List.mem_of_getElem? (i := 17) rfl)) rfl, fun _ h => absurd h List.not_mem_nil⟩
set_option maxRecDepth 20000 in
theorem hU_X1 : ∀ w ∈ u_ws RX1 TX1 8, w ∈ lw_g := show ∀ w ∈ [u_lay RX1 TX1 0, u_lay RX1 TX1 1, u_lay RX1 TX1 2, u_lay RX1 TX1 3, u_lay RX1 TX1 4, u_lay RX1 TX1 5, u_lay RX1 TX1 6, u_lay RX1 TX1 7], w ∈ lw_g from List.forall_mem_cons.mpr ⟨lw_gg (lw_in3 (List.mem_of_getElem? (i := 120) rfl)) rfl, List.forall_mem_cons.mpr ⟨lw_gg (lw_in3 (List.mem_of_getElem? (i := 122) rfl)) rfl, List.forall_mem_cons.mpr ⟨lw_gg (lw_in3 (List.mem_of_getElem? (i := 124) rfl)) rfl, List.forall_mem_cons.mpr ⟨lw_gg (lw_in3 (List.mem_of_getElem? (i := 126) rfl)) rfl, List.forall_mem_cons.mpr ⟨lw_gg (lw_in3 (List.mem_of_getElem? (i := 128) rfl)) rfl, List.forall_mem_cons.mpr ⟨lw_gg (lw_in3 (List.mem_of_getElem? (i := 130) rfl)) rfl, List.forall_mem_cons.mpr ⟨lw_gg (lw_in3 (List.mem_of_getElem? (i := 132) rfl)) rfl, List.forall_mem_cons.mpr ⟨lw_gg (lw_in3 (List.mem_of_getElem? (i := 134) rfl)) rfl, fun _ h => absurd h List.not_mem_nil⟩⟩⟩⟩⟩⟩⟩⟩
set_option maxRecDepth 20000 in
theorem hU_X2 : ∀ w ∈ u_ws RX2 TX2 5, w ∈ lw_g := show ∀ w ∈ [u_lay RX2 TX2 0, u_lay RX2 TX2 1, u_lay RX2 TX2 2, u_lay RX2 TX2 3, u_lay RX2 TX2 4], w ∈ lw_g from List.forall_mem_cons.mpr ⟨lw_gg (lw_in1 (List.mem_of_getElem? (i := 103) rfl)) rfl, List.forall_mem_cons.mpr ⟨lw_gg (lw_in1 (List.mem_of_getElem? (i := 105) rfl)) rfl, List.forall_mem_cons.mpr ⟨lw_gg (lw_in1 (List.mem_of_getElem? (i := 107) rfl)) rfl, List.forall_mem_cons.mpr ⟨lw_gg (lw_in1 (List.mem_of_getElem? (i := 109) rfl)) rfl, List.forall_mem_cons.mpr ⟨lw_gg (lw_in1 (List.mem_of_getElem? (i := 111) rfl)) rfl, fun _ h => absurd h List.not_mem_nil⟩⟩⟩⟩⟩
set_option maxRecDepth 20000 in
theorem hU_X3 : ∀ w ∈ u_ws RX3 TX3 4, w ∈ lw_g := show ∀ w ∈ [u_lay RX3 TX3 0, u_lay RX3 TX3 1, u_lay RX3 TX3 2, u_lay RX3 TX3 3], w ∈ lw_g from List.forall_mem_cons.mpr ⟨lw_gg (lw_in1 (List.mem_of_getElem? (i := 39) rfl)) rfl, List.forall_mem_cons.mpr ⟨lw_gg (lw_in1 (List.mem_of_getElem? (i := 41) rfl)) rfl, List.forall_mem_cons.mpr ⟨lw_gg (lw_in1 (List.mem_of_getElem? (i := 43) rfl)) rfl, List.forall_mem_cons.mpr ⟨lw_gg (lw_in1 (List.mem_of_getElem? (i := 45) rfl)) rfl, fun _ h => absurd h List.not_mem_nil⟩⟩⟩⟩
set_option maxRecDepth 20000 in
theorem hU_X4 : ∀ w ∈ u_ws RX4 TX4 9, w ∈ lw_g := show ∀ w ∈ [u_lay RX4 TX4 0, u_lay RX4 TX4 1, u_lay RX4 TX4 2, u_lay RX4 TX4 3, u_lay RX4 TX4 4, u_lay RX4 TX4 5, u_lay RX4 TX4 6, u_lay RX4 TX4 7, u_lay RX4 TX4 8], w ∈ lw_g from List.forall_mem_cons.mpr ⟨lw_gg (lw_in1 (List.mem_of_getElem? (i := 230) rfl)) rfl, List.forall_mem_cons.mpr ⟨lw_gg (lw_in1 (List.mem_of_getElem? (i := 232) rfl)) rfl, List.forall_mem_cons.mpr ⟨lw_gg (lw_in1 (List.mem_of_getElem? (i := 234) rfl)) rfl, List.forall_mem_cons.mpr ⟨lw_gg (lw_in1 (List.mem_of_getElem? (i := 236) rfl)) rfl, List.forall_mem_cons.mpr ⟨lw_gg (lw_in1 (List.mem_of_getElem? (i := 238) rfl)) rfl, List.forall_mem_cons.mpr ⟨lw_gg (lw_in2 (List.mem_of_getElem? (i := 0) rfl)) rfl, List.forall_mem_cons.mpr ⟨lw_gg (lw_in2 (List.mem_of_getElem? (i := 2) rfl)) rfl, List.forall_mem_cons.mpr ⟨lw_gg (lw_in2 (List.mem_of_getElem? (i := 4) rfl)) rfl, List.forall_mem_cons.mpr ⟨lw_gg (lw_in2 (List.mem_of_getElem? (i := 6) rfl)) rfl, fun _ h => absurd h List.not_mem_nil⟩⟩⟩⟩⟩⟩⟩⟩⟩
set_option maxRecDepth 20000 in
theorem hU_X5 : ∀ w ∈ u_ws RX5 TX5 2, w ∈ lw_g := show ∀ w ∈ [u_lay RX5 TX5 0, u_lay RX5 TX5 1], w ∈ lw_g from List.forall_mem_cons.mpr ⟨lw_gg (lw_in1 (List.mem_of_getElem? (i := 124) rfl)) rfl, List.forall_mem_cons.mpr ⟨lw_gg (lw_in1 (List.mem_of_getElem? (i := 126) rfl)) rfl, fun _ h => absurd h List.not_mem_nil⟩⟩
set_option maxRecDepth 20000 in
theorem hU_X6 : ∀ w ∈ u_ws RX6 TX6 2, w ∈ lw_g := show ∀ w ∈ [u_lay RX6 TX6 0, u_lay RX6 TX6 1], w ∈ lw_g from List.forall_mem_cons.mpr ⟨lw_gg (lw_in1 (List.mem_of_getElem? (i := 59) rfl)) rfl, List.forall_mem_cons.mpr ⟨lw_gg (lw_in1 (List.mem_of_getElem? (i := 61) rfl)) rfl, fun _ h => absurd h List.not_mem_nil⟩⟩
set_option maxRecDepth 20000 in
theorem hU_X7 : ∀ w ∈ u_ws RX7 TX7 7, w ∈ lw_g := show ∀ w ∈ [u_lay RX7 TX7 0, u_lay RX7 TX7 1, u_lay RX7 TX7 2, u_lay RX7 TX7 3, u_lay RX7 TX7 4, u_lay RX7 TX7 5, u_lay RX7 TX7 6], w ∈ lw_g from List.forall_mem_cons.mpr ⟨lw_gg (lw_in1 (List.mem_of_getElem? (i := 196) rfl)) rfl, List.forall_mem_cons.mpr ⟨lw_gg (lw_in1 (List.mem_of_getElem? (i := 198) rfl)) rfl, List.forall_mem_cons.mpr ⟨lw_gg (lw_in1 (List.mem_of_getElem? (i := 200) rfl)) rfl, List.forall_mem_cons.mpr ⟨lw_gg (lw_in1 (List.mem_of_getElem? (i := 202) rfl)) rfl, List.forall_mem_cons.mpr ⟨lw_gg (lw_in1 (List.mem_of_getElem? (i := 204) rfl)) rfl, List.forall_mem_cons.mpr ⟨lw_gg (lw_in1 (List.mem_of_getElem? (i := 206) rfl)) rfl, List.forall_mem_cons.mpr ⟨lw_gg (lw_in1 (List.mem_of_getElem? (i := 208) rfl)) rfl, fun _ h => absurd h List.not_mem_nil⟩⟩⟩⟩⟩⟩⟩
set_option maxRecDepth 20000 in
theorem hU_X8 : ∀ w ∈ u_ws RX8 TX8 14, w ∈ lw_g := show ∀ w ∈ [u_lay RX8 TX8 0, u_lay RX8 TX8 1, u_lay RX8 TX8 2, u_lay RX8 TX8 3, u_lay RX8 TX8 4, u_lay RX8 TX8 5, u_lay RX8 TX8 6, u_lay RX8 TX8 7, u_lay RX8 TX8 8, u_lay RX8 TX8 9, u_lay RX8 TX8 10, u_lay RX8 TX8 11, u_lay RX8 TX8 12, u_lay RX8 TX8 13], w ∈ lw_g from List.forall_mem_cons.mpr ⟨lw_gg (lw_in1 (List.mem_of_getElem? (i := 153) rfl)) rfl, List.forall_mem_cons.mpr ⟨lw_gg (lw_in1 (List.mem_of_getElem? (i := 155) rfl)) rfl, List.forall_mem_cons.mpr ⟨lw_gg (lw_in1 (List.mem_of_getElem? (i := 157) rfl)) rfl, List.forall_mem_cons.mpr ⟨lw_gg (lw_in1 (List.mem_of_getElem? (i := 159) rfl)) rfl, List.forall_mem_cons.mpr ⟨lw_gg (lw_in1 (List.mem_of_getElem? (i := 161) rfl)) rfl, List.forall_mem_cons.mpr ⟨lw_gg (lw_in1 (List.mem_of_getElem? (i := 163) rfl)) rfl, List.forall_mem_cons.mpr ⟨lw_gg (lw_in1 (List.mem_of_getElem? (i := 165) rfl)) rfl, List.forall_mem_cons.mpr ⟨lw_gg (lw_in1 (List.mem_of_getElem? (i := 167) rfl)) rfl, List.forall_mem_cons.mpr ⟨lw_gg (lw_in1 (List.mem_of_getElem? (i := 169) rfl)) rfl, List.forall_mem_cons.mpr ⟨lw_gg (lw_in1 (List.mem_of_getElem? (i := 171) rfl)) rfl, List.forall_mem_cons.mpr ⟨lw_gg (lw_in1 (List.mem_of_getElem? (i := 173) rfl)) rfl, List.forall_mem_cons.mpr ⟨lw_gg (lw_in1 (List.mem_of_getElem? (i := 175) rfl)) rfl, List.forall_mem_cons.mpr ⟨lw_gg (lw_in1 (List.mem_of_getElem? (i := 177) rfl)) rfl, List.forall_mem_cons.mpr ⟨lw_gg (lw_in1 (List.mem_of_getElem? (i := 179) rfl)) rfl, fun _ h => absurd h List.not_mem_nil⟩⟩⟩⟩⟩⟩⟩⟩⟩⟩⟩⟩⟩⟩
set_option maxRecDepth 20000 in
theorem hU_X9 : ∀ w ∈ u_ws RX9 TX9 4, w ∈ lw_g := show ∀ w ∈ [u_lay RX9 TX9 0, u_lay RX9 TX9 1, u_lay RX9 TX9 2, u_lay RX9 TX9 3], w ∈ lw_g from List.forall_mem_cons.mpr ⟨lw_gg (lw_in2 (List.mem_of_getElem? (i := 32) rfl)) rfl, List.forall_mem_cons.mpr ⟨lw_gg (lw_in2 (List.mem_of_getElem? (i := 34) rfl)) rfl, List.forall_mem_cons.mpr ⟨lw_gg (lw_in2 (List.mem_of_getElem? (i := 36) rfl)) rfl, List.forall_mem_cons.mpr ⟨lw_gg (lw_in2 (List.mem_of_getElem? (i := 38) rfl)) rfl, fun _ h => absurd h List.not_mem_nil⟩⟩⟩⟩
set_option maxRecDepth 20000 in
theorem hU_X10 : ∀ w ∈ u_ws RX10 TX10 5, w ∈ lw_g := show ∀ w ∈ [u_lay RX10 TX10 0, u_lay RX10 TX10 1, u_lay RX10 TX10 2, u_lay RX10 TX10 3, u_lay RX10 TX10 4], w ∈ lw_g from List.forall_mem_cons.mpr ⟨lw_gg (lw_in1 (List.mem_of_getElem? (i := 84) rfl)) rfl, List.forall_mem_cons.mpr ⟨lw_gg (lw_in1 (List.mem_of_getElem? (i := 86) rfl)) rfl, List.forall_mem_cons.mpr ⟨lw_gg (lw_in1 (List.mem_of_getElem? (i := 88) rfl)) rfl, List.forall_mem_cons.mpr ⟨lw_gg (lw_in1 (List.mem_of_getElem? (i := 90) rfl)) rfl, List.forall_mem_cons.mpr ⟨lw_gg (lw_in1 (List.mem_of_getElem? (i := 92) rfl)) rfl, fun _ h => absurd h List.not_mem_nil⟩⟩⟩⟩⟩
set_option maxRecDepth 20000 in
theorem hU_X11 : ∀ w ∈ u_ws RX11 TX11 10, w ∈ lw_g := show ∀ w ∈ [u_lay RX11 TX11 0, u_lay RX11 TX11 1, u_lay RX11 TX11 2, u_lay RX11 TX11 3, u_lay RX11 TX11 4, u_lay RX11 TX11 5, u_lay RX11 TX11 6, u_lay RX11 TX11 7, u_lay RX11 TX11 8, u_lay RX11 TX11 9], w ∈ lw_g from List.forall_mem_cons.mpr ⟨lw_gg (lw_in2 (List.mem_of_getElem? (i := 51) rfl)) rfl, List.forall_mem_cons.mpr ⟨lw_gg (lw_in2 (List.mem_of_getElem? (i := 53) rfl)) rfl, List.forall_mem_cons.mpr ⟨lw_gg (lw_in2 (List.mem_of_getElem? (i := 55) rfl)) rfl, List.forall_mem_cons.mpr ⟨lw_gg (lw_in2 (List.mem_of_getElem? (i := 57) rfl)) rfl, List.forall_mem_cons.mpr ⟨lw_gg (lw_in2 (List.mem_of_getElem? (i := 59) rfl)) rfl, List.forall_mem_cons.mpr ⟨lw_gg (lw_in2 (List.mem_of_getElem? (i := 61) rfl)) rfl, List.forall_mem_cons.mpr ⟨lw_gg (lw_in2 (List.mem_of_getElem? (i := 63) rfl)) rfl, List.forall_mem_cons.mpr ⟨lw_gg (lw_in2 (List.mem_of_getElem? (i := 65) rfl)) rfl, List.forall_mem_cons.mpr ⟨lw_gg (lw_in2 (List.mem_of_getElem? (i := 67) rfl)) rfl, List.forall_mem_cons.mpr ⟨lw_gg (lw_in2 (List.mem_of_getElem? (i := 69) rfl)) rfl, fun _ h => absurd h List.not_mem_nil⟩⟩⟩⟩⟩⟩⟩⟩⟩⟩
set_option maxRecDepth 20000 in
theorem hU_X12 : ∀ w ∈ u_ws RX12 TX12 52, w ∈ lw_g := show ∀ w ∈ [u_lay RX12 TX12 0, u_lay RX12 TX12 1, u_lay RX12 TX12 2, u_lay RX12 TX12 3, u_lay RX12 TX12 4, u_lay RX12 TX12 5, u_lay RX12 TX12 6, u_lay RX12 TX12 7, u_lay RX12 TX12 8, u_lay RX12 TX12 9, u_lay RX12 TX12 10, u_lay RX12 TX12 11, u_lay RX12 TX12 12, u_lay RX12 TX12 13, u_lay RX12 TX12 14, u_lay RX12 TX12 15, u_lay RX12 TX12 16, u_lay RX12 TX12 17, u_lay RX12 TX12 18, u_lay RX12 TX12 19, u_lay RX12 TX12 20, u_lay RX12 TX12 21, u_lay RX12 TX12 22, u_lay RX12 TX12 23, u_lay RX12 TX12 24, u_lay RX12 TX12 25, u_lay RX12 TX12 26, u_lay RX12 TX12 27, u_lay RX12 TX12 28, u_lay RX12 TX12 29, u_lay RX12 TX12 30, u_lay RX12 TX12 31, u_lay RX12 TX12 32, u_lay RX12 TX12 33, u_lay RX12 TX12 34, u_lay RX12 TX12 35, u_lay RX12 TX12 36, u_lay RX12 TX12 37, u_lay RX12 TX12 38, u_lay RX12 TX12 39, u_lay RX12 TX12 40, u_lay RX12 TX12 41, u_lay RX12 TX12 42, u_lay RX12 TX12 43, u_lay RX12 TX12 44, u_lay RX12 TX12 45, u_lay RX12 TX12 46, u_lay RX12 TX12 47, u_lay RX12 TX12 48, u_lay RX12 TX12 49, u_lay RX12 TX12 50, u_lay RX12 TX12 51], w ∈ lw_g from List.forall_mem_cons.mpr ⟨lw_gg (lw_in4 (List.mem_of_getElem? (i := 175) rfl)) rfl, List.forall_mem_cons.mpr ⟨lw_gg (lw_in4 (List.mem_of_getElem? (i := 177) rfl)) rfl, List.forall_mem_cons.mpr ⟨lw_gg (lw_in4 (List.mem_of_getElem? (i := 179) rfl)) rfl, List.forall_mem_cons.mpr ⟨lw_gg (lw_in4 (List.mem_of_getElem? (i := 181) rfl)) rfl, List.forall_mem_cons.mpr ⟨lw_gg (lw_in4 (List.mem_of_getElem? (i := 183) rfl)) rfl, List.forall_mem_cons.mpr ⟨lw_gg (lw_in4 (List.mem_of_getElem? (i := 185) rfl)) rfl, List.forall_mem_cons.mpr ⟨lw_gg (lw_in4 (List.mem_of_getElem? (i := 187) rfl)) rfl, List.forall_mem_cons.mpr ⟨lw_gg (lw_in4 (List.mem_of_getElem? (i := 189) rfl)) rfl, List.forall_mem_cons.mpr ⟨lw_gg (lw_in4 (List.mem_of_getElem? (i := 191) rfl)) rfl, List.forall_mem_cons.mpr ⟨lw_gg (lw_in4 (List.mem_of_getElem? (i := 193) rfl)) rfl, List.forall_mem_cons.mpr ⟨lw_gg (lw_in4 (List.mem_of_getElem? (i := 195) rfl)) rfl, List.forall_mem_cons.mpr ⟨lw_gg (lw_in4 (List.mem_of_getElem? (i := 197) rfl)) rfl, List.forall_mem_cons.mpr ⟨lw_gg (lw_in4 (List.mem_of_getElem? (i := 199) rfl)) rfl, List.forall_mem_cons.mpr ⟨lw_gg (lw_in4 (List.mem_of_getElem? (i := 201) rfl)) rfl, List.forall_mem_cons.mpr ⟨lw_gg (lw_in4 (List.mem_of_getElem? (i := 203) rfl)) rfl, List.forall_mem_cons.mpr ⟨lw_gg (lw_in4 (List.mem_of_getElem? (i := 205) rfl)) rfl, List.forall_mem_cons.mpr ⟨lw_gg (lw_in4 (List.mem_of_getElem? (i := 207) rfl)) rfl, List.forall_mem_cons.mpr ⟨lw_gg (lw_in4 (List.mem_of_getElem? (i := 209) rfl)) rfl, List.forall_mem_cons.mpr ⟨lw_gg (lw_in4 (List.mem_of_getElem? (i := 211) rfl)) rfl, List.forall_mem_cons.mpr ⟨lw_gg (lw_in4 (List.mem_of_getElem? (i := 213) rfl)) rfl, List.forall_mem_cons.mpr ⟨lw_gg (lw_in4 (List.mem_of_getElem? (i := 215) rfl)) rfl, List.forall_mem_cons.mpr ⟨lw_gg (lw_in4 (List.mem_of_getElem? (i := 217) rfl)) rfl, List.forall_mem_cons.mpr ⟨lw_gg (lw_in4 (List.mem_of_getElem? (i := 219) rfl)) rfl, List.forall_mem_cons.mpr ⟨lw_gg (lw_in4 (List.mem_of_getElem? (i := 221) rfl)) rfl, List.forall_mem_cons.mpr ⟨lw_gg (lw_in4 (List.mem_of_getElem? (i := 223) rfl)) rfl, List.forall_mem_cons.mpr ⟨lw_gg (lw_in4 (List.mem_of_getElem? (i := 225) rfl)) rfl, List.forall_mem_cons.mpr ⟨lw_gg (lw_in4 (List.mem_of_getElem? (i := 227) rfl)) rfl, List.forall_mem_cons.mpr ⟨lw_gg (lw_in4 (List.mem_of_getElem? (i := 229) rfl)) rfl, List.forall_mem_cons.mpr ⟨lw_gg (lw_in4 (List.mem_of_getElem? (i := 231) rfl)) rfl, List.forall_mem_cons.mpr ⟨lw_gg (lw_in4 (List.mem_of_getElem? (i := 233) rfl)) rfl, List.forall_mem_cons.mpr ⟨lw_gg (lw_in4 (List.mem_of_getElem? (i := 235) rfl)) rfl, List.forall_mem_cons.mpr ⟨lw_gg (lw_in4 (List.mem_of_getElem? (i := 237) rfl)) rfl, List.forall_mem_cons.mpr ⟨lw_gg (lw_in4 (List.mem_of_getElem? (i := 239) rfl)) rfl, List.forall_mem_cons.mpr ⟨lw_gg (lw_in5 (List.mem_of_getElem? (i := 1) rfl)) rfl, List.forall_mem_cons.mpr ⟨lw_gg (lw_in5 (List.mem_of_getElem? (i := 3) rfl)) rfl, List.forall_mem_cons.mpr ⟨lw_gg (lw_in5 (List.mem_of_getElem? (i := 5) rfl)) rfl, List.forall_mem_cons.mpr ⟨lw_gg (lw_in5 (List.mem_of_getElem? (i := 7) rfl)) rfl, List.forall_mem_cons.mpr ⟨lw_gg (lw_in5 (List.mem_of_getElem? (i := 9) rfl)) rfl, List.forall_mem_cons.mpr ⟨lw_gg (lw_in5 (List.mem_of_getElem? (i := 11) rfl)) rfl, List.forall_mem_cons.mpr ⟨lw_gg (lw_in5 (List.mem_of_getElem? (i := 13) rfl)) rfl, List.forall_mem_cons.mpr ⟨lw_gg (lw_in5 (List.mem_of_getElem? (i := 15) rfl)) rfl, List.forall_mem_cons.mpr ⟨lw_gg (lw_in5 (List.mem_of_getElem? (i := 17) rfl)) rfl, List.forall_mem_cons.mpr ⟨lw_gg (lw_in5 (List.mem_of_getElem? (i := 19) rfl)) rfl, List.forall_mem_cons.mpr ⟨lw_gg (lw_in5 (List.mem_of_getElem? (i := 21) rfl)) rfl, List.forall_mem_cons.mpr ⟨lw_gg (lw_in5 (List.mem_of_getElem? (i := 23) rfl)) rfl, List.forall_mem_cons.mpr ⟨lw_gg (lw_in5 (List.mem_of_getElem? (i := 25) rfl)) rfl, List.forall_mem_cons.mpr ⟨lw_gg (lw_in5 (List.mem_of_getElem? (i := 27) rfl)) rfl, List.forall_mem_cons.mpr ⟨lw_gg (lw_in5 (List.mem_of_getElem? (i := 29) rfl)) rfl, List.forall_mem_cons.mpr ⟨lw_gg (lw_in5 (List.mem_of_getElem? (i := 31) rfl)) rfl, List.forall_mem_cons.mpr ⟨lw_gg (lw_in5 (List.mem_of_getElem? (i := 33) rfl)) rfl, List.forall_mem_cons.mpr ⟨lw_gg (lw_in5 (List.mem_of_getElem? (i := 35) rfl)) rfl, List.forall_mem_cons.mpr ⟨lw_gg (lw_in5 (List.mem_of_getElem? (i := 37) rfl)) rfl, fun _ h => absurd h List.not_mem_nil⟩⟩⟩⟩⟩⟩⟩⟩⟩⟩⟩⟩⟩⟩⟩⟩⟩⟩⟩⟩⟩⟩⟩⟩⟩⟩⟩⟩⟩⟩⟩⟩⟩⟩⟩⟩⟩⟩⟩⟩⟩⟩⟩⟩⟩⟩⟩⟩⟩⟩⟩⟩
def lw_nest : List Cond := [Cond.methodLinkNest RX3 25 yX11_within "EngineCell", Cond.methodLinkNest RX6 19 yX11_within "EngineCell", Cond.methodLinkNest RX9 26 yX11_within "EngineCell", Cond.methodLinkNest RX2 35 yX11_within "EngineCell", Cond.methodLinkNest RX8 130 yX11_within "EngineCell", Cond.methodLinkNest RX5 19 yX11_within "EngineCell", Cond.methodLinkNest RX10 28 yX11_within "EngineCell", Cond.methodLinkNest RX7 38 yX11_within "EngineCell"]
theorem nhN_X3_25 : Cond.methodLinkNest RX3 25 yX11_within "EngineCell" ∈ lw_nest := List.mem_of_getElem? (i := 0) rfl
theorem nhN_X6_19 : Cond.methodLinkNest RX6 19 yX11_within "EngineCell" ∈ lw_nest := List.mem_of_getElem? (i := 1) rfl
theorem nhN_X9_26 : Cond.methodLinkNest RX9 26 yX11_within "EngineCell" ∈ lw_nest := List.mem_of_getElem? (i := 2) rfl
theorem nhN_X2_35 : Cond.methodLinkNest RX2 35 yX11_within "EngineCell" ∈ lw_nest := List.mem_of_getElem? (i := 3) rfl
theorem nhN_X8_130 : Cond.methodLinkNest RX8 130 yX11_within "EngineCell" ∈ lw_nest := List.mem_of_getElem? (i := 4) rfl
theorem nhN_X5_19 : Cond.methodLinkNest RX5 19 yX11_within "EngineCell" ∈ lw_nest := List.mem_of_getElem? (i := 5) rfl
theorem nhN_X10_28 : Cond.methodLinkNest RX10 28 yX11_within "EngineCell" ∈ lw_nest := List.mem_of_getElem? (i := 6) rfl
theorem nhN_X7_38 : Cond.methodLinkNest RX7 38 yX11_within "EngineCell" ∈ lw_nest := List.mem_of_getElem? (i := 7) rfl
theorem lw_nest_ok : ∀ w ∈ lw_nest, w ∈ lw_tbl := by
  show ∀ w ∈ [Cond.methodLinkNest RX3 25 yX11_within "EngineCell", Cond.methodLinkNest RX6 19 yX11_within "EngineCell", Cond.methodLinkNest RX9 26 yX11_within "EngineCell", Cond.methodLinkNest RX2 35 yX11_within "EngineCell", Cond.methodLinkNest RX8 130 yX11_within "EngineCell", Cond.methodLinkNest RX5 19 yX11_within "EngineCell", Cond.methodLinkNest RX10 28 yX11_within "EngineCell", Cond.methodLinkNest RX7 38 yX11_within "EngineCell"], w ∈ lw_tbl
  exact List.forall_mem_cons.mpr ⟨hN_X3_25, List.forall_mem_cons.mpr ⟨hN_X6_19, List.forall_mem_cons.mpr ⟨hN_X9_26, List.forall_mem_cons.mpr ⟨hN_X2_35, List.forall_mem_cons.mpr ⟨hN_X8_130, List.forall_mem_cons.mpr ⟨hN_X5_19, List.forall_mem_cons.mpr ⟨hN_X10_28, List.forall_mem_cons.mpr ⟨hN_X7_38, fun _ h => absurd h List.not_mem_nil⟩⟩⟩⟩⟩⟩⟩⟩
theorem lw_nest_tab : ∀ w ∈ lw_nest, w.onTables = true := by
  intro w h
  exact List.all_eq_true.mp (show lw_nest.all Cond.onTables = true from rfl) w h
theorem lw_good : ∀ w ∈ lw_g, (w.onTables && w.keeps) = true ∨ ∃ ty, w = .arrayClass ty := fun w h => good_of_word (List.mem_filter.mp h).2
theorem lw_g_tbl : ∀ w ∈ lw_g, w ∈ lw_tbl := fun w h => (List.mem_filter.mp h).1
