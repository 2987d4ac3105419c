def TB : List Cond := lw_tbl.filter goodWord
theorem tb_0 {w : Cond} (h : w ∈ k2_sels lw_privs) (g : goodWord w = true) : w ∈ TB := List.mem_filter.mpr ⟨List.mem_append_left _ h, g⟩
theorem tb_1 {w : Cond} (h : w ∈ tables_1_1) (g : goodWord w = true) : w ∈ TB := List.mem_filter.mpr ⟨List.mem_append_right _ (List.mem_append_left _ h), g⟩
theorem tb_2 {w : Cond} (h : w ∈ tables_1_2) (g : goodWord w = true) : w ∈ TB := List.mem_filter.mpr ⟨List.mem_append_right _ (List.mem_append_right _ (List.mem_append_left _ h)), g⟩
theorem tb_3 {w : Cond} (h : w ∈ tables_1_3) (g : goodWord w = true) : w ∈ TB := List.mem_filter.mpr ⟨List.mem_append_right _ (List.mem_append_right _ (List.mem_append_right _ (List.mem_append_left _ h))), g⟩
theorem tb_4 {w : Cond} (h : w ∈ tables_1_4) (g : goodWord w = true) : w ∈ TB := List.mem_filter.mpr ⟨List.mem_append_right _ (List.mem_append_right _ (List.mem_append_right _ (List.mem_append_right _ h))), g⟩
set_option maxRecDepth 20000 in
theorem tw_0_0 : Cond.selects RX10 yX10_reckonAll yX10_reckonAll ∈ TB := tb_0 (List.mem_of_getElem? (l := k2_sels lw_privs) (i := 0) rfl) rfl
set_option maxRecDepth 20000 in
theorem tw_0_1 : Cond.selects RX10 yX10_boundYears yX10_boundYears ∈ TB := tb_0 (List.mem_of_getElem? (l := k2_sels lw_privs) (i := 1) rfl) rfl
set_option maxRecDepth 20000 in
theorem tw_0_2 : Cond.selects RX11 yX11_heirs yX11_heirs ∈ TB := tb_0 (List.mem_of_getElem? (l := k2_sels lw_privs) (i := 2) rfl) rfl
set_option maxRecDepth 20000 in
theorem tw_0_3 : Cond.selects RX11 yX11_isHeir yX11_isHeir ∈ TB := tb_0 (List.mem_of_getElem? (l := k2_sels lw_privs) (i := 3) rfl) rfl
set_option maxRecDepth 20000 in
theorem tw_0_4 : Cond.selects RX11 yX11_isWoman yX11_isWoman ∈ TB := tb_0 (List.mem_of_getElem? (l := k2_sels lw_privs) (i := 4) rfl) rfl
set_option maxRecDepth 20000 in
theorem tw_0_5 : Cond.selects RX11 yX11_isOne yX11_isOne ∈ TB := tb_0 (List.mem_of_getElem? (l := k2_sels lw_privs) (i := 5) rfl) rfl
set_option maxRecDepth 20000 in
theorem tw_0_6 : Cond.selects RX11 yX11_coats yX11_coats ∈ TB := tb_0 (List.mem_of_getElem? (l := k2_sels lw_privs) (i := 6) rfl) rfl
set_option maxRecDepth 20000 in
theorem tw_0_7 : Cond.selects RX11 yX11_lays yX11_lays ∈ TB := tb_0 (List.mem_of_getElem? (l := k2_sels lw_privs) (i := 7) rfl) rfl
set_option maxRecDepth 20000 in
theorem tw_0_8 : Cond.selects RX11 yX11_laysOne yX11_laysOne ∈ TB := tb_0 (List.mem_of_getElem? (l := k2_sels lw_privs) (i := 8) rfl) rfl
set_option maxRecDepth 20000 in
theorem tw_0_9 : Cond.selects RX11 yX11_takes yX11_takes ∈ TB := tb_0 (List.mem_of_getElem? (l := k2_sels lw_privs) (i := 9) rfl) rfl
set_option maxRecDepth 20000 in
theorem tw_0_10 : Cond.selects RX11 yX11_takesOf yX11_takesOf ∈ TB := tb_0 (List.mem_of_getElem? (l := k2_sels lw_privs) (i := 10) rfl) rfl
set_option maxRecDepth 20000 in
theorem tw_0_11 : Cond.selects RX11 yX11_same yX11_same ∈ TB := tb_0 (List.mem_of_getElem? (l := k2_sels lw_privs) (i := 11) rfl) rfl
set_option maxRecDepth 20000 in
theorem tw_0_12 : Cond.selects RX11 yX11_isSame yX11_isSame ∈ TB := tb_0 (List.mem_of_getElem? (l := k2_sels lw_privs) (i := 12) rfl) rfl
set_option maxRecDepth 20000 in
theorem tw_0_13 : Cond.selects RX11 yX11_narrows yX11_narrows ∈ TB := tb_0 (List.mem_of_getElem? (l := k2_sels lw_privs) (i := 13) rfl) rfl
set_option maxRecDepth 20000 in
theorem tw_0_14 : Cond.selects RX11 yX11_isSpoiled yX11_isSpoiled ∈ TB := tb_0 (List.mem_of_getElem? (l := k2_sels lw_privs) (i := 14) rfl) rfl
set_option maxRecDepth 20000 in
theorem tw_0_15 : Cond.selects RX11 yX11_narrowsOne yX11_narrowsOne ∈ TB := tb_0 (List.mem_of_getElem? (l := k2_sels lw_privs) (i := 15) rfl) rfl
set_option maxRecDepth 20000 in
theorem tw_0_16 : Cond.selects RX11 yX11_atLeast yX11_atLeast ∈ TB := tb_0 (List.mem_of_getElem? (l := k2_sels lw_privs) (i := 16) rfl) rfl
set_option maxRecDepth 20000 in
theorem tw_0_17 : Cond.selects RX11 yX11_meant yX11_meant ∈ TB := tb_0 (List.mem_of_getElem? (l := k2_sels lw_privs) (i := 17) rfl) rfl
set_option maxRecDepth 20000 in
theorem tw_0_18 : Cond.selects RX11 yX11_isAll yX11_isAll ∈ TB := tb_0 (List.mem_of_getElem? (l := k2_sels lw_privs) (i := 18) rfl) rfl
set_option maxRecDepth 20000 in
theorem tw_0_19 : Cond.selects RX11 yX11_isAs yX11_isAs ∈ TB := tb_0 (List.mem_of_getElem? (l := k2_sels lw_privs) (i := 19) rfl) rfl
set_option maxRecDepth 20000 in
theorem tw_0_20 : Cond.selects RX11 yX11_isSome yX11_isSome ∈ TB := tb_0 (List.mem_of_getElem? (l := k2_sels lw_privs) (i := 20) rfl) rfl
set_option maxRecDepth 20000 in
theorem tw_0_21 : Cond.selects RX11 yX11_likely yX11_likely ∈ TB := tb_0 (List.mem_of_getElem? (l := k2_sels lw_privs) (i := 21) rfl) rfl
set_option maxRecDepth 20000 in
theorem tw_0_22 : Cond.selects RX11 yX11_like yX11_like ∈ TB := tb_0 (List.mem_of_getElem? (l := k2_sels lw_privs) (i := 22) rfl) rfl
set_option maxRecDepth 20000 in
theorem tw_0_23 : Cond.selects RX11 yX11_wrong yX11_wrong ∈ TB := tb_0 (List.mem_of_getElem? (l := k2_sels lw_privs) (i := 23) rfl) rfl
set_option maxRecDepth 20000 in
theorem tw_0_24 : Cond.selects RX11 yX11_children yX11_children ∈ TB := tb_0 (List.mem_of_getElem? (l := k2_sels lw_privs) (i := 24) rfl) rfl
set_option maxRecDepth 20000 in
theorem tw_0_25 : Cond.selects RX11 yX11_narrowed yX11_narrowed ∈ TB := tb_0 (List.mem_of_getElem? (l := k2_sels lw_privs) (i := 25) rfl) rfl
set_option maxRecDepth 20000 in
theorem tw_0_26 : Cond.selects RX11 yX11_steps yX11_steps ∈ TB := tb_0 (List.mem_of_getElem? (l := k2_sels lw_privs) (i := 26) rfl) rfl
set_option maxRecDepth 20000 in
theorem tw_0_27 : Cond.selects RX11 yX11_isMan yX11_isMan ∈ TB := tb_0 (List.mem_of_getElem? (l := k2_sels lw_privs) (i := 27) rfl) rfl
set_option maxRecDepth 20000 in
theorem tw_0_28 : Cond.selects RX11 yX11_minds yX11_minds ∈ TB := tb_0 (List.mem_of_getElem? (l := k2_sels lw_privs) (i := 28) rfl) rfl
set_option maxRecDepth 20000 in
theorem tw_0_29 : Cond.selects RX11 yX11_copy yX11_copy ∈ TB := tb_0 (List.mem_of_getElem? (l := k2_sels lw_privs) (i := 29) rfl) rfl
set_option maxRecDepth 20000 in
theorem tw_0_30 : Cond.selects RX11 yX11_comes yX11_comes ∈ TB := tb_0 (List.mem_of_getElem? (l := k2_sels lw_privs) (i := 30) rfl) rfl
set_option maxRecDepth 20000 in
theorem tw_0_31 : Cond.selects RX11 yX11_bounds yX11_bounds ∈ TB := tb_0 (List.mem_of_getElem? (l := k2_sels lw_privs) (i := 31) rfl) rfl
set_option maxRecDepth 20000 in
theorem tw_0_32 : Cond.selects RX11 yX11_draw yX11_draw ∈ TB := tb_0 (List.mem_of_getElem? (l := k2_sels lw_privs) (i := 32) rfl) rfl
set_option maxRecDepth 20000 in
theorem tw_1_1 : Cond.initialized RX10 ∈ TB := tb_1 (List.mem_of_getElem? (l := tables_1_1) (i := 1) rfl) rfl
set_option maxRecDepth 20000 in
theorem tw_1_2 : Cond.initialized RX7 ∈ TB := tb_1 (List.mem_of_getElem? (l := tables_1_1) (i := 2) rfl) rfl
set_option maxRecDepth 20000 in
theorem tw_1_3 : Cond.initialized RX1 ∈ TB := tb_1 (List.mem_of_getElem? (l := tables_1_1) (i := 3) rfl) rfl
set_option maxRecDepth 20000 in
theorem tw_1_4 : Cond.initialized RX9 ∈ TB := tb_1 (List.mem_of_getElem? (l := tables_1_1) (i := 4) rfl) rfl
set_option maxRecDepth 20000 in
theorem tw_1_5 : Cond.initialized RX8 ∈ TB := tb_1 (List.mem_of_getElem? (l := tables_1_1) (i := 5) rfl) rfl
set_option maxRecDepth 20000 in
theorem tw_1_6 : Cond.initialized RX4 ∈ TB := tb_1 (List.mem_of_getElem? (l := tables_1_1) (i := 6) rfl) rfl
set_option maxRecDepth 20000 in
theorem tw_1_7 : Cond.initialized RX0 ∈ TB := tb_1 (List.mem_of_getElem? (l := tables_1_1) (i := 7) rfl) rfl
set_option maxRecDepth 20000 in
theorem tw_1_8 : Cond.initialized RX5 ∈ TB := tb_1 (List.mem_of_getElem? (l := tables_1_1) (i := 8) rfl) rfl
set_option maxRecDepth 20000 in
theorem tw_1_9 : Cond.initialized RX6 ∈ TB := tb_1 (List.mem_of_getElem? (l := tables_1_1) (i := 9) rfl) rfl
set_option maxRecDepth 20000 in
theorem tw_1_10 : Cond.initialized "java/lang/Math" ∈ TB := tb_1 (List.mem_of_getElem? (l := tables_1_1) (i := 10) rfl) rfl
set_option maxRecDepth 20000 in
theorem tw_1_11 : Cond.initialized RX3 ∈ TB := tb_1 (List.mem_of_getElem? (l := tables_1_1) (i := 11) rfl) rfl
set_option maxRecDepth 20000 in
theorem tw_1_12 : Cond.initialized RX2 ∈ TB := tb_1 (List.mem_of_getElem? (l := tables_1_1) (i := 12) rfl) rfl
set_option maxRecDepth 20000 in
theorem tw_1_13 : Cond.initialized RX11 ∈ TB := tb_1 (List.mem_of_getElem? (l := tables_1_1) (i := 13) rfl) rfl
set_option maxRecDepth 20000 in
theorem tw_1_14 : Cond.initialized "java/lang/System" ∈ TB := tb_1 (List.mem_of_getElem? (l := tables_1_1) (i := 14) rfl) rfl
set_option maxRecDepth 20000 in
theorem tw_1_19 : Cond.code yX10_init cX10_init 1 none ∈ TB := tb_1 (List.mem_of_getElem? (l := tables_1_1) (i := 19) rfl) rfl
set_option maxRecDepth 20000 in
theorem tw_1_20 : Cond.methodLink RX10 1 Lib.objectInit ∈ TB := tb_1 (List.mem_of_getElem? (l := tables_1_1) (i := 20) rfl) rfl
set_option maxRecDepth 20000 in
theorem tw_1_21 : Cond.instanceMethod Lib.objectInit ∈ TB := tb_1 (List.mem_of_getElem? (l := tables_1_1) (i := 21) rfl) rfl
set_option maxRecDepth 20000 in
theorem tw_1_22 : Cond.code Lib.objectInit ⟨#[0xb1]⟩ 1 none ∈ TB := tb_1 (List.mem_of_getElem? (l := tables_1_1) (i := 22) rfl) rfl
set_option maxRecDepth 20000 in
theorem tw_1_23 : Cond.classLink RX10 7 RX7 ∈ TB := tb_1 (List.mem_of_getElem? (l := tables_1_1) (i := 23) rfl) rfl
set_option maxRecDepth 20000 in
theorem tw_1_24 : Cond.instantiable RX7 1 ∈ TB := tb_1 (List.mem_of_getElem? (l := tables_1_1) (i := 24) rfl) rfl
set_option maxRecDepth 20000 in
theorem tw_1_25 : Cond.methodLink RX10 9 yX7_init ∈ TB := tb_1 (List.mem_of_getElem? (l := tables_1_1) (i := 25) rfl) rfl
set_option maxRecDepth 20000 in
theorem tw_1_26 : Cond.instanceMethod yX7_init ∈ TB := tb_1 (List.mem_of_getElem? (l := tables_1_1) (i := 26) rfl) rfl
set_option maxRecDepth 20000 in
theorem tw_1_27 : Cond.code yX7_init cX7_init 1 none ∈ TB := tb_1 (List.mem_of_getElem? (l := tables_1_1) (i := 27) rfl) rfl
set_option maxRecDepth 20000 in
theorem tw_1_28 : Cond.methodLink RX7 5 Lib.objectInit ∈ TB := tb_1 (List.mem_of_getElem? (l := tables_1_1) (i := 28) rfl) rfl
set_option maxRecDepth 20000 in
theorem tw_1_29 : Cond.fieldLink RX7 11 "CoatTraces$State" "cells" "[I" ∈ TB := tb_1 (List.mem_of_getElem? (l := tables_1_1) (i := 29) rfl) rfl
set_option maxRecDepth 20000 in
theorem tw_1_30 : Cond.fieldLink RX6 25 "CoatTraces$State" "cells" "[I" ∈ TB := tb_1 (List.mem_of_getElem? (l := tables_1_1) (i := 30) rfl) rfl
set_option maxRecDepth 20000 in
theorem tw_1_31 : Cond.laysFinal RX7 "CoatTraces$State" "cells" "[I" ∈ TB := tb_1 (List.mem_of_getElem? (l := tables_1_1) (i := 31) rfl) rfl
set_option maxRecDepth 20000 in
theorem tw_1_34 : Cond.arrayClass .int ∈ TB := tb_1 (List.mem_of_getElem? (l := tables_1_1) (i := 34) rfl) rfl
set_option maxRecDepth 20000 in
theorem tw_1_35 : Cond.classLink RX10 16 RX1 ∈ TB := tb_1 (List.mem_of_getElem? (l := tables_1_1) (i := 35) rfl) rfl
set_option maxRecDepth 20000 in
theorem tw_1_36 : Cond.instantiable RX1 5 ∈ TB := tb_1 (List.mem_of_getElem? (l := tables_1_1) (i := 36) rfl) rfl
set_option maxRecDepth 20000 in
theorem tw_1_37 : Cond.methodLink RX10 18 yX1_init ∈ TB := tb_1 (List.mem_of_getElem? (l := tables_1_1) (i := 37) rfl) rfl
set_option maxRecDepth 20000 in
theorem tw_1_38 : Cond.instanceMethod yX1_init ∈ TB := tb_1 (List.mem_of_getElem? (l := tables_1_1) (i := 38) rfl) rfl
set_option maxRecDepth 20000 in
theorem tw_1_39 : Cond.code yX1_init cX1_init 1 none ∈ TB := tb_1 (List.mem_of_getElem? (l := tables_1_1) (i := 39) rfl) rfl
set_option maxRecDepth 20000 in
theorem tw_1_40 : Cond.methodLink RX1 3 Lib.objectInit ∈ TB := tb_1 (List.mem_of_getElem? (l := tables_1_1) (i := 40) rfl) rfl
set_option maxRecDepth 20000 in
theorem tw_1_41 : Cond.fieldLink RX1 11 "CoatTraces$Coats" "sizes" "[I" ∈ TB := tb_1 (List.mem_of_getElem? (l := tables_1_1) (i := 41) rfl) rfl
set_option maxRecDepth 20000 in
theorem tw_1_42 : Cond.fieldLink RX1 15 "CoatTraces$Coats" "arms" "[I" ∈ TB := tb_1 (List.mem_of_getElem? (l := tables_1_1) (i := 42) rfl) rfl
set_option maxRecDepth 20000 in
theorem tw_1_43 : Cond.fieldLink RX1 18 "CoatTraces$Coats" "through" "[I" ∈ TB := tb_1 (List.mem_of_getElem? (l := tables_1_1) (i := 43) rfl) rfl
set_option maxRecDepth 20000 in
theorem tw_1_44 : Cond.fieldLink RX1 27 "CoatTraces$Coats" "people" "I" ∈ TB := tb_1 (List.mem_of_getElem? (l := tables_1_1) (i := 44) rfl) rfl
set_option maxRecDepth 20000 in
theorem tw_1_45 : Cond.fieldLink RX0 25 "CoatTraces$Coats" "people" "I" ∈ TB := tb_1 (List.mem_of_getElem? (l := tables_1_1) (i := 45) rfl) rfl
set_option maxRecDepth 20000 in
theorem tw_1_46 : Cond.fieldLink RX1 34 "CoatTraces$Coats" "heirs" "I" ∈ TB := tb_1 (List.mem_of_getElem? (l := tables_1_1) (i := 46) rfl) rfl
set_option maxRecDepth 20000 in
theorem tw_1_47 : Cond.fieldLink RX10 82 "CoatTraces$Coats" "heirs" "I" ∈ TB := tb_1 (List.mem_of_getElem? (l := tables_1_1) (i := 47) rfl) rfl
set_option maxRecDepth 20000 in
theorem tw_1_48 : Cond.laysFinal RX1 "CoatTraces$Coats" "sizes" "[I" ∈ TB := tb_1 (List.mem_of_getElem? (l := tables_1_1) (i := 48) rfl) rfl
set_option maxRecDepth 20000 in
theorem tw_1_50 : Cond.laysFinal RX1 "CoatTraces$Coats" "arms" "[I" ∈ TB := tb_1 (List.mem_of_getElem? (l := tables_1_1) (i := 50) rfl) rfl
set_option maxRecDepth 20000 in
theorem tw_1_52 : Cond.laysFinal RX1 "CoatTraces$Coats" "through" "[I" ∈ TB := tb_1 (List.mem_of_getElem? (l := tables_1_1) (i := 52) rfl) rfl
set_option maxRecDepth 20000 in
theorem tw_1_54 : Cond.lays RX1 "CoatTraces$Coats" "people" "I" ∈ TB := tb_1 (List.mem_of_getElem? (l := tables_1_1) (i := 54) rfl) rfl
set_option maxRecDepth 20000 in
theorem tw_1_56 : Cond.lays RX1 "CoatTraces$Coats" "heirs" "I" ∈ TB := tb_1 (List.mem_of_getElem? (l := tables_1_1) (i := 56) rfl) rfl
set_option maxRecDepth 20000 in
theorem tw_1_59 : Cond.classLink RX10 23 RX9 ∈ TB := tb_1 (List.mem_of_getElem? (l := tables_1_1) (i := 59) rfl) rfl
set_option maxRecDepth 20000 in
theorem tw_1_60 : Cond.instantiable RX9 8 ∈ TB := tb_1 (List.mem_of_getElem? (l := tables_1_1) (i := 60) rfl) rfl
set_option maxRecDepth 20000 in
theorem tw_1_61 : Cond.methodLink RX10 25 yX9_init ∈ TB := tb_1 (List.mem_of_getElem? (l := tables_1_1) (i := 61) rfl) rfl
set_option maxRecDepth 20000 in
theorem tw_1_62 : Cond.instanceMethod yX9_init ∈ TB := tb_1 (List.mem_of_getElem? (l := tables_1_1) (i := 62) rfl) rfl
set_option maxRecDepth 20000 in
theorem tw_1_63 : Cond.code yX9_init cX9_init 1 none ∈ TB := tb_1 (List.mem_of_getElem? (l := tables_1_1) (i := 63) rfl) rfl
set_option maxRecDepth 20000 in
theorem tw_1_64 : Cond.methodLink RX9 3 Lib.objectInit ∈ TB := tb_1 (List.mem_of_getElem? (l := tables_1_1) (i := 64) rfl) rfl
set_option maxRecDepth 20000 in
theorem tw_1_65 : Cond.fieldLink RX9 9 "CoatTraces$Years" "least" "[I" ∈ TB := tb_1 (List.mem_of_getElem? (l := tables_1_1) (i := 65) rfl) rfl
set_option maxRecDepth 20000 in
theorem tw_1_66 : Cond.fieldLink RX9 15 "CoatTraces$Years" "greatest" "[I" ∈ TB := tb_1 (List.mem_of_getElem? (l := tables_1_1) (i := 66) rfl) rfl
set_option maxRecDepth 20000 in
theorem tw_1_67 : Cond.fieldLink RX9 18 "CoatTraces$Years" "earlier" "[I" ∈ TB := tb_1 (List.mem_of_getElem? (l := tables_1_1) (i := 67) rfl) rfl
set_option maxRecDepth 20000 in
theorem tw_1_68 : Cond.fieldLink RX9 21 "CoatTraces$Years" "later" "[I" ∈ TB := tb_1 (List.mem_of_getElem? (l := tables_1_1) (i := 68) rfl) rfl
set_option maxRecDepth 20000 in
theorem tw_1_69 : Cond.fieldLink RX9 24 "CoatTraces$Years" "gap" "[I" ∈ TB := tb_1 (List.mem_of_getElem? (l := tables_1_1) (i := 69) rfl) rfl
set_option maxRecDepth 20000 in
theorem tw_1_70 : Cond.fieldLink RX9 39 "CoatTraces$Years" "moments" "I" ∈ TB := tb_1 (List.mem_of_getElem? (l := tables_1_1) (i := 70) rfl) rfl
set_option maxRecDepth 20000 in
theorem tw_1_71 : Cond.fieldLink RX9 74 "CoatTraces$Years" "gaps" "I" ∈ TB := tb_1 (List.mem_of_getElem? (l := tables_1_1) (i := 71) rfl) rfl
set_option maxRecDepth 20000 in
theorem tw_1_72 : Cond.fieldLink RX9 57 "CoatTraces$Years" "spoiled" "Z" ∈ TB := tb_1 (List.mem_of_getElem? (l := tables_1_1) (i := 72) rfl) rfl
set_option maxRecDepth 20000 in
theorem tw_1_73 : Cond.laysFinal RX9 "CoatTraces$Years" "least" "[I" ∈ TB := tb_1 (List.mem_of_getElem? (l := tables_1_1) (i := 73) rfl) rfl
set_option maxRecDepth 20000 in
theorem tw_1_75 : Cond.laysFinal RX9 "CoatTraces$Years" "greatest" "[I" ∈ TB := tb_1 (List.mem_of_getElem? (l := tables_1_1) (i := 75) rfl) rfl
set_option maxRecDepth 20000 in
theorem tw_1_77 : Cond.laysFinal RX9 "CoatTraces$Years" "earlier" "[I" ∈ TB := tb_1 (List.mem_of_getElem? (l := tables_1_1) (i := 77) rfl) rfl
set_option maxRecDepth 20000 in
theorem tw_1_79 : Cond.laysFinal RX9 "CoatTraces$Years" "later" "[I" ∈ TB := tb_1 (List.mem_of_getElem? (l := tables_1_1) (i := 79) rfl) rfl
set_option maxRecDepth 20000 in
theorem tw_1_81 : Cond.laysFinal RX9 "CoatTraces$Years" "gap" "[I" ∈ TB := tb_1 (List.mem_of_getElem? (l := tables_1_1) (i := 81) rfl) rfl
set_option maxRecDepth 20000 in
theorem tw_1_83 : Cond.lays RX9 "CoatTraces$Years" "moments" "I" ∈ TB := tb_1 (List.mem_of_getElem? (l := tables_1_1) (i := 83) rfl) rfl
set_option maxRecDepth 20000 in
theorem tw_1_85 : Cond.lays RX9 "CoatTraces$Years" "gaps" "I" ∈ TB := tb_1 (List.mem_of_getElem? (l := tables_1_1) (i := 85) rfl) rfl
set_option maxRecDepth 20000 in
theorem tw_1_87 : Cond.lays RX9 "CoatTraces$Years" "spoiled" "Z" ∈ TB := tb_1 (List.mem_of_getElem? (l := tables_1_1) (i := 87) rfl) rfl
set_option maxRecDepth 20000 in
theorem tw_1_90 : Cond.classLink RX10 30 RX8 ∈ TB := tb_1 (List.mem_of_getElem? (l := tables_1_1) (i := 90) rfl) rfl
set_option maxRecDepth 20000 in
theorem tw_1_91 : Cond.instantiable RX8 1 ∈ TB := tb_1 (List.mem_of_getElem? (l := tables_1_1) (i := 91) rfl) rfl
set_option maxRecDepth 20000 in
theorem tw_1_92 : Cond.methodLink RX10 32 yX8_init ∈ TB := tb_1 (List.mem_of_getElem? (l := tables_1_1) (i := 92) rfl) rfl
set_option maxRecDepth 20000 in
theorem tw_1_93 : Cond.instanceMethod yX8_init ∈ TB := tb_1 (List.mem_of_getElem? (l := tables_1_1) (i := 93) rfl) rfl
set_option maxRecDepth 20000 in
theorem tw_1_94 : Cond.code yX8_init cX8_init 1 none ∈ TB := tb_1 (List.mem_of_getElem? (l := tables_1_1) (i := 94) rfl) rfl
set_option maxRecDepth 20000 in
theorem tw_1_95 : Cond.methodLink RX8 3 Lib.objectInit ∈ TB := tb_1 (List.mem_of_getElem? (l := tables_1_1) (i := 95) rfl) rfl
set_option maxRecDepth 20000 in
theorem tw_1_96 : Cond.fieldLink RX8 9 "CoatTraces$Tracer" "found" "[I" ∈ TB := tb_1 (List.mem_of_getElem? (l := tables_1_1) (i := 96) rfl) rfl
set_option maxRecDepth 20000 in
theorem tw_1_97 : Cond.laysFinal RX8 "CoatTraces$Tracer" "found" "[I" ∈ TB := tb_1 (List.mem_of_getElem? (l := tables_1_1) (i := 97) rfl) rfl
set_option maxRecDepth 20000 in
theorem tw_1_100 : Cond.classLink RX10 37 RX4 ∈ TB := tb_1 (List.mem_of_getElem? (l := tables_1_1) (i := 100) rfl) rfl
set_option maxRecDepth 20000 in
theorem tw_1_101 : Cond.instantiable RX4 4 ∈ TB := tb_1 (List.mem_of_getElem? (l := tables_1_1) (i := 101) rfl) rfl
set_option maxRecDepth 20000 in
theorem tw_1_102 : Cond.methodLink RX10 39 yX4_init ∈ TB := tb_1 (List.mem_of_getElem? (l := tables_1_1) (i := 102) rfl) rfl
set_option maxRecDepth 20000 in
theorem tw_1_103 : Cond.instanceMethod yX4_init ∈ TB := tb_1 (List.mem_of_getElem? (l := tables_1_1) (i := 103) rfl) rfl
set_option maxRecDepth 20000 in
theorem tw_1_104 : Cond.code yX4_init cX4_init 1 none ∈ TB := tb_1 (List.mem_of_getElem? (l := tables_1_1) (i := 104) rfl) rfl
set_option maxRecDepth 20000 in
theorem tw_1_105 : Cond.methodLink RX4 3 Lib.objectInit ∈ TB := tb_1 (List.mem_of_getElem? (l := tables_1_1) (i := 105) rfl) rfl
set_option maxRecDepth 20000 in
theorem tw_1_106 : Cond.fieldLink RX4 9 "CoatTraces$Kinship" "stepsOfOne" "[I" ∈ TB := tb_1 (List.mem_of_getElem? (l := tables_1_1) (i := 106) rfl) rfl
set_option maxRecDepth 20000 in
theorem tw_1_107 : Cond.fieldLink RX4 15 "CoatTraces$Kinship" "stepsOfOther" "[I" ∈ TB := tb_1 (List.mem_of_getElem? (l := tables_1_1) (i := 107) rfl) rfl
set_option maxRecDepth 20000 in
theorem tw_1_108 : Cond.fieldLink RX4 18 "CoatTraces$Kinship" "steps" "I" ∈ TB := tb_1 (List.mem_of_getElem? (l := tables_1_1) (i := 108) rfl) rfl
set_option maxRecDepth 20000 in
theorem tw_1_109 : Cond.fieldLink RX10 158 "CoatTraces$Kinship" "steps" "I" ∈ TB := tb_1 (List.mem_of_getElem? (l := tables_1_1) (i := 109) rfl) rfl
set_option maxRecDepth 20000 in
theorem tw_1_110 : Cond.fieldLink RX4 22 "CoatTraces$Kinship" "nearest" "I" ∈ TB := tb_1 (List.mem_of_getElem? (l := tables_1_1) (i := 110) rfl) rfl
set_option maxRecDepth 20000 in
theorem tw_1_111 : Cond.fieldLink RX10 161 "CoatTraces$Kinship" "nearest" "I" ∈ TB := tb_1 (List.mem_of_getElem? (l := tables_1_1) (i := 111) rfl) rfl
set_option maxRecDepth 20000 in
theorem tw_1_112 : Cond.laysFinal RX4 "CoatTraces$Kinship" "stepsOfOne" "[I" ∈ TB := tb_1 (List.mem_of_getElem? (l := tables_1_1) (i := 112) rfl) rfl
set_option maxRecDepth 20000 in
theorem tw_1_114 : Cond.laysFinal RX4 "CoatTraces$Kinship" "stepsOfOther" "[I" ∈ TB := tb_1 (List.mem_of_getElem? (l := tables_1_1) (i := 114) rfl) rfl
set_option maxRecDepth 20000 in
theorem tw_1_116 : Cond.lays RX4 "CoatTraces$Kinship" "steps" "I" ∈ TB := tb_1 (List.mem_of_getElem? (l := tables_1_1) (i := 116) rfl) rfl
set_option maxRecDepth 20000 in
theorem tw_1_118 : Cond.lays RX4 "CoatTraces$Kinship" "nearest" "I" ∈ TB := tb_1 (List.mem_of_getElem? (l := tables_1_1) (i := 118) rfl) rfl
set_option maxRecDepth 20000 in
theorem tw_1_121 : Cond.classLink RX10 44 RX0 ∈ TB := tb_1 (List.mem_of_getElem? (l := tables_1_1) (i := 121) rfl) rfl
set_option maxRecDepth 20000 in
theorem tw_1_122 : Cond.instantiable RX0 4 ∈ TB := tb_1 (List.mem_of_getElem? (l := tables_1_1) (i := 122) rfl) rfl
set_option maxRecDepth 20000 in
theorem tw_1_123 : Cond.methodLink RX10 46 yX0_init ∈ TB := tb_1 (List.mem_of_getElem? (l := tables_1_1) (i := 123) rfl) rfl
set_option maxRecDepth 20000 in
theorem tw_1_124 : Cond.instanceMethod yX0_init ∈ TB := tb_1 (List.mem_of_getElem? (l := tables_1_1) (i := 124) rfl) rfl
set_option maxRecDepth 20000 in
theorem tw_1_125 : Cond.code yX0_init cX0_init 1 none ∈ TB := tb_1 (List.mem_of_getElem? (l := tables_1_1) (i := 125) rfl) rfl
set_option maxRecDepth 20000 in
theorem tw_1_126 : Cond.methodLink RX0 3 Lib.objectInit ∈ TB := tb_1 (List.mem_of_getElem? (l := tables_1_1) (i := 126) rfl) rfl
set_option maxRecDepth 20000 in
theorem tw_1_127 : Cond.fieldLink RX0 9 "CoatTraces$Book" "whose" "[I" ∈ TB := tb_1 (List.mem_of_getElem? (l := tables_1_1) (i := 127) rfl) rfl
set_option maxRecDepth 20000 in
theorem tw_1_128 : Cond.fieldLink RX0 15 "CoatTraces$Book" "which" "[I" ∈ TB := tb_1 (List.mem_of_getElem? (l := tables_1_1) (i := 128) rfl) rfl
set_option maxRecDepth 20000 in
theorem tw_1_129 : Cond.fieldLink RX0 18 "CoatTraces$Book" "arms" "[I" ∈ TB := tb_1 (List.mem_of_getElem? (l := tables_1_1) (i := 129) rfl) rfl
set_option maxRecDepth 20000 in
theorem tw_1_130 : Cond.fieldLink RX0 21 "CoatTraces$Book" "entries" "I" ∈ TB := tb_1 (List.mem_of_getElem? (l := tables_1_1) (i := 130) rfl) rfl
set_option maxRecDepth 20000 in
theorem tw_1_131 : Cond.fieldLink RX10 102 "CoatTraces$Book" "entries" "I" ∈ TB := tb_1 (List.mem_of_getElem? (l := tables_1_1) (i := 131) rfl) rfl
set_option maxRecDepth 20000 in
theorem tw_1_132 : Cond.laysFinal RX0 "CoatTraces$Book" "whose" "[I" ∈ TB := tb_1 (List.mem_of_getElem? (l := tables_1_1) (i := 132) rfl) rfl
set_option maxRecDepth 20000 in
theorem tw_1_134 : Cond.laysFinal RX0 "CoatTraces$Book" "which" "[I" ∈ TB := tb_1 (List.mem_of_getElem? (l := tables_1_1) (i := 134) rfl) rfl
set_option maxRecDepth 20000 in
theorem tw_1_136 : Cond.laysFinal RX0 "CoatTraces$Book" "arms" "[I" ∈ TB := tb_1 (List.mem_of_getElem? (l := tables_1_1) (i := 136) rfl) rfl
set_option maxRecDepth 20000 in
theorem tw_1_138 : Cond.lays RX0 "CoatTraces$Book" "entries" "I" ∈ TB := tb_1 (List.mem_of_getElem? (l := tables_1_1) (i := 138) rfl) rfl
set_option maxRecDepth 20000 in
theorem tw_1_141 : Cond.classLink RX10 51 RX5 ∈ TB := tb_1 (List.mem_of_getElem? (l := tables_1_1) (i := 141) rfl) rfl
set_option maxRecDepth 20000 in
theorem tw_1_142 : Cond.instantiable RX5 3 ∈ TB := tb_1 (List.mem_of_getElem? (l := tables_1_1) (i := 142) rfl) rfl
set_option maxRecDepth 20000 in
theorem tw_1_143 : Cond.methodLink RX10 53 yX5_init ∈ TB := tb_1 (List.mem_of_getElem? (l := tables_1_1) (i := 143) rfl) rfl
set_option maxRecDepth 20000 in
theorem tw_1_144 : Cond.instanceMethod yX5_init ∈ TB := tb_1 (List.mem_of_getElem? (l := tables_1_1) (i := 144) rfl) rfl
set_option maxRecDepth 20000 in
theorem tw_1_145 : Cond.code yX5_init cX5_init 1 none ∈ TB := tb_1 (List.mem_of_getElem? (l := tables_1_1) (i := 145) rfl) rfl
set_option maxRecDepth 20000 in
theorem tw_1_146 : Cond.methodLink RX5 3 Lib.objectInit ∈ TB := tb_1 (List.mem_of_getElem? (l := tables_1_1) (i := 146) rfl) rfl
set_option maxRecDepth 20000 in
theorem tw_1_147 : Cond.classLink RX5 9 RX6 ∈ TB := tb_1 (List.mem_of_getElem? (l := tables_1_1) (i := 147) rfl) rfl
set_option maxRecDepth 20000 in
theorem tw_1_148 : Cond.instantiable RX6 2 ∈ TB := tb_1 (List.mem_of_getElem? (l := tables_1_1) (i := 148) rfl) rfl
set_option maxRecDepth 20000 in
theorem tw_1_149 : Cond.methodLink RX5 11 yX6_init ∈ TB := tb_1 (List.mem_of_getElem? (l := tables_1_1) (i := 149) rfl) rfl
set_option maxRecDepth 20000 in
theorem tw_1_150 : Cond.instanceMethod yX6_init ∈ TB := tb_1 (List.mem_of_getElem? (l := tables_1_1) (i := 150) rfl) rfl
set_option maxRecDepth 20000 in
theorem tw_1_151 : Cond.code yX6_init cX6_init 2 none ∈ TB := tb_1 (List.mem_of_getElem? (l := tables_1_1) (i := 151) rfl) rfl
set_option maxRecDepth 20000 in
theorem tw_1_152 : Cond.methodLink RX6 1 Lib.objectInit ∈ TB := tb_1 (List.mem_of_getElem? (l := tables_1_1) (i := 152) rfl) rfl
set_option maxRecDepth 20000 in
theorem tw_1_153 : Cond.methodLink RX6 7 Lib.Math.max.name ∈ TB := tb_1 (List.mem_of_getElem? (l := tables_1_1) (i := 153) rfl) rfl
set_option maxRecDepth 20000 in
theorem tw_1_154 : Cond.static Lib.Math.max.name ∈ TB := tb_1 (List.mem_of_getElem? (l := tables_1_1) (i := 154) rfl) rfl
set_option maxRecDepth 20000 in
theorem tw_1_155 : Cond.code Lib.Math.max.name Lib.Math.max.code 2 (some .int) ∈ TB := tb_1 (List.mem_of_getElem? (l := tables_1_1) (i := 155) rfl) rfl
set_option maxRecDepth 20000 in
theorem tw_1_156 : Cond.fieldLink RX6 13 "CoatTraces$Shelf" "places" "I" ∈ TB := tb_1 (List.mem_of_getElem? (l := tables_1_1) (i := 156) rfl) rfl
set_option maxRecDepth 20000 in
theorem tw_1_157 : Cond.fieldLink RX6 21 "CoatTraces$Shelf" "rows" "[I" ∈ TB := tb_1 (List.mem_of_getElem? (l := tables_1_1) (i := 157) rfl) rfl
set_option maxRecDepth 20000 in
theorem tw_1_158 : Cond.laysFinal RX6 "CoatTraces$Shelf" "places" "I" ∈ TB := tb_1 (List.mem_of_getElem? (l := tables_1_1) (i := 158) rfl) rfl
set_option maxRecDepth 20000 in
theorem tw_1_160 : Cond.laysFinal RX6 "CoatTraces$Shelf" "rows" "[I" ∈ TB := tb_1 (List.mem_of_getElem? (l := tables_1_1) (i := 160) rfl) rfl
set_option maxRecDepth 20000 in
theorem tw_1_163 : Cond.fieldLink RX5 14 "CoatTraces$Past" "shelf" "LCoatTraces$Shelf;" ∈ TB := tb_1 (List.mem_of_getElem? (l := tables_1_1) (i := 163) rfl) rfl
set_option maxRecDepth 20000 in
theorem tw_1_164 : Cond.fieldLink RX5 20 "CoatTraces$Past" "next" "I" ∈ TB := tb_1 (List.mem_of_getElem? (l := tables_1_1) (i := 164) rfl) rfl
set_option maxRecDepth 20000 in
theorem tw_1_165 : Cond.fieldLink RX5 28 "CoatTraces$Past" "deeds" "I" ∈ TB := tb_1 (List.mem_of_getElem? (l := tables_1_1) (i := 165) rfl) rfl
set_option maxRecDepth 20000 in
theorem tw_1_166 : Cond.fieldLink RX10 109 "CoatTraces$Past" "deeds" "I" ∈ TB := tb_1 (List.mem_of_getElem? (l := tables_1_1) (i := 166) rfl) rfl
set_option maxRecDepth 20000 in
theorem tw_1_167 : Cond.laysFinal RX5 "CoatTraces$Past" "shelf" "LCoatTraces$Shelf;" ∈ TB := tb_1 (List.mem_of_getElem? (l := tables_1_1) (i := 167) rfl) rfl
set_option maxRecDepth 20000 in
theorem tw_1_169 : Cond.lays RX5 "CoatTraces$Past" "next" "I" ∈ TB := tb_1 (List.mem_of_getElem? (l := tables_1_1) (i := 169) rfl) rfl
set_option maxRecDepth 20000 in
theorem tw_1_171 : Cond.lays RX5 "CoatTraces$Past" "deeds" "I" ∈ TB := tb_1 (List.mem_of_getElem? (l := tables_1_1) (i := 171) rfl) rfl
set_option maxRecDepth 20000 in
theorem tw_1_174 : Cond.classLink RX10 58 RX3 ∈ TB := tb_1 (List.mem_of_getElem? (l := tables_1_1) (i := 174) rfl) rfl
set_option maxRecDepth 20000 in
theorem tw_1_175 : Cond.instantiable RX3 3 ∈ TB := tb_1 (List.mem_of_getElem? (l := tables_1_1) (i := 175) rfl) rfl
set_option maxRecDepth 20000 in
theorem tw_1_176 : Cond.methodLink RX10 60 yX3_init ∈ TB := tb_1 (List.mem_of_getElem? (l := tables_1_1) (i := 176) rfl) rfl
set_option maxRecDepth 20000 in
theorem tw_1_177 : Cond.instanceMethod yX3_init ∈ TB := tb_1 (List.mem_of_getElem? (l := tables_1_1) (i := 177) rfl) rfl
set_option maxRecDepth 20000 in
theorem tw_1_178 : Cond.code yX3_init cX3_init 1 none ∈ TB := tb_1 (List.mem_of_getElem? (l := tables_1_1) (i := 178) rfl) rfl
set_option maxRecDepth 20000 in
theorem tw_1_179 : Cond.methodLink RX3 3 Lib.objectInit ∈ TB := tb_1 (List.mem_of_getElem? (l := tables_1_1) (i := 179) rfl) rfl
set_option maxRecDepth 20000 in
theorem tw_1_180 : Cond.classLink RX3 9 RX6 ∈ TB := tb_1 (List.mem_of_getElem? (l := tables_1_1) (i := 180) rfl) rfl
set_option maxRecDepth 20000 in
theorem tw_1_181 : Cond.methodLink RX3 11 yX6_init ∈ TB := tb_1 (List.mem_of_getElem? (l := tables_1_1) (i := 181) rfl) rfl
set_option maxRecDepth 20000 in
theorem tw_1_182 : Cond.fieldLink RX3 14 "CoatTraces$Images" "shelf" "LCoatTraces$Shelf;" ∈ TB := tb_1 (List.mem_of_getElem? (l := tables_1_1) (i := 182) rfl) rfl
set_option maxRecDepth 20000 in
theorem tw_1_183 : Cond.fieldLink RX3 20 "CoatTraces$Images" "seeds" "[I" ∈ TB := tb_1 (List.mem_of_getElem? (l := tables_1_1) (i := 183) rfl) rfl
set_option maxRecDepth 20000 in
theorem tw_1_184 : Cond.fieldLink RX3 24 "CoatTraces$Images" "stored" "[Z" ∈ TB := tb_1 (List.mem_of_getElem? (l := tables_1_1) (i := 184) rfl) rfl
set_option maxRecDepth 20000 in
theorem tw_1_185 : Cond.laysFinal RX3 "CoatTraces$Images" "shelf" "LCoatTraces$Shelf;" ∈ TB := tb_1 (List.mem_of_getElem? (l := tables_1_1) (i := 185) rfl) rfl
set_option maxRecDepth 20000 in
theorem tw_1_187 : Cond.laysFinal RX3 "CoatTraces$Images" "seeds" "[I" ∈ TB := tb_1 (List.mem_of_getElem? (l := tables_1_1) (i := 187) rfl) rfl
set_option maxRecDepth 20000 in
theorem tw_1_189 : Cond.laysFinal RX3 "CoatTraces$Images" "stored" "[Z" ∈ TB := tb_1 (List.mem_of_getElem? (l := tables_1_1) (i := 189) rfl) rfl
set_option maxRecDepth 20000 in
theorem tw_1_192 : Cond.arrayClass .boolean ∈ TB := tb_1 (List.mem_of_getElem? (l := tables_1_1) (i := 192) rfl) rfl
set_option maxRecDepth 20000 in
theorem tw_1_193 : Cond.classLink RX10 65 RX2 ∈ TB := tb_1 (List.mem_of_getElem? (l := tables_1_1) (i := 193) rfl) rfl
set_option maxRecDepth 20000 in
theorem tw_1_194 : Cond.instantiable RX2 1 ∈ TB := tb_1 (List.mem_of_getElem? (l := tables_1_1) (i := 194) rfl) rfl
set_option maxRecDepth 20000 in
theorem tw_1_195 : Cond.methodLink RX10 67 yX2_init ∈ TB := tb_1 (List.mem_of_getElem? (l := tables_1_1) (i := 195) rfl) rfl
set_option maxRecDepth 20000 in
theorem tw_1_196 : Cond.instanceMethod yX2_init ∈ TB := tb_1 (List.mem_of_getElem? (l := tables_1_1) (i := 196) rfl) rfl
set_option maxRecDepth 20000 in
theorem tw_1_197 : Cond.code yX2_init cX2_init 1 none ∈ TB := tb_1 (List.mem_of_getElem? (l := tables_1_1) (i := 197) rfl) rfl
set_option maxRecDepth 20000 in
theorem tw_1_198 : Cond.methodLink RX2 3 Lib.objectInit ∈ TB := tb_1 (List.mem_of_getElem? (l := tables_1_1) (i := 198) rfl) rfl
set_option maxRecDepth 20000 in
theorem tw_1_199 : Cond.fieldLink RX2 9 "CoatTraces$Draws" "seedNow" "I" ∈ TB := tb_1 (List.mem_of_getElem? (l := tables_1_1) (i := 199) rfl) rfl
set_option maxRecDepth 20000 in
theorem tw_1_200 : Cond.fieldLink RX3 32 "CoatTraces$Draws" "seedNow" "I" ∈ TB := tb_1 (List.mem_of_getElem? (l := tables_1_1) (i := 200) rfl) rfl
set_option maxRecDepth 20000 in
theorem tw_1_201 : Cond.fieldLink RX10 236 "CoatTraces$Draws" "seedNow" "I" ∈ TB := tb_1 (List.mem_of_getElem? (l := tables_1_1) (i := 201) rfl) rfl
set_option maxRecDepth 20000 in
theorem tw_1_202 : Cond.lays RX2 "CoatTraces$Draws" "seedNow" "I" ∈ TB := tb_1 (List.mem_of_getElem? (l := tables_1_1) (i := 202) rfl) rfl
set_option maxRecDepth 20000 in
theorem tw_1_205 : Cond.fieldLink RX10 10 "CoatTraces" "state" "LCoatTraces$State;" ∈ TB := tb_1 (List.mem_of_getElem? (l := tables_1_1) (i := 205) rfl) rfl
set_option maxRecDepth 20000 in
theorem tw_1_206 : Cond.fieldLink RX10 19 "CoatTraces" "coats" "LCoatTraces$Coats;" ∈ TB := tb_1 (List.mem_of_getElem? (l := tables_1_1) (i := 206) rfl) rfl
set_option maxRecDepth 20000 in
theorem tw_1_207 : Cond.fieldLink RX10 26 "CoatTraces" "years" "LCoatTraces$Years;" ∈ TB := tb_1 (List.mem_of_getElem? (l := tables_1_1) (i := 207) rfl) rfl
set_option maxRecDepth 20000 in
theorem tw_1_208 : Cond.fieldLink RX10 33 "CoatTraces" "tracer" "LCoatTraces$Tracer;" ∈ TB := tb_1 (List.mem_of_getElem? (l := tables_1_1) (i := 208) rfl) rfl
set_option maxRecDepth 20000 in
theorem tw_1_209 : Cond.fieldLink RX10 40 "CoatTraces" "kinship" "LCoatTraces$Kinship;" ∈ TB := tb_1 (List.mem_of_getElem? (l := tables_1_1) (i := 209) rfl) rfl
set_option maxRecDepth 20000 in
theorem tw_1_210 : Cond.fieldLink RX10 47 "CoatTraces" "book" "LCoatTraces$Book;" ∈ TB := tb_1 (List.mem_of_getElem? (l := tables_1_1) (i := 210) rfl) rfl
set_option maxRecDepth 20000 in
theorem tw_1_211 : Cond.fieldLink RX10 54 "CoatTraces" "past" "LCoatTraces$Past;" ∈ TB := tb_1 (List.mem_of_getElem? (l := tables_1_1) (i := 211) rfl) rfl
set_option maxRecDepth 20000 in
theorem tw_1_212 : Cond.fieldLink RX10 61 "CoatTraces" "images" "LCoatTraces$Images;" ∈ TB := tb_1 (List.mem_of_getElem? (l := tables_1_1) (i := 212) rfl) rfl
set_option maxRecDepth 20000 in
theorem tw_1_213 : Cond.fieldLink RX10 68 "CoatTraces" "draws" "LCoatTraces$Draws;" ∈ TB := tb_1 (List.mem_of_getElem? (l := tables_1_1) (i := 213) rfl) rfl
set_option maxRecDepth 20000 in
theorem tw_1_214 : Cond.laysFinal RX10 "CoatTraces" "state" "LCoatTraces$State;" ∈ TB := tb_1 (List.mem_of_getElem? (l := tables_1_1) (i := 214) rfl) rfl
set_option maxRecDepth 20000 in
theorem tw_1_216 : Cond.laysFinal RX10 "CoatTraces" "coats" "LCoatTraces$Coats;" ∈ TB := tb_1 (List.mem_of_getElem? (l := tables_1_1) (i := 216) rfl) rfl
set_option maxRecDepth 20000 in
theorem tw_1_218 : Cond.laysFinal RX10 "CoatTraces" "years" "LCoatTraces$Years;" ∈ TB := tb_1 (List.mem_of_getElem? (l := tables_1_1) (i := 218) rfl) rfl
set_option maxRecDepth 20000 in
theorem tw_1_220 : Cond.laysFinal RX10 "CoatTraces" "tracer" "LCoatTraces$Tracer;" ∈ TB := tb_1 (List.mem_of_getElem? (l := tables_1_1) (i := 220) rfl) rfl
set_option maxRecDepth 20000 in
theorem tw_1_222 : Cond.laysFinal RX10 "CoatTraces" "kinship" "LCoatTraces$Kinship;" ∈ TB := tb_1 (List.mem_of_getElem? (l := tables_1_1) (i := 222) rfl) rfl
set_option maxRecDepth 20000 in
theorem tw_1_224 : Cond.laysFinal RX10 "CoatTraces" "book" "LCoatTraces$Book;" ∈ TB := tb_1 (List.mem_of_getElem? (l := tables_1_1) (i := 224) rfl) rfl
set_option maxRecDepth 20000 in
theorem tw_1_226 : Cond.laysFinal RX10 "CoatTraces" "past" "LCoatTraces$Past;" ∈ TB := tb_1 (List.mem_of_getElem? (l := tables_1_1) (i := 226) rfl) rfl
set_option maxRecDepth 20000 in
theorem tw_1_228 : Cond.laysFinal RX10 "CoatTraces" "images" "LCoatTraces$Images;" ∈ TB := tb_1 (List.mem_of_getElem? (l := tables_1_1) (i := 228) rfl) rfl
set_option maxRecDepth 20000 in
theorem tw_1_230 : Cond.laysFinal RX10 "CoatTraces" "draws" "LCoatTraces$Draws;" ∈ TB := tb_1 (List.mem_of_getElem? (l := tables_1_1) (i := 230) rfl) rfl
set_option maxRecDepth 20000 in
theorem tw_1_234 : Cond.instanceMethod yX10_told ∈ TB := tb_1 (List.mem_of_getElem? (l := tables_1_1) (i := 234) rfl) rfl
set_option maxRecDepth 20000 in
theorem tw_1_235 : Cond.selects RX10 yX10_told yX10_told ∈ TB := tb_1 (List.mem_of_getElem? (l := tables_1_1) (i := 235) rfl) rfl
set_option maxRecDepth 20000 in
theorem tw_1_236 : Cond.code yX10_told cX10_told 2 (some .int) ∈ TB := tb_1 (List.mem_of_getElem? (l := tables_1_1) (i := 236) rfl) rfl
set_option maxRecDepth 20000 in
theorem tw_1_237 : Cond.methodLink RX10 72 yX7_people ∈ TB := tb_1 (List.mem_of_getElem? (l := tables_1_1) (i := 237) rfl) rfl
set_option maxRecDepth 20000 in
theorem tw_1_238 : Cond.instanceMethod yX7_people ∈ TB := tb_1 (List.mem_of_getElem? (l := tables_1_1) (i := 238) rfl) rfl
set_option maxRecDepth 20000 in
theorem tw_1_239 : Cond.selects RX7 yX7_people yX7_people ∈ TB := tb_1 (List.mem_of_getElem? (l := tables_1_1) (i := 239) rfl) rfl
set_option maxRecDepth 20000 in
theorem tw_2_0 : Cond.code yX7_people cX7_people 1 (some .int) ∈ TB := tb_2 (List.mem_of_getElem? (l := tables_1_2) (i := 0) rfl) rfl
set_option maxRecDepth 20000 in
theorem tw_2_1 : Cond.methodLink RX10 76 yX7_ruleNow ∈ TB := tb_2 (List.mem_of_getElem? (l := tables_1_2) (i := 1) rfl) rfl
set_option maxRecDepth 20000 in
theorem tw_2_2 : Cond.instanceMethod yX7_ruleNow ∈ TB := tb_2 (List.mem_of_getElem? (l := tables_1_2) (i := 2) rfl) rfl
set_option maxRecDepth 20000 in
theorem tw_2_3 : Cond.selects RX7 yX7_ruleNow yX7_ruleNow ∈ TB := tb_2 (List.mem_of_getElem? (l := tables_1_2) (i := 3) rfl) rfl
set_option maxRecDepth 20000 in
theorem tw_2_4 : Cond.code yX7_ruleNow cX7_ruleNow 1 (some .int) ∈ TB := tb_2 (List.mem_of_getElem? (l := tables_1_2) (i := 4) rfl) rfl
set_option maxRecDepth 20000 in
theorem tw_2_5 : Cond.methodLink RX10 79 yX7_signs ∈ TB := tb_2 (List.mem_of_getElem? (l := tables_1_2) (i := 5) rfl) rfl
set_option maxRecDepth 20000 in
theorem tw_2_6 : Cond.instanceMethod yX7_signs ∈ TB := tb_2 (List.mem_of_getElem? (l := tables_1_2) (i := 6) rfl) rfl
set_option maxRecDepth 20000 in
theorem tw_2_7 : Cond.selects RX7 yX7_signs yX7_signs ∈ TB := tb_2 (List.mem_of_getElem? (l := tables_1_2) (i := 7) rfl) rfl
set_option maxRecDepth 20000 in
theorem tw_2_8 : Cond.code yX7_signs cX7_signs 1 (some .int) ∈ TB := tb_2 (List.mem_of_getElem? (l := tables_1_2) (i := 8) rfl) rfl
set_option maxRecDepth 20000 in
theorem tw_2_9 : Cond.methodLink RX10 86 yX1_unlikeCoats ∈ TB := tb_2 (List.mem_of_getElem? (l := tables_1_2) (i := 9) rfl) rfl
set_option maxRecDepth 20000 in
theorem tw_2_10 : Cond.instanceMethod yX1_unlikeCoats ∈ TB := tb_2 (List.mem_of_getElem? (l := tables_1_2) (i := 10) rfl) rfl
set_option maxRecDepth 20000 in
theorem tw_2_11 : Cond.selects RX1 yX1_unlikeCoats yX1_unlikeCoats ∈ TB := tb_2 (List.mem_of_getElem? (l := tables_1_2) (i := 11) rfl) rfl
set_option maxRecDepth 20000 in
theorem tw_2_12 : Cond.code yX1_unlikeCoats cX1_unlikeCoats 4 (some .int) ∈ TB := tb_2 (List.mem_of_getElem? (l := tables_1_2) (i := 12) rfl) rfl
set_option maxRecDepth 20000 in
theorem tw_2_13 : Cond.methodLink RX1 52 yX1_isIn ∈ TB := tb_2 (List.mem_of_getElem? (l := tables_1_2) (i := 13) rfl) rfl
set_option maxRecDepth 20000 in
theorem tw_2_14 : Cond.static yX1_isIn ∈ TB := tb_2 (List.mem_of_getElem? (l := tables_1_2) (i := 14) rfl) rfl
set_option maxRecDepth 20000 in
theorem tw_2_15 : Cond.code yX1_isIn cX1_isIn 2 (some .boolean) ∈ TB := tb_2 (List.mem_of_getElem? (l := tables_1_2) (i := 15) rfl) rfl
set_option maxRecDepth 20000 in
theorem tw_2_16 : Cond.methodLink RX1 79 yX1_sameAs ∈ TB := tb_2 (List.mem_of_getElem? (l := tables_1_2) (i := 16) rfl) rfl
set_option maxRecDepth 20000 in
theorem tw_2_17 : Cond.instanceMethod yX1_sameAs ∈ TB := tb_2 (List.mem_of_getElem? (l := tables_1_2) (i := 17) rfl) rfl
set_option maxRecDepth 20000 in
theorem tw_2_18 : Cond.selects RX1 yX1_sameAs yX1_sameAs ∈ TB := tb_2 (List.mem_of_getElem? (l := tables_1_2) (i := 18) rfl) rfl
set_option maxRecDepth 20000 in
theorem tw_2_19 : Cond.code yX1_sameAs cX1_sameAs 4 (some .int) ∈ TB := tb_2 (List.mem_of_getElem? (l := tables_1_2) (i := 19) rfl) rfl
set_option maxRecDepth 20000 in
theorem tw_2_20 : Cond.methodLink RX1 76 yX1_isSame ∈ TB := tb_2 (List.mem_of_getElem? (l := tables_1_2) (i := 20) rfl) rfl
set_option maxRecDepth 20000 in
theorem tw_2_21 : Cond.instanceMethod yX1_isSame ∈ TB := tb_2 (List.mem_of_getElem? (l := tables_1_2) (i := 21) rfl) rfl
set_option maxRecDepth 20000 in
theorem tw_2_22 : Cond.selects RX1 yX1_isSame yX1_isSame ∈ TB := tb_2 (List.mem_of_getElem? (l := tables_1_2) (i := 22) rfl) rfl
set_option maxRecDepth 20000 in
theorem tw_2_23 : Cond.code yX1_isSame cX1_isSame 4 (some .boolean) ∈ TB := tb_2 (List.mem_of_getElem? (l := tables_1_2) (i := 23) rfl) rfl
set_option maxRecDepth 20000 in
theorem tw_2_24 : Cond.methodLink RX1 56 yX1_sizeOf ∈ TB := tb_2 (List.mem_of_getElem? (l := tables_1_2) (i := 24) rfl) rfl
set_option maxRecDepth 20000 in
theorem tw_2_25 : Cond.instanceMethod yX1_sizeOf ∈ TB := tb_2 (List.mem_of_getElem? (l := tables_1_2) (i := 25) rfl) rfl
set_option maxRecDepth 20000 in
theorem tw_2_26 : Cond.selects RX1 yX1_sizeOf yX1_sizeOf ∈ TB := tb_2 (List.mem_of_getElem? (l := tables_1_2) (i := 26) rfl) rfl
set_option maxRecDepth 20000 in
theorem tw_2_27 : Cond.code yX1_sizeOf cX1_sizeOf 2 (some .int) ∈ TB := tb_2 (List.mem_of_getElem? (l := tables_1_2) (i := 27) rfl) rfl
set_option maxRecDepth 20000 in
theorem tw_2_28 : Cond.methodLink RX1 67 yX1_armsAt ∈ TB := tb_2 (List.mem_of_getElem? (l := tables_1_2) (i := 28) rfl) rfl
set_option maxRecDepth 20000 in
theorem tw_2_29 : Cond.instanceMethod yX1_armsAt ∈ TB := tb_2 (List.mem_of_getElem? (l := tables_1_2) (i := 29) rfl) rfl
set_option maxRecDepth 20000 in
theorem tw_2_30 : Cond.selects RX1 yX1_armsAt yX1_armsAt ∈ TB := tb_2 (List.mem_of_getElem? (l := tables_1_2) (i := 30) rfl) rfl
set_option maxRecDepth 20000 in
theorem tw_2_31 : Cond.code yX1_armsAt cX1_armsAt 3 (some .int) ∈ TB := tb_2 (List.mem_of_getElem? (l := tables_1_2) (i := 31) rfl) rfl
set_option maxRecDepth 20000 in
theorem tw_2_32 : Cond.methodLink RX10 89 yX9_spoiledBit ∈ TB := tb_2 (List.mem_of_getElem? (l := tables_1_2) (i := 32) rfl) rfl
set_option maxRecDepth 20000 in
theorem tw_2_33 : Cond.instanceMethod yX9_spoiledBit ∈ TB := tb_2 (List.mem_of_getElem? (l := tables_1_2) (i := 33) rfl) rfl
set_option maxRecDepth 20000 in
theorem tw_2_34 : Cond.selects RX9 yX9_spoiledBit yX9_spoiledBit ∈ TB := tb_2 (List.mem_of_getElem? (l := tables_1_2) (i := 34) rfl) rfl
set_option maxRecDepth 20000 in
theorem tw_2_35 : Cond.code yX9_spoiledBit cX9_spoiledBit 1 (some .int) ∈ TB := tb_2 (List.mem_of_getElem? (l := tables_1_2) (i := 35) rfl) rfl
set_option maxRecDepth 20000 in
theorem tw_2_36 : Cond.methodLink RX10 92 yX8_meantByAll ∈ TB := tb_2 (List.mem_of_getElem? (l := tables_1_2) (i := 36) rfl) rfl
set_option maxRecDepth 20000 in
theorem tw_2_37 : Cond.instanceMethod yX8_meantByAll ∈ TB := tb_2 (List.mem_of_getElem? (l := tables_1_2) (i := 37) rfl) rfl
set_option maxRecDepth 20000 in
theorem tw_2_38 : Cond.selects RX8 yX8_meantByAll yX8_meantByAll ∈ TB := tb_2 (List.mem_of_getElem? (l := tables_1_2) (i := 38) rfl) rfl
set_option maxRecDepth 20000 in
theorem tw_2_39 : Cond.code yX8_meantByAll cX8_meantByAll 5 (some .int) ∈ TB := tb_2 (List.mem_of_getElem? (l := tables_1_2) (i := 39) rfl) rfl
set_option maxRecDepth 20000 in
theorem tw_2_40 : Cond.methodLink RX8 15 yX7_people ∈ TB := tb_2 (List.mem_of_getElem? (l := tables_1_2) (i := 40) rfl) rfl
set_option maxRecDepth 20000 in
theorem tw_2_41 : Cond.methodLink RX8 21 yX7_signs ∈ TB := tb_2 (List.mem_of_getElem? (l := tables_1_2) (i := 41) rfl) rfl
set_option maxRecDepth 20000 in
theorem tw_2_42 : Cond.methodLink RX8 24 yX1_sizeOf ∈ TB := tb_2 (List.mem_of_getElem? (l := tables_1_2) (i := 42) rfl) rfl
set_option maxRecDepth 20000 in
theorem tw_2_43 : Cond.methodLink RX8 30 yX8_fitsEach ∈ TB := tb_2 (List.mem_of_getElem? (l := tables_1_2) (i := 43) rfl) rfl
set_option maxRecDepth 20000 in
theorem tw_2_44 : Cond.static yX8_fitsEach ∈ TB := tb_2 (List.mem_of_getElem? (l := tables_1_2) (i := 44) rfl) rfl
set_option maxRecDepth 20000 in
theorem tw_2_45 : Cond.code yX8_fitsEach cX8_fitsEach 4 (some .boolean) ∈ TB := tb_2 (List.mem_of_getElem? (l := tables_1_2) (i := 45) rfl) rfl
set_option maxRecDepth 20000 in
theorem tw_2_46 : Cond.methodLink RX8 34 yX7_signNumber ∈ TB := tb_2 (List.mem_of_getElem? (l := tables_1_2) (i := 46) rfl) rfl
set_option maxRecDepth 20000 in
theorem tw_2_47 : Cond.instanceMethod yX7_signNumber ∈ TB := tb_2 (List.mem_of_getElem? (l := tables_1_2) (i := 47) rfl) rfl
set_option maxRecDepth 20000 in
theorem tw_2_48 : Cond.selects RX7 yX7_signNumber yX7_signNumber ∈ TB := tb_2 (List.mem_of_getElem? (l := tables_1_2) (i := 48) rfl) rfl
set_option maxRecDepth 20000 in
theorem tw_2_49 : Cond.code yX7_signNumber cX7_signNumber 2 (some .int) ∈ TB := tb_2 (List.mem_of_getElem? (l := tables_1_2) (i := 49) rfl) rfl
set_option maxRecDepth 20000 in
theorem tw_2_50 : Cond.methodLink RX7 31 yX7_signs ∈ TB := tb_2 (List.mem_of_getElem? (l := tables_1_2) (i := 50) rfl) rfl
set_option maxRecDepth 20000 in
theorem tw_2_51 : Cond.methodLink RX8 37 yX1_armsAt ∈ TB := tb_2 (List.mem_of_getElem? (l := tables_1_2) (i := 51) rfl) rfl
set_option maxRecDepth 20000 in
theorem tw_2_52 : Cond.methodLink RX8 41 yX8_fits ∈ TB := tb_2 (List.mem_of_getElem? (l := tables_1_2) (i := 52) rfl) rfl
set_option maxRecDepth 20000 in
theorem tw_2_53 : Cond.static yX8_fits ∈ TB := tb_2 (List.mem_of_getElem? (l := tables_1_2) (i := 53) rfl) rfl
set_option maxRecDepth 20000 in
theorem tw_2_54 : Cond.code yX8_fits cX8_fits 2 (some .boolean) ∈ TB := tb_2 (List.mem_of_getElem? (l := tables_1_2) (i := 54) rfl) rfl
set_option maxRecDepth 20000 in
theorem tw_2_55 : Cond.methodLink RX10 96 yX8_meantBySome ∈ TB := tb_2 (List.mem_of_getElem? (l := tables_1_2) (i := 55) rfl) rfl
set_option maxRecDepth 20000 in
theorem tw_2_56 : Cond.instanceMethod yX8_meantBySome ∈ TB := tb_2 (List.mem_of_getElem? (l := tables_1_2) (i := 56) rfl) rfl
set_option maxRecDepth 20000 in
theorem tw_2_57 : Cond.selects RX8 yX8_meantBySome yX8_meantBySome ∈ TB := tb_2 (List.mem_of_getElem? (l := tables_1_2) (i := 57) rfl) rfl
set_option maxRecDepth 20000 in
theorem tw_2_58 : Cond.code yX8_meantBySome cX8_meantBySome 5 (some .int) ∈ TB := tb_2 (List.mem_of_getElem? (l := tables_1_2) (i := 58) rfl) rfl
set_option maxRecDepth 20000 in
theorem tw_2_59 : Cond.methodLink RX8 45 yX8_holdsRest ∈ TB := tb_2 (List.mem_of_getElem? (l := tables_1_2) (i := 59) rfl) rfl
set_option maxRecDepth 20000 in
theorem tw_2_60 : Cond.static yX8_holdsRest ∈ TB := tb_2 (List.mem_of_getElem? (l := tables_1_2) (i := 60) rfl) rfl
set_option maxRecDepth 20000 in
theorem tw_2_61 : Cond.code yX8_holdsRest cX8_holdsRest 5 (some .boolean) ∈ TB := tb_2 (List.mem_of_getElem? (l := tables_1_2) (i := 61) rfl) rfl
set_option maxRecDepth 20000 in
theorem tw_2_62 : Cond.methodLink RX10 99 yX8_likely ∈ TB := tb_2 (List.mem_of_getElem? (l := tables_1_2) (i := 62) rfl) rfl
set_option maxRecDepth 20000 in
theorem tw_2_63 : Cond.instanceMethod yX8_likely ∈ TB := tb_2 (List.mem_of_getElem? (l := tables_1_2) (i := 63) rfl) rfl
set_option maxRecDepth 20000 in
theorem tw_2_64 : Cond.selects RX8 yX8_likely yX8_likely ∈ TB := tb_2 (List.mem_of_getElem? (l := tables_1_2) (i := 64) rfl) rfl
set_option maxRecDepth 20000 in
theorem tw_2_65 : Cond.code yX8_likely cX8_likely 8 (some .int) ∈ TB := tb_2 (List.mem_of_getElem? (l := tables_1_2) (i := 65) rfl) rfl
set_option maxRecDepth 20000 in
theorem tw_2_66 : Cond.methodLink RX8 60 yX8_like ∈ TB := tb_2 (List.mem_of_getElem? (l := tables_1_2) (i := 66) rfl) rfl
set_option maxRecDepth 20000 in
theorem tw_2_67 : Cond.instanceMethod yX8_like ∈ TB := tb_2 (List.mem_of_getElem? (l := tables_1_2) (i := 67) rfl) rfl
set_option maxRecDepth 20000 in
theorem tw_2_68 : Cond.selects RX8 yX8_like yX8_like ∈ TB := tb_2 (List.mem_of_getElem? (l := tables_1_2) (i := 68) rfl) rfl
set_option maxRecDepth 20000 in
theorem tw_2_69 : Cond.code yX8_like cX8_like 6 (some .int) ∈ TB := tb_2 (List.mem_of_getElem? (l := tables_1_2) (i := 69) rfl) rfl
set_option maxRecDepth 20000 in
theorem tw_2_70 : Cond.methodLink RX8 48 Lib.Math.min.name ∈ TB := tb_2 (List.mem_of_getElem? (l := tables_1_2) (i := 70) rfl) rfl
set_option maxRecDepth 20000 in
theorem tw_2_71 : Cond.static Lib.Math.min.name ∈ TB := tb_2 (List.mem_of_getElem? (l := tables_1_2) (i := 71) rfl) rfl
set_option maxRecDepth 20000 in
theorem tw_2_72 : Cond.code Lib.Math.min.name Lib.Math.min.code 2 (some .int) ∈ TB := tb_2 (List.mem_of_getElem? (l := tables_1_2) (i := 72) rfl) rfl
set_option maxRecDepth 20000 in
theorem tw_2_73 : Cond.methodLink RX8 53 yX8_countOneMore ∈ TB := tb_2 (List.mem_of_getElem? (l := tables_1_2) (i := 73) rfl) rfl
set_option maxRecDepth 20000 in
theorem tw_2_74 : Cond.instanceMethod yX8_countOneMore ∈ TB := tb_2 (List.mem_of_getElem? (l := tables_1_2) (i := 74) rfl) rfl
set_option maxRecDepth 20000 in
theorem tw_2_75 : Cond.selects RX8 yX8_countOneMore yX8_countOneMore ∈ TB := tb_2 (List.mem_of_getElem? (l := tables_1_2) (i := 75) rfl) rfl
set_option maxRecDepth 20000 in
theorem tw_2_76 : Cond.code yX8_countOneMore cX8_countOneMore 8 none ∈ TB := tb_2 (List.mem_of_getElem? (l := tables_1_2) (i := 76) rfl) rfl
set_option maxRecDepth 20000 in
theorem tw_2_77 : Cond.methodLink RX8 57 Lib.Math.max.name ∈ TB := tb_2 (List.mem_of_getElem? (l := tables_1_2) (i := 77) rfl) rfl
set_option maxRecDepth 20000 in
theorem tw_2_78 : Cond.methodLink RX10 105 yX0_firstWrong ∈ TB := tb_2 (List.mem_of_getElem? (l := tables_1_2) (i := 78) rfl) rfl
set_option maxRecDepth 20000 in
theorem tw_2_79 : Cond.instanceMethod yX0_firstWrong ∈ TB := tb_2 (List.mem_of_getElem? (l := tables_1_2) (i := 79) rfl) rfl
set_option maxRecDepth 20000 in
theorem tw_2_80 : Cond.selects RX0 yX0_firstWrong yX0_firstWrong ∈ TB := tb_2 (List.mem_of_getElem? (l := tables_1_2) (i := 80) rfl) rfl
set_option maxRecDepth 20000 in
theorem tw_2_81 : Cond.code yX0_firstWrong cX0_firstWrong 4 (some .int) ∈ TB := tb_2 (List.mem_of_getElem? (l := tables_1_2) (i := 81) rfl) rfl
set_option maxRecDepth 20000 in
theorem tw_2_82 : Cond.methodLink RX0 30 yX1_armsAt ∈ TB := tb_2 (List.mem_of_getElem? (l := tables_1_2) (i := 82) rfl) rfl
set_option maxRecDepth 20000 in
theorem tw_2_83 : Cond.constant RX10 112 (-1000000002) ∈ TB := tb_2 (List.mem_of_getElem? (l := tables_1_2) (i := 83) rfl) rfl
set_option maxRecDepth 20000 in
theorem tw_2_85 : Cond.instanceMethod yX10_person ∈ TB := tb_2 (List.mem_of_getElem? (l := tables_1_2) (i := 85) rfl) rfl
set_option maxRecDepth 20000 in
theorem tw_2_86 : Cond.selects RX10 yX10_person yX10_person ∈ TB := tb_2 (List.mem_of_getElem? (l := tables_1_2) (i := 86) rfl) rfl
set_option maxRecDepth 20000 in
theorem tw_2_87 : Cond.code yX10_person cX10_person 3 (some .int) ∈ TB := tb_2 (List.mem_of_getElem? (l := tables_1_2) (i := 87) rfl) rfl
set_option maxRecDepth 20000 in
theorem tw_2_88 : Cond.methodLink RX10 113 yX7_has ∈ TB := tb_2 (List.mem_of_getElem? (l := tables_1_2) (i := 88) rfl) rfl
set_option maxRecDepth 20000 in
theorem tw_2_89 : Cond.instanceMethod yX7_has ∈ TB := tb_2 (List.mem_of_getElem? (l := tables_1_2) (i := 89) rfl) rfl
set_option maxRecDepth 20000 in
theorem tw_2_90 : Cond.selects RX7 yX7_has yX7_has ∈ TB := tb_2 (List.mem_of_getElem? (l := tables_1_2) (i := 90) rfl) rfl
set_option maxRecDepth 20000 in
theorem tw_2_91 : Cond.code yX7_has cX7_has 2 (some .boolean) ∈ TB := tb_2 (List.mem_of_getElem? (l := tables_1_2) (i := 91) rfl) rfl
set_option maxRecDepth 20000 in
theorem tw_2_92 : Cond.constant RX10 117 (-1000000001) ∈ TB := tb_2 (List.mem_of_getElem? (l := tables_1_2) (i := 92) rfl) rfl
set_option maxRecDepth 20000 in
theorem tw_2_93 : Cond.methodLink RX10 118 yX7_fact ∈ TB := tb_2 (List.mem_of_getElem? (l := tables_1_2) (i := 93) rfl) rfl
set_option maxRecDepth 20000 in
theorem tw_2_94 : Cond.instanceMethod yX7_fact ∈ TB := tb_2 (List.mem_of_getElem? (l := tables_1_2) (i := 94) rfl) rfl
set_option maxRecDepth 20000 in
theorem tw_2_95 : Cond.selects RX7 yX7_fact yX7_fact ∈ TB := tb_2 (List.mem_of_getElem? (l := tables_1_2) (i := 95) rfl) rfl
set_option maxRecDepth 20000 in
theorem tw_2_96 : Cond.code yX7_fact cX7_fact 3 (some .int) ∈ TB := tb_2 (List.mem_of_getElem? (l := tables_1_2) (i := 96) rfl) rfl
set_option maxRecDepth 20000 in
theorem tw_2_97 : Cond.methodLink RX7 15 yX7_has ∈ TB := tb_2 (List.mem_of_getElem? (l := tables_1_2) (i := 97) rfl) rfl
set_option maxRecDepth 20000 in
theorem tw_2_98 : Cond.methodLink RX10 122 yX1_sizeOf ∈ TB := tb_2 (List.mem_of_getElem? (l := tables_1_2) (i := 98) rfl) rfl
set_option maxRecDepth 20000 in
theorem tw_2_99 : Cond.methodLink RX10 126 yX1_sameAs ∈ TB := tb_2 (List.mem_of_getElem? (l := tables_1_2) (i := 99) rfl) rfl
set_option maxRecDepth 20000 in
theorem tw_2_100 : Cond.methodLink RX10 129 yX8_like ∈ TB := tb_2 (List.mem_of_getElem? (l := tables_1_2) (i := 100) rfl) rfl
set_option maxRecDepth 20000 in
theorem tw_2_101 : Cond.methodLink RX10 133 yX7_childrenOf ∈ TB := tb_2 (List.mem_of_getElem? (l := tables_1_2) (i := 101) rfl) rfl
set_option maxRecDepth 20000 in
theorem tw_2_102 : Cond.instanceMethod yX7_childrenOf ∈ TB := tb_2 (List.mem_of_getElem? (l := tables_1_2) (i := 102) rfl) rfl
set_option maxRecDepth 20000 in
theorem tw_2_103 : Cond.selects RX7 yX7_childrenOf yX7_childrenOf ∈ TB := tb_2 (List.mem_of_getElem? (l := tables_1_2) (i := 103) rfl) rfl
set_option maxRecDepth 20000 in
theorem tw_2_104 : Cond.code yX7_childrenOf cX7_childrenOf 4 (some .int) ∈ TB := tb_2 (List.mem_of_getElem? (l := tables_1_2) (i := 104) rfl) rfl
set_option maxRecDepth 20000 in
theorem tw_2_105 : Cond.methodLink RX7 19 yX7_people ∈ TB := tb_2 (List.mem_of_getElem? (l := tables_1_2) (i := 105) rfl) rfl
set_option maxRecDepth 20000 in
theorem tw_2_106 : Cond.methodLink RX7 23 yX7_fact ∈ TB := tb_2 (List.mem_of_getElem? (l := tables_1_2) (i := 106) rfl) rfl
set_option maxRecDepth 20000 in
theorem tw_2_107 : Cond.methodLink RX10 136 yX9_leastBirth ∈ TB := tb_2 (List.mem_of_getElem? (l := tables_1_2) (i := 107) rfl) rfl
set_option maxRecDepth 20000 in
theorem tw_2_108 : Cond.instanceMethod yX9_leastBirth ∈ TB := tb_2 (List.mem_of_getElem? (l := tables_1_2) (i := 108) rfl) rfl
set_option maxRecDepth 20000 in
theorem tw_2_109 : Cond.selects RX9 yX9_leastBirth yX9_leastBirth ∈ TB := tb_2 (List.mem_of_getElem? (l := tables_1_2) (i := 109) rfl) rfl
set_option maxRecDepth 20000 in
theorem tw_2_110 : Cond.code yX9_leastBirth cX9_leastBirth 2 (some .int) ∈ TB := tb_2 (List.mem_of_getElem? (l := tables_1_2) (i := 110) rfl) rfl
set_option maxRecDepth 20000 in
theorem tw_2_111 : Cond.methodLink RX9 64 yX9_birth ∈ TB := tb_2 (List.mem_of_getElem? (l := tables_1_2) (i := 111) rfl) rfl
set_option maxRecDepth 20000 in
theorem tw_2_112 : Cond.static yX9_birth ∈ TB := tb_2 (List.mem_of_getElem? (l := tables_1_2) (i := 112) rfl) rfl
set_option maxRecDepth 20000 in
theorem tw_2_113 : Cond.code yX9_birth cX9_birth 1 (some .int) ∈ TB := tb_2 (List.mem_of_getElem? (l := tables_1_2) (i := 113) rfl) rfl
set_option maxRecDepth 20000 in
theorem tw_2_114 : Cond.methodLink RX9 88 yX9_leastOf ∈ TB := tb_2 (List.mem_of_getElem? (l := tables_1_2) (i := 114) rfl) rfl
set_option maxRecDepth 20000 in
theorem tw_2_115 : Cond.instanceMethod yX9_leastOf ∈ TB := tb_2 (List.mem_of_getElem? (l := tables_1_2) (i := 115) rfl) rfl
set_option maxRecDepth 20000 in
theorem tw_2_116 : Cond.selects RX9 yX9_leastOf yX9_leastOf ∈ TB := tb_2 (List.mem_of_getElem? (l := tables_1_2) (i := 116) rfl) rfl
set_option maxRecDepth 20000 in
theorem tw_2_117 : Cond.code yX9_leastOf cX9_leastOf 2 (some .int) ∈ TB := tb_2 (List.mem_of_getElem? (l := tables_1_2) (i := 117) rfl) rfl
set_option maxRecDepth 20000 in
theorem tw_2_118 : Cond.methodLink RX9 85 yX9_isKnown ∈ TB := tb_2 (List.mem_of_getElem? (l := tables_1_2) (i := 118) rfl) rfl
set_option maxRecDepth 20000 in
theorem tw_2_119 : Cond.instanceMethod yX9_isKnown ∈ TB := tb_2 (List.mem_of_getElem? (l := tables_1_2) (i := 119) rfl) rfl
set_option maxRecDepth 20000 in
theorem tw_2_120 : Cond.selects RX9 yX9_isKnown yX9_isKnown ∈ TB := tb_2 (List.mem_of_getElem? (l := tables_1_2) (i := 120) rfl) rfl
set_option maxRecDepth 20000 in
theorem tw_2_121 : Cond.code yX9_isKnown cX9_isKnown 2 (some .boolean) ∈ TB := tb_2 (List.mem_of_getElem? (l := tables_1_2) (i := 121) rfl) rfl
set_option maxRecDepth 20000 in
theorem tw_2_122 : Cond.methodLink RX9 81 yX9_isMoment ∈ TB := tb_2 (List.mem_of_getElem? (l := tables_1_2) (i := 122) rfl) rfl
set_option maxRecDepth 20000 in
theorem tw_2_123 : Cond.instanceMethod yX9_isMoment ∈ TB := tb_2 (List.mem_of_getElem? (l := tables_1_2) (i := 123) rfl) rfl
set_option maxRecDepth 20000 in
theorem tw_2_124 : Cond.selects RX9 yX9_isMoment yX9_isMoment ∈ TB := tb_2 (List.mem_of_getElem? (l := tables_1_2) (i := 124) rfl) rfl
set_option maxRecDepth 20000 in
theorem tw_2_125 : Cond.code yX9_isMoment cX9_isMoment 2 (some .boolean) ∈ TB := tb_2 (List.mem_of_getElem? (l := tables_1_2) (i := 125) rfl) rfl
set_option maxRecDepth 20000 in
theorem tw_2_126 : Cond.methodLink RX10 139 yX9_greatestBirth ∈ TB := tb_2 (List.mem_of_getElem? (l := tables_1_2) (i := 126) rfl) rfl
set_option maxRecDepth 20000 in
theorem tw_2_127 : Cond.instanceMethod yX9_greatestBirth ∈ TB := tb_2 (List.mem_of_getElem? (l := tables_1_2) (i := 127) rfl) rfl
set_option maxRecDepth 20000 in
theorem tw_2_128 : Cond.selects RX9 yX9_greatestBirth yX9_greatestBirth ∈ TB := tb_2 (List.mem_of_getElem? (l := tables_1_2) (i := 128) rfl) rfl
set_option maxRecDepth 20000 in
theorem tw_2_129 : Cond.code yX9_greatestBirth cX9_greatestBirth 2 (some .int) ∈ TB := tb_2 (List.mem_of_getElem? (l := tables_1_2) (i := 129) rfl) rfl
set_option maxRecDepth 20000 in
theorem tw_2_130 : Cond.methodLink RX9 91 yX9_greatestOf ∈ TB := tb_2 (List.mem_of_getElem? (l := tables_1_2) (i := 130) rfl) rfl
set_option maxRecDepth 20000 in
theorem tw_2_131 : Cond.instanceMethod yX9_greatestOf ∈ TB := tb_2 (List.mem_of_getElem? (l := tables_1_2) (i := 131) rfl) rfl
set_option maxRecDepth 20000 in
theorem tw_2_132 : Cond.selects RX9 yX9_greatestOf yX9_greatestOf ∈ TB := tb_2 (List.mem_of_getElem? (l := tables_1_2) (i := 132) rfl) rfl
set_option maxRecDepth 20000 in
theorem tw_2_133 : Cond.code yX9_greatestOf cX9_greatestOf 2 (some .int) ∈ TB := tb_2 (List.mem_of_getElem? (l := tables_1_2) (i := 133) rfl) rfl
set_option maxRecDepth 20000 in
theorem tw_2_134 : Cond.methodLink RX10 142 yX9_leastDeath ∈ TB := tb_2 (List.mem_of_getElem? (l := tables_1_2) (i := 134) rfl) rfl
set_option maxRecDepth 20000 in
theorem tw_2_135 : Cond.instanceMethod yX9_leastDeath ∈ TB := tb_2 (List.mem_of_getElem? (l := tables_1_2) (i := 135) rfl) rfl
set_option maxRecDepth 20000 in
theorem tw_2_136 : Cond.selects RX9 yX9_leastDeath yX9_leastDeath ∈ TB := tb_2 (List.mem_of_getElem? (l := tables_1_2) (i := 136) rfl) rfl
set_option maxRecDepth 20000 in
theorem tw_2_137 : Cond.code yX9_leastDeath cX9_leastDeath 2 (some .int) ∈ TB := tb_2 (List.mem_of_getElem? (l := tables_1_2) (i := 137) rfl) rfl
set_option maxRecDepth 20000 in
theorem tw_2_138 : Cond.methodLink RX9 71 yX9_death ∈ TB := tb_2 (List.mem_of_getElem? (l := tables_1_2) (i := 138) rfl) rfl
set_option maxRecDepth 20000 in
theorem tw_2_139 : Cond.static yX9_death ∈ TB := tb_2 (List.mem_of_getElem? (l := tables_1_2) (i := 139) rfl) rfl
set_option maxRecDepth 20000 in
theorem tw_2_140 : Cond.code yX9_death cX9_death 1 (some .int) ∈ TB := tb_2 (List.mem_of_getElem? (l := tables_1_2) (i := 140) rfl) rfl
set_option maxRecDepth 20000 in
theorem tw_2_141 : Cond.methodLink RX10 145 yX9_greatestDeath ∈ TB := tb_2 (List.mem_of_getElem? (l := tables_1_2) (i := 141) rfl) rfl
set_option maxRecDepth 20000 in
theorem tw_2_142 : Cond.instanceMethod yX9_greatestDeath ∈ TB := tb_2 (List.mem_of_getElem? (l := tables_1_2) (i := 142) rfl) rfl
set_option maxRecDepth 20000 in
theorem tw_2_143 : Cond.selects RX9 yX9_greatestDeath yX9_greatestDeath ∈ TB := tb_2 (List.mem_of_getElem? (l := tables_1_2) (i := 143) rfl) rfl
set_option maxRecDepth 20000 in
theorem tw_2_144 : Cond.code yX9_greatestDeath cX9_greatestDeath 2 (some .int) ∈ TB := tb_2 (List.mem_of_getElem? (l := tables_1_2) (i := 144) rfl) rfl
set_option maxRecDepth 20000 in
theorem tw_2_146 : Cond.instanceMethod yX10_quarter ∈ TB := tb_2 (List.mem_of_getElem? (l := tables_1_2) (i := 146) rfl) rfl
set_option maxRecDepth 20000 in
theorem tw_2_147 : Cond.selects RX10 yX10_quarter yX10_quarter ∈ TB := tb_2 (List.mem_of_getElem? (l := tables_1_2) (i := 147) rfl) rfl
set_option maxRecDepth 20000 in
theorem tw_2_148 : Cond.code yX10_quarter cX10_quarter 4 (some .int) ∈ TB := tb_2 (List.mem_of_getElem? (l := tables_1_2) (i := 148) rfl) rfl
set_option maxRecDepth 20000 in
theorem tw_2_149 : Cond.methodLink RX10 148 yX1_armsAt ∈ TB := tb_2 (List.mem_of_getElem? (l := tables_1_2) (i := 149) rfl) rfl
set_option maxRecDepth 20000 in
theorem tw_2_150 : Cond.methodLink RX10 151 yX1_throughAt ∈ TB := tb_2 (List.mem_of_getElem? (l := tables_1_2) (i := 150) rfl) rfl
set_option maxRecDepth 20000 in
theorem tw_2_151 : Cond.instanceMethod yX1_throughAt ∈ TB := tb_2 (List.mem_of_getElem? (l := tables_1_2) (i := 151) rfl) rfl
set_option maxRecDepth 20000 in
theorem tw_2_152 : Cond.selects RX1 yX1_throughAt yX1_throughAt ∈ TB := tb_2 (List.mem_of_getElem? (l := tables_1_2) (i := 152) rfl) rfl
set_option maxRecDepth 20000 in
theorem tw_2_153 : Cond.code yX1_throughAt cX1_throughAt 3 (some .int) ∈ TB := tb_2 (List.mem_of_getElem? (l := tables_1_2) (i := 153) rfl) rfl
set_option maxRecDepth 20000 in
theorem tw_2_155 : Cond.instanceMethod yX10_kin ∈ TB := tb_2 (List.mem_of_getElem? (l := tables_1_2) (i := 155) rfl) rfl
set_option maxRecDepth 20000 in
theorem tw_2_156 : Cond.selects RX10 yX10_kin yX10_kin ∈ TB := tb_2 (List.mem_of_getElem? (l := tables_1_2) (i := 156) rfl) rfl
set_option maxRecDepth 20000 in
theorem tw_2_157 : Cond.code yX10_kin cX10_kin 4 (some .int) ∈ TB := tb_2 (List.mem_of_getElem? (l := tables_1_2) (i := 157) rfl) rfl
set_option maxRecDepth 20000 in
theorem tw_2_158 : Cond.methodLink RX10 154 yX4_seek ∈ TB := tb_2 (List.mem_of_getElem? (l := tables_1_2) (i := 158) rfl) rfl
set_option maxRecDepth 20000 in
theorem tw_2_159 : Cond.instanceMethod yX4_seek ∈ TB := tb_2 (List.mem_of_getElem? (l := tables_1_2) (i := 159) rfl) rfl
set_option maxRecDepth 20000 in
theorem tw_2_160 : Cond.selects RX4 yX4_seek yX4_seek ∈ TB := tb_2 (List.mem_of_getElem? (l := tables_1_2) (i := 160) rfl) rfl
set_option maxRecDepth 20000 in
theorem tw_2_161 : Cond.code yX4_seek cX4_seek 6 none ∈ TB := tb_2 (List.mem_of_getElem? (l := tables_1_2) (i := 161) rfl) rfl
set_option maxRecDepth 20000 in
theorem tw_2_162 : Cond.methodLink RX4 25 yX4_countSteps ∈ TB := tb_2 (List.mem_of_getElem? (l := tables_1_2) (i := 162) rfl) rfl
set_option maxRecDepth 20000 in
theorem tw_2_163 : Cond.static yX4_countSteps ∈ TB := tb_2 (List.mem_of_getElem? (l := tables_1_2) (i := 163) rfl) rfl
set_option maxRecDepth 20000 in
theorem tw_2_164 : Cond.code yX4_countSteps cX4_countSteps 4 none ∈ TB := tb_2 (List.mem_of_getElem? (l := tables_1_2) (i := 164) rfl) rfl
set_option maxRecDepth 20000 in
theorem tw_2_165 : Cond.methodLink RX4 35 Lib.Math.min.name ∈ TB := tb_2 (List.mem_of_getElem? (l := tables_1_2) (i := 165) rfl) rfl
set_option maxRecDepth 20000 in
theorem tw_2_166 : Cond.methodLink RX4 41 yX7_fact ∈ TB := tb_2 (List.mem_of_getElem? (l := tables_1_2) (i := 166) rfl) rfl
set_option maxRecDepth 20000 in
theorem tw_2_167 : Cond.methodLink RX4 44 yX4_handOn ∈ TB := tb_2 (List.mem_of_getElem? (l := tables_1_2) (i := 167) rfl) rfl
set_option maxRecDepth 20000 in
theorem tw_2_168 : Cond.static yX4_handOn ∈ TB := tb_2 (List.mem_of_getElem? (l := tables_1_2) (i := 168) rfl) rfl
set_option maxRecDepth 20000 in
theorem tw_2_169 : Cond.code yX4_handOn cX4_handOn 3 none ∈ TB := tb_2 (List.mem_of_getElem? (l := tables_1_2) (i := 169) rfl) rfl
set_option maxRecDepth 20000 in
theorem tw_2_170 : Cond.methodLink RX4 29 yX7_people ∈ TB := tb_2 (List.mem_of_getElem? (l := tables_1_2) (i := 170) rfl) rfl
set_option maxRecDepth 20000 in
theorem tw_2_172 : Cond.instanceMethod yX10_would ∈ TB := tb_2 (List.mem_of_getElem? (l := tables_1_2) (i := 172) rfl) rfl
set_option maxRecDepth 20000 in
theorem tw_2_173 : Cond.selects RX10 yX10_would yX10_would ∈ TB := tb_2 (List.mem_of_getElem? (l := tables_1_2) (i := 173) rfl) rfl
set_option maxRecDepth 20000 in
theorem tw_2_174 : Cond.code yX10_would cX10_would 3 (some .int) ∈ TB := tb_2 (List.mem_of_getElem? (l := tables_1_2) (i := 174) rfl) rfl
set_option maxRecDepth 20000 in
theorem tw_2_175 : Cond.methodLink RX10 164 yX7_isMan ∈ TB := tb_2 (List.mem_of_getElem? (l := tables_1_2) (i := 175) rfl) rfl
set_option maxRecDepth 20000 in
theorem tw_2_176 : Cond.instanceMethod yX7_isMan ∈ TB := tb_2 (List.mem_of_getElem? (l := tables_1_2) (i := 176) rfl) rfl
set_option maxRecDepth 20000 in
theorem tw_2_177 : Cond.selects RX7 yX7_isMan yX7_isMan ∈ TB := tb_2 (List.mem_of_getElem? (l := tables_1_2) (i := 177) rfl) rfl
set_option maxRecDepth 20000 in
theorem tw_2_178 : Cond.code yX7_isMan cX7_isMan 2 (some .boolean) ∈ TB := tb_2 (List.mem_of_getElem? (l := tables_1_2) (i := 178) rfl) rfl
set_option maxRecDepth 20000 in
theorem tw_2_179 : Cond.methodLink RX10 167 yX7_isWoman ∈ TB := tb_2 (List.mem_of_getElem? (l := tables_1_2) (i := 179) rfl) rfl
set_option maxRecDepth 20000 in
theorem tw_2_180 : Cond.instanceMethod yX7_isWoman ∈ TB := tb_2 (List.mem_of_getElem? (l := tables_1_2) (i := 180) rfl) rfl
set_option maxRecDepth 20000 in
theorem tw_2_181 : Cond.selects RX7 yX7_isWoman yX7_isWoman ∈ TB := tb_2 (List.mem_of_getElem? (l := tables_1_2) (i := 181) rfl) rfl
set_option maxRecDepth 20000 in
theorem tw_2_182 : Cond.code yX7_isWoman cX7_isWoman 2 (some .boolean) ∈ TB := tb_2 (List.mem_of_getElem? (l := tables_1_2) (i := 182) rfl) rfl
set_option maxRecDepth 20000 in
theorem tw_2_183 : Cond.constant RX10 170 (-1000000003) ∈ TB := tb_2 (List.mem_of_getElem? (l := tables_1_2) (i := 183) rfl) rfl
set_option maxRecDepth 20000 in
theorem tw_2_184 : Cond.methodLink RX10 171 yX1_sizeForChild ∈ TB := tb_2 (List.mem_of_getElem? (l := tables_1_2) (i := 184) rfl) rfl
set_option maxRecDepth 20000 in
theorem tw_2_185 : Cond.instanceMethod yX1_sizeForChild ∈ TB := tb_2 (List.mem_of_getElem? (l := tables_1_2) (i := 185) rfl) rfl
set_option maxRecDepth 20000 in
theorem tw_2_186 : Cond.selects RX1 yX1_sizeForChild yX1_sizeForChild ∈ TB := tb_2 (List.mem_of_getElem? (l := tables_1_2) (i := 186) rfl) rfl
set_option maxRecDepth 20000 in
theorem tw_2_187 : Cond.code yX1_sizeForChild cX1_sizeForChild 4 (some .int) ∈ TB := tb_2 (List.mem_of_getElem? (l := tables_1_2) (i := 187) rfl) rfl
set_option maxRecDepth 20000 in
theorem tw_2_188 : Cond.methodLink RX1 41 yX1_compose ∈ TB := tb_2 (List.mem_of_getElem? (l := tables_1_2) (i := 188) rfl) rfl
set_option maxRecDepth 20000 in
theorem tw_2_189 : Cond.instanceMethod yX1_compose ∈ TB := tb_2 (List.mem_of_getElem? (l := tables_1_2) (i := 189) rfl) rfl
set_option maxRecDepth 20000 in
theorem tw_2_190 : Cond.selects RX1 yX1_compose yX1_compose ∈ TB := tb_2 (List.mem_of_getElem? (l := tables_1_2) (i := 190) rfl) rfl
set_option maxRecDepth 20000 in
theorem tw_2_191 : Cond.code yX1_compose cX1_compose 7 none ∈ TB := tb_2 (List.mem_of_getElem? (l := tables_1_2) (i := 191) rfl) rfl
set_option maxRecDepth 20000 in
theorem tw_2_192 : Cond.methodLink RX1 60 yX7_ruleNow ∈ TB := tb_2 (List.mem_of_getElem? (l := tables_1_2) (i := 192) rfl) rfl
set_option maxRecDepth 20000 in
theorem tw_2_193 : Cond.methodLink RX1 37 yX7_fact ∈ TB := tb_2 (List.mem_of_getElem? (l := tables_1_2) (i := 193) rfl) rfl
set_option maxRecDepth 20000 in
theorem tw_2_194 : Cond.methodLink RX1 63 yX1_take ∈ TB := tb_2 (List.mem_of_getElem? (l := tables_1_2) (i := 194) rfl) rfl
set_option maxRecDepth 20000 in
theorem tw_2_195 : Cond.instanceMethod yX1_take ∈ TB := tb_2 (List.mem_of_getElem? (l := tables_1_2) (i := 195) rfl) rfl
set_option maxRecDepth 20000 in
theorem tw_2_196 : Cond.selects RX1 yX1_take yX1_take ∈ TB := tb_2 (List.mem_of_getElem? (l := tables_1_2) (i := 196) rfl) rfl
set_option maxRecDepth 20000 in
theorem tw_2_197 : Cond.code yX1_take cX1_take 7 none ∈ TB := tb_2 (List.mem_of_getElem? (l := tables_1_2) (i := 197) rfl) rfl
set_option maxRecDepth 20000 in
theorem tw_2_198 : Cond.methodLink RX1 70 yX1_throughAt ∈ TB := tb_2 (List.mem_of_getElem? (l := tables_1_2) (i := 198) rfl) rfl
set_option maxRecDepth 20000 in
theorem tw_2_199 : Cond.methodLink RX1 73 yX1_takeFrom ∈ TB := tb_2 (List.mem_of_getElem? (l := tables_1_2) (i := 199) rfl) rfl
set_option maxRecDepth 20000 in
theorem tw_2_200 : Cond.instanceMethod yX1_takeFrom ∈ TB := tb_2 (List.mem_of_getElem? (l := tables_1_2) (i := 200) rfl) rfl
set_option maxRecDepth 20000 in
theorem tw_2_201 : Cond.selects RX1 yX1_takeFrom yX1_takeFrom ∈ TB := tb_2 (List.mem_of_getElem? (l := tables_1_2) (i := 201) rfl) rfl
set_option maxRecDepth 20000 in
theorem tw_2_202 : Cond.code yX1_takeFrom cX1_takeFrom 5 none ∈ TB := tb_2 (List.mem_of_getElem? (l := tables_1_2) (i := 202) rfl) rfl
set_option maxRecDepth 20000 in
theorem tw_2_204 : Cond.instanceMethod yX10_dated ∈ TB := tb_2 (List.mem_of_getElem? (l := tables_1_2) (i := 204) rfl) rfl
set_option maxRecDepth 20000 in
theorem tw_2_205 : Cond.selects RX10 yX10_dated yX10_dated ∈ TB := tb_2 (List.mem_of_getElem? (l := tables_1_2) (i := 205) rfl) rfl
set_option maxRecDepth 20000 in
theorem tw_2_206 : Cond.code yX10_dated cX10_dated 3 (some .int) ∈ TB := tb_2 (List.mem_of_getElem? (l := tables_1_2) (i := 206) rfl) rfl
set_option maxRecDepth 20000 in
theorem tw_2_207 : Cond.methodLink RX10 175 yX10_areYears ∈ TB := tb_2 (List.mem_of_getElem? (l := tables_1_2) (i := 207) rfl) rfl
set_option maxRecDepth 20000 in
theorem tw_2_208 : Cond.static yX10_areYears ∈ TB := tb_2 (List.mem_of_getElem? (l := tables_1_2) (i := 208) rfl) rfl
set_option maxRecDepth 20000 in
theorem tw_2_209 : Cond.code yX10_areYears cX10_areYears 2 (some .boolean) ∈ TB := tb_2 (List.mem_of_getElem? (l := tables_1_2) (i := 209) rfl) rfl
set_option maxRecDepth 20000 in
theorem tw_2_210 : Cond.methodLink RX10 179 yX9_diedBetween ∈ TB := tb_2 (List.mem_of_getElem? (l := tables_1_2) (i := 210) rfl) rfl
set_option maxRecDepth 20000 in
theorem tw_2_211 : Cond.instanceMethod yX9_diedBetween ∈ TB := tb_2 (List.mem_of_getElem? (l := tables_1_2) (i := 211) rfl) rfl
set_option maxRecDepth 20000 in
theorem tw_2_212 : Cond.selects RX9 yX9_diedBetween yX9_diedBetween ∈ TB := tb_2 (List.mem_of_getElem? (l := tables_1_2) (i := 212) rfl) rfl
set_option maxRecDepth 20000 in
theorem tw_2_213 : Cond.code yX9_diedBetween cX9_diedBetween 6 (some .int) ∈ TB := tb_2 (List.mem_of_getElem? (l := tables_1_2) (i := 213) rfl) rfl
set_option maxRecDepth 20000 in
theorem tw_2_214 : Cond.methodLink RX9 94 yX9_leastDeath ∈ TB := tb_2 (List.mem_of_getElem? (l := tables_1_2) (i := 214) rfl) rfl
set_option maxRecDepth 20000 in
theorem tw_2_215 : Cond.methodLink RX9 97 yX9_greatestDeath ∈ TB := tb_2 (List.mem_of_getElem? (l := tables_1_2) (i := 215) rfl) rfl
set_option maxRecDepth 20000 in
theorem tw_2_217 : Cond.instanceMethod yX10_signAt ∈ TB := tb_2 (List.mem_of_getElem? (l := tables_1_2) (i := 217) rfl) rfl
set_option maxRecDepth 20000 in
theorem tw_2_218 : Cond.selects RX10 yX10_signAt yX10_signAt ∈ TB := tb_2 (List.mem_of_getElem? (l := tables_1_2) (i := 218) rfl) rfl
set_option maxRecDepth 20000 in
theorem tw_2_219 : Cond.code yX10_signAt cX10_signAt 2 (some .int) ∈ TB := tb_2 (List.mem_of_getElem? (l := tables_1_2) (i := 219) rfl) rfl
set_option maxRecDepth 20000 in
theorem tw_2_220 : Cond.methodLink RX10 183 yX7_signNumber ∈ TB := tb_2 (List.mem_of_getElem? (l := tables_1_2) (i := 220) rfl) rfl
set_option maxRecDepth 20000 in
theorem tw_2_222 : Cond.instanceMethod yX10_put ∈ TB := tb_2 (List.mem_of_getElem? (l := tables_1_2) (i := 222) rfl) rfl
set_option maxRecDepth 20000 in
theorem tw_2_223 : Cond.selects RX10 yX10_put yX10_put ∈ TB := tb_2 (List.mem_of_getElem? (l := tables_1_2) (i := 223) rfl) rfl
set_option maxRecDepth 20000 in
theorem tw_2_224 : Cond.code yX10_put cX10_put 5 (some .int) ∈ TB := tb_2 (List.mem_of_getElem? (l := tables_1_2) (i := 224) rfl) rfl
set_option maxRecDepth 20000 in
theorem tw_2_225 : Cond.methodLink RX10 186 yX7_hasOrNone ∈ TB := tb_2 (List.mem_of_getElem? (l := tables_1_2) (i := 225) rfl) rfl
set_option maxRecDepth 20000 in
theorem tw_2_226 : Cond.instanceMethod yX7_hasOrNone ∈ TB := tb_2 (List.mem_of_getElem? (l := tables_1_2) (i := 226) rfl) rfl
set_option maxRecDepth 20000 in
theorem tw_2_227 : Cond.selects RX7 yX7_hasOrNone yX7_hasOrNone ∈ TB := tb_2 (List.mem_of_getElem? (l := tables_1_2) (i := 227) rfl) rfl
set_option maxRecDepth 20000 in
theorem tw_2_228 : Cond.code yX7_hasOrNone cX7_hasOrNone 2 (some .boolean) ∈ TB := tb_2 (List.mem_of_getElem? (l := tables_1_2) (i := 228) rfl) rfl
set_option maxRecDepth 20000 in
theorem tw_2_229 : Cond.methodLink RX10 189 yX10_isArms ∈ TB := tb_2 (List.mem_of_getElem? (l := tables_1_2) (i := 229) rfl) rfl
set_option maxRecDepth 20000 in
theorem tw_2_230 : Cond.static yX10_isArms ∈ TB := tb_2 (List.mem_of_getElem? (l := tables_1_2) (i := 230) rfl) rfl
set_option maxRecDepth 20000 in
theorem tw_2_231 : Cond.code yX10_isArms cX10_isArms 1 (some .boolean) ∈ TB := tb_2 (List.mem_of_getElem? (l := tables_1_2) (i := 231) rfl) rfl
set_option maxRecDepth 20000 in
theorem tw_2_232 : Cond.methodLink RX10 192 yX7_hasRoom ∈ TB := tb_2 (List.mem_of_getElem? (l := tables_1_2) (i := 232) rfl) rfl
set_option maxRecDepth 20000 in
theorem tw_2_233 : Cond.instanceMethod yX7_hasRoom ∈ TB := tb_2 (List.mem_of_getElem? (l := tables_1_2) (i := 233) rfl) rfl
set_option maxRecDepth 20000 in
theorem tw_2_234 : Cond.selects RX7 yX7_hasRoom yX7_hasRoom ∈ TB := tb_2 (List.mem_of_getElem? (l := tables_1_2) (i := 234) rfl) rfl
set_option maxRecDepth 20000 in
theorem tw_2_235 : Cond.code yX7_hasRoom cX7_hasRoom 1 (some .boolean) ∈ TB := tb_2 (List.mem_of_getElem? (l := tables_1_2) (i := 235) rfl) rfl
set_option maxRecDepth 20000 in
theorem tw_2_236 : Cond.constant RX10 196 (-1000000004) ∈ TB := tb_2 (List.mem_of_getElem? (l := tables_1_2) (i := 236) rfl) rfl
set_option maxRecDepth 20000 in
theorem tw_2_237 : Cond.methodLink RX10 197 yX5_remember ∈ TB := tb_2 (List.mem_of_getElem? (l := tables_1_2) (i := 237) rfl) rfl
set_option maxRecDepth 20000 in
theorem tw_2_238 : Cond.instanceMethod yX5_remember ∈ TB := tb_2 (List.mem_of_getElem? (l := tables_1_2) (i := 238) rfl) rfl
set_option maxRecDepth 20000 in
theorem tw_2_239 : Cond.selects RX5 yX5_remember yX5_remember ∈ TB := tb_2 (List.mem_of_getElem? (l := tables_1_2) (i := 239) rfl) rfl
set_option maxRecDepth 20000 in
theorem tw_3_0 : Cond.code yX5_remember cX5_remember 2 none ∈ TB := tb_3 (List.mem_of_getElem? (l := tables_1_3) (i := 0) rfl) rfl
set_option maxRecDepth 20000 in
theorem tw_3_1 : Cond.methodLink RX5 24 yX6_lay ∈ TB := tb_3 (List.mem_of_getElem? (l := tables_1_3) (i := 1) rfl) rfl
set_option maxRecDepth 20000 in
theorem tw_3_2 : Cond.instanceMethod yX6_lay ∈ TB := tb_3 (List.mem_of_getElem? (l := tables_1_3) (i := 2) rfl) rfl
set_option maxRecDepth 20000 in
theorem tw_3_3 : Cond.selects RX6 yX6_lay yX6_lay ∈ TB := tb_3 (List.mem_of_getElem? (l := tables_1_3) (i := 3) rfl) rfl
set_option maxRecDepth 20000 in
theorem tw_3_4 : Cond.code yX6_lay cX6_lay 3 none ∈ TB := tb_3 (List.mem_of_getElem? (l := tables_1_3) (i := 4) rfl) rfl
set_option maxRecDepth 20000 in
theorem tw_3_5 : Cond.methodLink RX6 28 arraycopyName ∈ TB := tb_3 (List.mem_of_getElem? (l := tables_1_3) (i := 5) rfl) rfl
set_option maxRecDepth 20000 in
theorem tw_3_6 : Cond.static arraycopyName ∈ TB := tb_3 (List.mem_of_getElem? (l := tables_1_3) (i := 6) rfl) rfl
set_option maxRecDepth 20000 in
theorem tw_3_7 : Cond.native arraycopyName ∈ TB := tb_3 (List.mem_of_getElem? (l := tables_1_3) (i := 7) rfl) rfl
set_option maxRecDepth 20000 in
theorem tw_3_8 : Cond.methodLink RX5 31 Lib.Math.min.name ∈ TB := tb_3 (List.mem_of_getElem? (l := tables_1_3) (i := 8) rfl) rfl
set_option maxRecDepth 20000 in
theorem tw_3_9 : Cond.methodLink RX10 201 yX7_addPerson ∈ TB := tb_3 (List.mem_of_getElem? (l := tables_1_3) (i := 9) rfl) rfl
set_option maxRecDepth 20000 in
theorem tw_3_10 : Cond.instanceMethod yX7_addPerson ∈ TB := tb_3 (List.mem_of_getElem? (l := tables_1_3) (i := 10) rfl) rfl
set_option maxRecDepth 20000 in
theorem tw_3_11 : Cond.selects RX7 yX7_addPerson yX7_addPerson ∈ TB := tb_3 (List.mem_of_getElem? (l := tables_1_3) (i := 11) rfl) rfl
set_option maxRecDepth 20000 in
theorem tw_3_12 : Cond.code yX7_addPerson cX7_addPerson 6 none ∈ TB := tb_3 (List.mem_of_getElem? (l := tables_1_3) (i := 12) rfl) rfl
set_option maxRecDepth 20000 in
theorem tw_3_13 : Cond.methodLink RX7 27 yX7_hasRoom ∈ TB := tb_3 (List.mem_of_getElem? (l := tables_1_3) (i := 13) rfl) rfl
set_option maxRecDepth 20000 in
theorem tw_3_14 : Cond.methodLink RX10 205 yX10_reckonAll ∈ TB := tb_3 (List.mem_of_getElem? (l := tables_1_3) (i := 14) rfl) rfl
set_option maxRecDepth 20000 in
theorem tw_3_16 : Cond.instanceMethod yX10_reckonAll ∈ TB := tb_3 (List.mem_of_getElem? (l := tables_1_3) (i := 16) rfl) rfl
set_option maxRecDepth 20000 in
theorem tw_3_17 : Cond.code yX10_reckonAll cX10_reckonAll 1 none ∈ TB := tb_3 (List.mem_of_getElem? (l := tables_1_3) (i := 17) rfl) rfl
set_option maxRecDepth 20000 in
theorem tw_3_18 : Cond.methodLink RX10 216 yX1_reckon ∈ TB := tb_3 (List.mem_of_getElem? (l := tables_1_3) (i := 18) rfl) rfl
set_option maxRecDepth 20000 in
theorem tw_3_19 : Cond.instanceMethod yX1_reckon ∈ TB := tb_3 (List.mem_of_getElem? (l := tables_1_3) (i := 19) rfl) rfl
set_option maxRecDepth 20000 in
theorem tw_3_20 : Cond.selects RX1 yX1_reckon yX1_reckon ∈ TB := tb_3 (List.mem_of_getElem? (l := tables_1_3) (i := 20) rfl) rfl
set_option maxRecDepth 20000 in
theorem tw_3_21 : Cond.code yX1_reckon cX1_reckon 3 none ∈ TB := tb_3 (List.mem_of_getElem? (l := tables_1_3) (i := 21) rfl) rfl
set_option maxRecDepth 20000 in
theorem tw_3_22 : Cond.methodLink RX1 21 yX7_people ∈ TB := tb_3 (List.mem_of_getElem? (l := tables_1_3) (i := 22) rfl) rfl
set_option maxRecDepth 20000 in
theorem tw_3_23 : Cond.methodLink RX1 30 yX1_heirsOf ∈ TB := tb_3 (List.mem_of_getElem? (l := tables_1_3) (i := 23) rfl) rfl
set_option maxRecDepth 20000 in
theorem tw_3_24 : Cond.static yX1_heirsOf ∈ TB := tb_3 (List.mem_of_getElem? (l := tables_1_3) (i := 24) rfl) rfl
set_option maxRecDepth 20000 in
theorem tw_3_25 : Cond.code yX1_heirsOf cX1_heirsOf 5 (some .int) ∈ TB := tb_3 (List.mem_of_getElem? (l := tables_1_3) (i := 25) rfl) rfl
set_option maxRecDepth 20000 in
theorem tw_3_26 : Cond.methodLink RX1 45 yX7_isMan ∈ TB := tb_3 (List.mem_of_getElem? (l := tables_1_3) (i := 26) rfl) rfl
set_option maxRecDepth 20000 in
theorem tw_3_27 : Cond.methodLink RX1 49 yX7_isWoman ∈ TB := tb_3 (List.mem_of_getElem? (l := tables_1_3) (i := 27) rfl) rfl
set_option maxRecDepth 20000 in
theorem tw_3_28 : Cond.methodLink RX10 252 yX9_reckon ∈ TB := tb_3 (List.mem_of_getElem? (l := tables_1_3) (i := 28) rfl) rfl
set_option maxRecDepth 20000 in
theorem tw_3_29 : Cond.instanceMethod yX9_reckon ∈ TB := tb_3 (List.mem_of_getElem? (l := tables_1_3) (i := 29) rfl) rfl
set_option maxRecDepth 20000 in
theorem tw_3_30 : Cond.selects RX9 yX9_reckon yX9_reckon ∈ TB := tb_3 (List.mem_of_getElem? (l := tables_1_3) (i := 30) rfl) rfl
set_option maxRecDepth 20000 in
theorem tw_3_31 : Cond.code yX9_reckon cX9_reckon 2 none ∈ TB := tb_3 (List.mem_of_getElem? (l := tables_1_3) (i := 31) rfl) rfl
set_option maxRecDepth 20000 in
theorem tw_3_32 : Cond.methodLink RX9 27 yX7_people ∈ TB := tb_3 (List.mem_of_getElem? (l := tables_1_3) (i := 32) rfl) rfl
set_option maxRecDepth 20000 in
theorem tw_3_33 : Cond.methodLink RX9 33 Lib.Math.min.name ∈ TB := tb_3 (List.mem_of_getElem? (l := tables_1_3) (i := 33) rfl) rfl
set_option maxRecDepth 20000 in
theorem tw_3_34 : Cond.methodLink RX9 43 yX9_layBounds ∈ TB := tb_3 (List.mem_of_getElem? (l := tables_1_3) (i := 34) rfl) rfl
set_option maxRecDepth 20000 in
theorem tw_3_35 : Cond.instanceMethod yX9_layBounds ∈ TB := tb_3 (List.mem_of_getElem? (l := tables_1_3) (i := 35) rfl) rfl
set_option maxRecDepth 20000 in
theorem tw_3_36 : Cond.selects RX9 yX9_layBounds yX9_layBounds ∈ TB := tb_3 (List.mem_of_getElem? (l := tables_1_3) (i := 36) rfl) rfl
set_option maxRecDepth 20000 in
theorem tw_3_37 : Cond.code yX9_layBounds cX9_layBounds 3 none ∈ TB := tb_3 (List.mem_of_getElem? (l := tables_1_3) (i := 37) rfl) rfl
set_option maxRecDepth 20000 in
theorem tw_3_38 : Cond.methodLink RX9 68 yX7_fact ∈ TB := tb_3 (List.mem_of_getElem? (l := tables_1_3) (i := 38) rfl) rfl
set_option maxRecDepth 20000 in
theorem tw_3_39 : Cond.methodLink RX9 47 yX9_layGaps ∈ TB := tb_3 (List.mem_of_getElem? (l := tables_1_3) (i := 39) rfl) rfl
set_option maxRecDepth 20000 in
theorem tw_3_40 : Cond.instanceMethod yX9_layGaps ∈ TB := tb_3 (List.mem_of_getElem? (l := tables_1_3) (i := 40) rfl) rfl
set_option maxRecDepth 20000 in
theorem tw_3_41 : Cond.selects RX9 yX9_layGaps yX9_layGaps ∈ TB := tb_3 (List.mem_of_getElem? (l := tables_1_3) (i := 41) rfl) rfl
set_option maxRecDepth 20000 in
theorem tw_3_42 : Cond.code yX9_layGaps cX9_layGaps 5 none ∈ TB := tb_3 (List.mem_of_getElem? (l := tables_1_3) (i := 42) rfl) rfl
set_option maxRecDepth 20000 in
theorem tw_3_43 : Cond.methodLink RX9 77 yX9_addGap ∈ TB := tb_3 (List.mem_of_getElem? (l := tables_1_3) (i := 43) rfl) rfl
set_option maxRecDepth 20000 in
theorem tw_3_44 : Cond.instanceMethod yX9_addGap ∈ TB := tb_3 (List.mem_of_getElem? (l := tables_1_3) (i := 44) rfl) rfl
set_option maxRecDepth 20000 in
theorem tw_3_45 : Cond.selects RX9 yX9_addGap yX9_addGap ∈ TB := tb_3 (List.mem_of_getElem? (l := tables_1_3) (i := 45) rfl) rfl
set_option maxRecDepth 20000 in
theorem tw_3_46 : Cond.code yX9_addGap cX9_addGap 4 none ∈ TB := tb_3 (List.mem_of_getElem? (l := tables_1_3) (i := 46) rfl) rfl
set_option maxRecDepth 20000 in
theorem tw_3_47 : Cond.methodLink RX9 50 yX9_raiseLeast ∈ TB := tb_3 (List.mem_of_getElem? (l := tables_1_3) (i := 47) rfl) rfl
set_option maxRecDepth 20000 in
theorem tw_3_48 : Cond.instanceMethod yX9_raiseLeast ∈ TB := tb_3 (List.mem_of_getElem? (l := tables_1_3) (i := 48) rfl) rfl
set_option maxRecDepth 20000 in
theorem tw_3_49 : Cond.selects RX9 yX9_raiseLeast yX9_raiseLeast ∈ TB := tb_3 (List.mem_of_getElem? (l := tables_1_3) (i := 49) rfl) rfl
set_option maxRecDepth 20000 in
theorem tw_3_50 : Cond.code yX9_raiseLeast cX9_raiseLeast 5 (some .boolean) ∈ TB := tb_3 (List.mem_of_getElem? (l := tables_1_3) (i := 50) rfl) rfl
set_option maxRecDepth 20000 in
theorem tw_3_51 : Cond.methodLink RX9 54 yX9_isCrossed ∈ TB := tb_3 (List.mem_of_getElem? (l := tables_1_3) (i := 51) rfl) rfl
set_option maxRecDepth 20000 in
theorem tw_3_52 : Cond.instanceMethod yX9_isCrossed ∈ TB := tb_3 (List.mem_of_getElem? (l := tables_1_3) (i := 52) rfl) rfl
set_option maxRecDepth 20000 in
theorem tw_3_53 : Cond.selects RX9 yX9_isCrossed yX9_isCrossed ∈ TB := tb_3 (List.mem_of_getElem? (l := tables_1_3) (i := 53) rfl) rfl
set_option maxRecDepth 20000 in
theorem tw_3_54 : Cond.code yX9_isCrossed cX9_isCrossed 2 (some .boolean) ∈ TB := tb_3 (List.mem_of_getElem? (l := tables_1_3) (i := 54) rfl) rfl
set_option maxRecDepth 20000 in
theorem tw_3_55 : Cond.methodLink RX9 61 yX9_lowerGreatest ∈ TB := tb_3 (List.mem_of_getElem? (l := tables_1_3) (i := 55) rfl) rfl
set_option maxRecDepth 20000 in
theorem tw_3_56 : Cond.instanceMethod yX9_lowerGreatest ∈ TB := tb_3 (List.mem_of_getElem? (l := tables_1_3) (i := 56) rfl) rfl
set_option maxRecDepth 20000 in
theorem tw_3_57 : Cond.selects RX9 yX9_lowerGreatest yX9_lowerGreatest ∈ TB := tb_3 (List.mem_of_getElem? (l := tables_1_3) (i := 57) rfl) rfl
set_option maxRecDepth 20000 in
theorem tw_3_58 : Cond.code yX9_lowerGreatest cX9_lowerGreatest 5 none ∈ TB := tb_3 (List.mem_of_getElem? (l := tables_1_3) (i := 58) rfl) rfl
set_option maxRecDepth 20000 in
theorem tw_3_60 : Cond.instanceMethod yX10_born ∈ TB := tb_3 (List.mem_of_getElem? (l := tables_1_3) (i := 60) rfl) rfl
set_option maxRecDepth 20000 in
theorem tw_3_61 : Cond.selects RX10 yX10_born yX10_born ∈ TB := tb_3 (List.mem_of_getElem? (l := tables_1_3) (i := 61) rfl) rfl
set_option maxRecDepth 20000 in
theorem tw_3_62 : Cond.code yX10_born cX10_born 4 (some .int) ∈ TB := tb_3 (List.mem_of_getElem? (l := tables_1_3) (i := 62) rfl) rfl
set_option maxRecDepth 20000 in
theorem tw_3_63 : Cond.methodLink RX10 208 yX10_boundYears ∈ TB := tb_3 (List.mem_of_getElem? (l := tables_1_3) (i := 63) rfl) rfl
set_option maxRecDepth 20000 in
theorem tw_3_65 : Cond.instanceMethod yX10_boundYears ∈ TB := tb_3 (List.mem_of_getElem? (l := tables_1_3) (i := 65) rfl) rfl
set_option maxRecDepth 20000 in
theorem tw_3_66 : Cond.code yX10_boundYears cX10_boundYears 5 (some .int) ∈ TB := tb_3 (List.mem_of_getElem? (l := tables_1_3) (i := 66) rfl) rfl
set_option maxRecDepth 20000 in
theorem tw_3_67 : Cond.methodLink RX10 249 yX7_setBounds ∈ TB := tb_3 (List.mem_of_getElem? (l := tables_1_3) (i := 67) rfl) rfl
set_option maxRecDepth 20000 in
theorem tw_3_68 : Cond.instanceMethod yX7_setBounds ∈ TB := tb_3 (List.mem_of_getElem? (l := tables_1_3) (i := 68) rfl) rfl
set_option maxRecDepth 20000 in
theorem tw_3_69 : Cond.selects RX7 yX7_setBounds yX7_setBounds ∈ TB := tb_3 (List.mem_of_getElem? (l := tables_1_3) (i := 69) rfl) rfl
set_option maxRecDepth 20000 in
theorem tw_3_70 : Cond.code yX7_setBounds cX7_setBounds 6 none ∈ TB := tb_3 (List.mem_of_getElem? (l := tables_1_3) (i := 70) rfl) rfl
set_option maxRecDepth 20000 in
theorem tw_3_72 : Cond.instanceMethod yX10_died ∈ TB := tb_3 (List.mem_of_getElem? (l := tables_1_3) (i := 72) rfl) rfl
set_option maxRecDepth 20000 in
theorem tw_3_73 : Cond.selects RX10 yX10_died yX10_died ∈ TB := tb_3 (List.mem_of_getElem? (l := tables_1_3) (i := 73) rfl) rfl
set_option maxRecDepth 20000 in
theorem tw_3_74 : Cond.code yX10_died cX10_died 4 (some .int) ∈ TB := tb_3 (List.mem_of_getElem? (l := tables_1_3) (i := 74) rfl) rfl
set_option maxRecDepth 20000 in
theorem tw_3_76 : Cond.instanceMethod yX10_rule ∈ TB := tb_3 (List.mem_of_getElem? (l := tables_1_3) (i := 76) rfl) rfl
set_option maxRecDepth 20000 in
theorem tw_3_77 : Cond.selects RX10 yX10_rule yX10_rule ∈ TB := tb_3 (List.mem_of_getElem? (l := tables_1_3) (i := 77) rfl) rfl
set_option maxRecDepth 20000 in
theorem tw_3_78 : Cond.code yX10_rule cX10_rule 2 (some .int) ∈ TB := tb_3 (List.mem_of_getElem? (l := tables_1_3) (i := 78) rfl) rfl
set_option maxRecDepth 20000 in
theorem tw_3_79 : Cond.methodLink RX10 212 yX7_setRule ∈ TB := tb_3 (List.mem_of_getElem? (l := tables_1_3) (i := 79) rfl) rfl
set_option maxRecDepth 20000 in
theorem tw_3_80 : Cond.instanceMethod yX7_setRule ∈ TB := tb_3 (List.mem_of_getElem? (l := tables_1_3) (i := 80) rfl) rfl
set_option maxRecDepth 20000 in
theorem tw_3_81 : Cond.selects RX7 yX7_setRule yX7_setRule ∈ TB := tb_3 (List.mem_of_getElem? (l := tables_1_3) (i := 81) rfl) rfl
set_option maxRecDepth 20000 in
theorem tw_3_82 : Cond.code yX7_setRule cX7_setRule 2 none ∈ TB := tb_3 (List.mem_of_getElem? (l := tables_1_3) (i := 82) rfl) rfl
set_option maxRecDepth 20000 in
theorem tw_3_84 : Cond.instanceMethod yX10_sign ∈ TB := tb_3 (List.mem_of_getElem? (l := tables_1_3) (i := 84) rfl) rfl
set_option maxRecDepth 20000 in
theorem tw_3_85 : Cond.selects RX10 yX10_sign yX10_sign ∈ TB := tb_3 (List.mem_of_getElem? (l := tables_1_3) (i := 85) rfl) rfl
set_option maxRecDepth 20000 in
theorem tw_3_86 : Cond.code yX10_sign cX10_sign 2 (some .int) ∈ TB := tb_3 (List.mem_of_getElem? (l := tables_1_3) (i := 86) rfl) rfl
set_option maxRecDepth 20000 in
theorem tw_3_87 : Cond.methodLink RX10 219 yX7_addSign ∈ TB := tb_3 (List.mem_of_getElem? (l := tables_1_3) (i := 87) rfl) rfl
set_option maxRecDepth 20000 in
theorem tw_3_88 : Cond.instanceMethod yX7_addSign ∈ TB := tb_3 (List.mem_of_getElem? (l := tables_1_3) (i := 88) rfl) rfl
set_option maxRecDepth 20000 in
theorem tw_3_89 : Cond.selects RX7 yX7_addSign yX7_addSign ∈ TB := tb_3 (List.mem_of_getElem? (l := tables_1_3) (i := 89) rfl) rfl
set_option maxRecDepth 20000 in
theorem tw_3_90 : Cond.code yX7_addSign cX7_addSign 2 none ∈ TB := tb_3 (List.mem_of_getElem? (l := tables_1_3) (i := 90) rfl) rfl
set_option maxRecDepth 20000 in
theorem tw_3_92 : Cond.instanceMethod yX10_wipe ∈ TB := tb_3 (List.mem_of_getElem? (l := tables_1_3) (i := 92) rfl) rfl
set_option maxRecDepth 20000 in
theorem tw_3_93 : Cond.selects RX10 yX10_wipe yX10_wipe ∈ TB := tb_3 (List.mem_of_getElem? (l := tables_1_3) (i := 93) rfl) rfl
set_option maxRecDepth 20000 in
theorem tw_3_94 : Cond.code yX10_wipe cX10_wipe 2 (some .int) ∈ TB := tb_3 (List.mem_of_getElem? (l := tables_1_3) (i := 94) rfl) rfl
set_option maxRecDepth 20000 in
theorem tw_3_95 : Cond.methodLink RX10 222 yX7_clearSigns ∈ TB := tb_3 (List.mem_of_getElem? (l := tables_1_3) (i := 95) rfl) rfl
set_option maxRecDepth 20000 in
theorem tw_3_96 : Cond.instanceMethod yX7_clearSigns ∈ TB := tb_3 (List.mem_of_getElem? (l := tables_1_3) (i := 96) rfl) rfl
set_option maxRecDepth 20000 in
theorem tw_3_97 : Cond.selects RX7 yX7_clearSigns yX7_clearSigns ∈ TB := tb_3 (List.mem_of_getElem? (l := tables_1_3) (i := 97) rfl) rfl
set_option maxRecDepth 20000 in
theorem tw_3_98 : Cond.code yX7_clearSigns cX7_clearSigns 1 none ∈ TB := tb_3 (List.mem_of_getElem? (l := tables_1_3) (i := 98) rfl) rfl
set_option maxRecDepth 20000 in
theorem tw_3_100 : Cond.instanceMethod yX10_drift ∈ TB := tb_3 (List.mem_of_getElem? (l := tables_1_3) (i := 100) rfl) rfl
set_option maxRecDepth 20000 in
theorem tw_3_101 : Cond.selects RX10 yX10_drift yX10_drift ∈ TB := tb_3 (List.mem_of_getElem? (l := tables_1_3) (i := 101) rfl) rfl
set_option maxRecDepth 20000 in
theorem tw_3_102 : Cond.code yX10_drift cX10_drift 3 (some .int) ∈ TB := tb_3 (List.mem_of_getElem? (l := tables_1_3) (i := 102) rfl) rfl
set_option maxRecDepth 20000 in
theorem tw_3_103 : Cond.methodLink RX10 225 yX2_addOne ∈ TB := tb_3 (List.mem_of_getElem? (l := tables_1_3) (i := 103) rfl) rfl
set_option maxRecDepth 20000 in
theorem tw_3_104 : Cond.instanceMethod yX2_addOne ∈ TB := tb_3 (List.mem_of_getElem? (l := tables_1_3) (i := 104) rfl) rfl
set_option maxRecDepth 20000 in
theorem tw_3_105 : Cond.selects RX2 yX2_addOne yX2_addOne ∈ TB := tb_3 (List.mem_of_getElem? (l := tables_1_3) (i := 105) rfl) rfl
set_option maxRecDepth 20000 in
theorem tw_3_106 : Cond.code yX2_addOne cX2_addOne 6 none ∈ TB := tb_3 (List.mem_of_getElem? (l := tables_1_3) (i := 106) rfl) rfl
set_option maxRecDepth 20000 in
theorem tw_3_107 : Cond.methodLink RX2 18 yX2_draw ∈ TB := tb_3 (List.mem_of_getElem? (l := tables_1_3) (i := 107) rfl) rfl
set_option maxRecDepth 20000 in
theorem tw_3_108 : Cond.instanceMethod yX2_draw ∈ TB := tb_3 (List.mem_of_getElem? (l := tables_1_3) (i := 108) rfl) rfl
set_option maxRecDepth 20000 in
theorem tw_3_109 : Cond.selects RX2 yX2_draw yX2_draw ∈ TB := tb_3 (List.mem_of_getElem? (l := tables_1_3) (i := 109) rfl) rfl
set_option maxRecDepth 20000 in
theorem tw_3_110 : Cond.code yX2_draw cX2_draw 2 (some .int) ∈ TB := tb_3 (List.mem_of_getElem? (l := tables_1_3) (i := 110) rfl) rfl
set_option maxRecDepth 20000 in
theorem tw_3_111 : Cond.constant RX2 15 (1103515245) ∈ TB := tb_3 (List.mem_of_getElem? (l := tables_1_3) (i := 111) rfl) rfl
set_option maxRecDepth 20000 in
theorem tw_3_112 : Cond.constant RX2 16 (2147483647) ∈ TB := tb_3 (List.mem_of_getElem? (l := tables_1_3) (i := 112) rfl) rfl
set_option maxRecDepth 20000 in
theorem tw_3_113 : Cond.constant RX2 17 (65536) ∈ TB := tb_3 (List.mem_of_getElem? (l := tables_1_3) (i := 113) rfl) rfl
set_option maxRecDepth 20000 in
theorem tw_3_114 : Cond.methodLink RX2 22 yX7_people ∈ TB := tb_3 (List.mem_of_getElem? (l := tables_1_3) (i := 114) rfl) rfl
set_option maxRecDepth 20000 in
theorem tw_3_115 : Cond.methodLink RX2 28 yX7_isMan ∈ TB := tb_3 (List.mem_of_getElem? (l := tables_1_3) (i := 115) rfl) rfl
set_option maxRecDepth 20000 in
theorem tw_3_116 : Cond.methodLink RX2 32 yX7_isWoman ∈ TB := tb_3 (List.mem_of_getElem? (l := tables_1_3) (i := 116) rfl) rfl
set_option maxRecDepth 20000 in
theorem tw_3_117 : Cond.methodLink RX2 35 yX7_addPerson ∈ TB := tb_3 (List.mem_of_getElem? (l := tables_1_3) (i := 117) rfl) rfl
set_option maxRecDepth 20000 in
theorem tw_3_119 : Cond.instanceMethod yX10_undo ∈ TB := tb_3 (List.mem_of_getElem? (l := tables_1_3) (i := 119) rfl) rfl
set_option maxRecDepth 20000 in
theorem tw_3_120 : Cond.selects RX10 yX10_undo yX10_undo ∈ TB := tb_3 (List.mem_of_getElem? (l := tables_1_3) (i := 120) rfl) rfl
set_option maxRecDepth 20000 in
theorem tw_3_121 : Cond.code yX10_undo cX10_undo 2 (some .int) ∈ TB := tb_3 (List.mem_of_getElem? (l := tables_1_3) (i := 121) rfl) rfl
set_option maxRecDepth 20000 in
theorem tw_3_122 : Cond.methodLink RX10 228 yX5_stepBack ∈ TB := tb_3 (List.mem_of_getElem? (l := tables_1_3) (i := 122) rfl) rfl
set_option maxRecDepth 20000 in
theorem tw_3_123 : Cond.instanceMethod yX5_stepBack ∈ TB := tb_3 (List.mem_of_getElem? (l := tables_1_3) (i := 123) rfl) rfl
set_option maxRecDepth 20000 in
theorem tw_3_124 : Cond.selects RX5 yX5_stepBack yX5_stepBack ∈ TB := tb_3 (List.mem_of_getElem? (l := tables_1_3) (i := 124) rfl) rfl
set_option maxRecDepth 20000 in
theorem tw_3_125 : Cond.code yX5_stepBack cX5_stepBack 3 none ∈ TB := tb_3 (List.mem_of_getElem? (l := tables_1_3) (i := 125) rfl) rfl
set_option maxRecDepth 20000 in
theorem tw_3_126 : Cond.methodLink RX5 37 yX6_fetch ∈ TB := tb_3 (List.mem_of_getElem? (l := tables_1_3) (i := 126) rfl) rfl
set_option maxRecDepth 20000 in
theorem tw_3_127 : Cond.instanceMethod yX6_fetch ∈ TB := tb_3 (List.mem_of_getElem? (l := tables_1_3) (i := 127) rfl) rfl
set_option maxRecDepth 20000 in
theorem tw_3_128 : Cond.selects RX6 yX6_fetch yX6_fetch ∈ TB := tb_3 (List.mem_of_getElem? (l := tables_1_3) (i := 128) rfl) rfl
set_option maxRecDepth 20000 in
theorem tw_3_129 : Cond.code yX6_fetch cX6_fetch 3 none ∈ TB := tb_3 (List.mem_of_getElem? (l := tables_1_3) (i := 129) rfl) rfl
set_option maxRecDepth 20000 in
theorem tw_3_131 : Cond.instanceMethod yX10_write ∈ TB := tb_3 (List.mem_of_getElem? (l := tables_1_3) (i := 131) rfl) rfl
set_option maxRecDepth 20000 in
theorem tw_3_132 : Cond.selects RX10 yX10_write yX10_write ∈ TB := tb_3 (List.mem_of_getElem? (l := tables_1_3) (i := 132) rfl) rfl
set_option maxRecDepth 20000 in
theorem tw_3_133 : Cond.code yX10_write cX10_write 4 (some .int) ∈ TB := tb_3 (List.mem_of_getElem? (l := tables_1_3) (i := 133) rfl) rfl
set_option maxRecDepth 20000 in
theorem tw_3_134 : Cond.methodLink RX10 232 yX0_addEntry ∈ TB := tb_3 (List.mem_of_getElem? (l := tables_1_3) (i := 134) rfl) rfl
set_option maxRecDepth 20000 in
theorem tw_3_135 : Cond.instanceMethod yX0_addEntry ∈ TB := tb_3 (List.mem_of_getElem? (l := tables_1_3) (i := 135) rfl) rfl
set_option maxRecDepth 20000 in
theorem tw_3_136 : Cond.selects RX0 yX0_addEntry yX0_addEntry ∈ TB := tb_3 (List.mem_of_getElem? (l := tables_1_3) (i := 136) rfl) rfl
set_option maxRecDepth 20000 in
theorem tw_3_137 : Cond.code yX0_addEntry cX0_addEntry 4 none ∈ TB := tb_3 (List.mem_of_getElem? (l := tables_1_3) (i := 137) rfl) rfl
set_option maxRecDepth 20000 in
theorem tw_3_139 : Cond.instanceMethod yX10_tear ∈ TB := tb_3 (List.mem_of_getElem? (l := tables_1_3) (i := 139) rfl) rfl
set_option maxRecDepth 20000 in
theorem tw_3_140 : Cond.selects RX10 yX10_tear yX10_tear ∈ TB := tb_3 (List.mem_of_getElem? (l := tables_1_3) (i := 140) rfl) rfl
set_option maxRecDepth 20000 in
theorem tw_3_141 : Cond.code yX10_tear cX10_tear 2 (some .int) ∈ TB := tb_3 (List.mem_of_getElem? (l := tables_1_3) (i := 141) rfl) rfl
set_option maxRecDepth 20000 in
theorem tw_3_143 : Cond.instanceMethod yX10_seed ∈ TB := tb_3 (List.mem_of_getElem? (l := tables_1_3) (i := 143) rfl) rfl
set_option maxRecDepth 20000 in
theorem tw_3_144 : Cond.selects RX10 yX10_seed yX10_seed ∈ TB := tb_3 (List.mem_of_getElem? (l := tables_1_3) (i := 144) rfl) rfl
set_option maxRecDepth 20000 in
theorem tw_3_145 : Cond.code yX10_seed cX10_seed 3 (some .int) ∈ TB := tb_3 (List.mem_of_getElem? (l := tables_1_3) (i := 145) rfl) rfl
set_option maxRecDepth 20000 in
theorem tw_3_147 : Cond.instanceMethod yX10_keep ∈ TB := tb_3 (List.mem_of_getElem? (l := tables_1_3) (i := 147) rfl) rfl
set_option maxRecDepth 20000 in
theorem tw_3_148 : Cond.selects RX10 yX10_keep yX10_keep ∈ TB := tb_3 (List.mem_of_getElem? (l := tables_1_3) (i := 148) rfl) rfl
set_option maxRecDepth 20000 in
theorem tw_3_149 : Cond.code yX10_keep cX10_keep 2 (some .int) ∈ TB := tb_3 (List.mem_of_getElem? (l := tables_1_3) (i := 149) rfl) rfl
set_option maxRecDepth 20000 in
theorem tw_3_150 : Cond.methodLink RX10 239 yX3_store ∈ TB := tb_3 (List.mem_of_getElem? (l := tables_1_3) (i := 150) rfl) rfl
set_option maxRecDepth 20000 in
theorem tw_3_151 : Cond.instanceMethod yX3_store ∈ TB := tb_3 (List.mem_of_getElem? (l := tables_1_3) (i := 151) rfl) rfl
set_option maxRecDepth 20000 in
theorem tw_3_152 : Cond.selects RX3 yX3_store yX3_store ∈ TB := tb_3 (List.mem_of_getElem? (l := tables_1_3) (i := 152) rfl) rfl
set_option maxRecDepth 20000 in
theorem tw_3_153 : Cond.code yX3_store cX3_store 4 none ∈ TB := tb_3 (List.mem_of_getElem? (l := tables_1_3) (i := 153) rfl) rfl
set_option maxRecDepth 20000 in
theorem tw_3_154 : Cond.methodLink RX3 28 yX6_lay ∈ TB := tb_3 (List.mem_of_getElem? (l := tables_1_3) (i := 154) rfl) rfl
set_option maxRecDepth 20000 in
theorem tw_3_156 : Cond.instanceMethod yX10_goBack ∈ TB := tb_3 (List.mem_of_getElem? (l := tables_1_3) (i := 156) rfl) rfl
set_option maxRecDepth 20000 in
theorem tw_3_157 : Cond.selects RX10 yX10_goBack yX10_goBack ∈ TB := tb_3 (List.mem_of_getElem? (l := tables_1_3) (i := 157) rfl) rfl
set_option maxRecDepth 20000 in
theorem tw_3_158 : Cond.code yX10_goBack cX10_goBack 2 (some .int) ∈ TB := tb_3 (List.mem_of_getElem? (l := tables_1_3) (i := 158) rfl) rfl
set_option maxRecDepth 20000 in
theorem tw_3_159 : Cond.methodLink RX10 243 yX3_isStored ∈ TB := tb_3 (List.mem_of_getElem? (l := tables_1_3) (i := 159) rfl) rfl
set_option maxRecDepth 20000 in
theorem tw_3_160 : Cond.instanceMethod yX3_isStored ∈ TB := tb_3 (List.mem_of_getElem? (l := tables_1_3) (i := 160) rfl) rfl
set_option maxRecDepth 20000 in
theorem tw_3_161 : Cond.selects RX3 yX3_isStored yX3_isStored ∈ TB := tb_3 (List.mem_of_getElem? (l := tables_1_3) (i := 161) rfl) rfl
set_option maxRecDepth 20000 in
theorem tw_3_162 : Cond.code yX3_isStored cX3_isStored 2 (some .boolean) ∈ TB := tb_3 (List.mem_of_getElem? (l := tables_1_3) (i := 162) rfl) rfl
set_option maxRecDepth 20000 in
theorem tw_3_163 : Cond.methodLink RX10 246 yX3_restore ∈ TB := tb_3 (List.mem_of_getElem? (l := tables_1_3) (i := 163) rfl) rfl
set_option maxRecDepth 20000 in
theorem tw_3_164 : Cond.instanceMethod yX3_restore ∈ TB := tb_3 (List.mem_of_getElem? (l := tables_1_3) (i := 164) rfl) rfl
set_option maxRecDepth 20000 in
theorem tw_3_165 : Cond.selects RX3 yX3_restore yX3_restore ∈ TB := tb_3 (List.mem_of_getElem? (l := tables_1_3) (i := 165) rfl) rfl
set_option maxRecDepth 20000 in
theorem tw_3_166 : Cond.code yX3_restore cX3_restore 4 none ∈ TB := tb_3 (List.mem_of_getElem? (l := tables_1_3) (i := 166) rfl) rfl
set_option maxRecDepth 20000 in
theorem tw_3_167 : Cond.methodLink RX3 38 yX3_isStored ∈ TB := tb_3 (List.mem_of_getElem? (l := tables_1_3) (i := 167) rfl) rfl
set_option maxRecDepth 20000 in
theorem tw_3_168 : Cond.methodLink RX3 42 yX6_fetch ∈ TB := tb_3 (List.mem_of_getElem? (l := tables_1_3) (i := 168) rfl) rfl
set_option maxRecDepth 20000 in
theorem tw_3_173 : Cond.code yX11_init cX11_init 1 none ∈ TB := tb_3 (List.mem_of_getElem? (l := tables_1_3) (i := 173) rfl) rfl
set_option maxRecDepth 20000 in
theorem tw_3_174 : Cond.methodLink RX11 1 Lib.objectInit ∈ TB := tb_3 (List.mem_of_getElem? (l := tables_1_3) (i := 174) rfl) rfl
set_option maxRecDepth 20000 in
theorem tw_3_175 : Cond.fieldLink RX11 7 "CoatTracesModel" "w" "[I" ∈ TB := tb_3 (List.mem_of_getElem? (l := tables_1_3) (i := 175) rfl) rfl
set_option maxRecDepth 20000 in
theorem tw_3_176 : Cond.fieldLink RX11 13 "CoatTracesModel" "imageSeed" "[I" ∈ TB := tb_3 (List.mem_of_getElem? (l := tables_1_3) (i := 176) rfl) rfl
set_option maxRecDepth 20000 in
theorem tw_3_177 : Cond.fieldLink RX11 16 "CoatTracesModel" "isKept" "[Z" ∈ TB := tb_3 (List.mem_of_getElem? (l := tables_1_3) (i := 177) rfl) rfl
set_option maxRecDepth 20000 in
theorem tw_3_178 : Cond.fieldLink RX11 53 "CoatTracesModel" "undos" "I" ∈ TB := tb_3 (List.mem_of_getElem? (l := tables_1_3) (i := 178) rfl) rfl
set_option maxRecDepth 20000 in
theorem tw_3_179 : Cond.fieldLink RX11 187 "CoatTracesModel" "seed" "I" ∈ TB := tb_3 (List.mem_of_getElem? (l := tables_1_3) (i := 179) rfl) rfl
set_option maxRecDepth 20000 in
theorem tw_3_180 : Cond.fieldLink RX11 124 "CoatTracesModel" "entries" "I" ∈ TB := tb_3 (List.mem_of_getElem? (l := tables_1_3) (i := 180) rfl) rfl
set_option maxRecDepth 20000 in
theorem tw_3_181 : Cond.fieldLink RX11 20 "CoatTracesModel" "bookWho" "[I" ∈ TB := tb_3 (List.mem_of_getElem? (l := tables_1_3) (i := 181) rfl) rfl
set_option maxRecDepth 20000 in
theorem tw_3_182 : Cond.fieldLink RX11 23 "CoatTracesModel" "bookPlace" "[I" ∈ TB := tb_3 (List.mem_of_getElem? (l := tables_1_3) (i := 182) rfl) rfl
set_option maxRecDepth 20000 in
theorem tw_3_183 : Cond.fieldLink RX11 26 "CoatTracesModel" "bookArms" "[I" ∈ TB := tb_3 (List.mem_of_getElem? (l := tables_1_3) (i := 183) rfl) rfl
set_option maxRecDepth 20000 in
theorem tw_3_184 : Cond.fieldLink RX11 29 "CoatTracesModel" "many" "[I" ∈ TB := tb_3 (List.mem_of_getElem? (l := tables_1_3) (i := 184) rfl) rfl
set_option maxRecDepth 20000 in
theorem tw_3_185 : Cond.fieldLink RX11 32 "CoatTracesModel" "arms" "[I" ∈ TB := tb_3 (List.mem_of_getElem? (l := tables_1_3) (i := 185) rfl) rfl
set_option maxRecDepth 20000 in
theorem tw_3_186 : Cond.fieldLink RX11 35 "CoatTracesModel" "through" "[I" ∈ TB := tb_3 (List.mem_of_getElem? (l := tables_1_3) (i := 186) rfl) rfl
set_option maxRecDepth 20000 in
theorem tw_3_187 : Cond.fieldLink RX11 38 "CoatTracesModel" "least" "[I" ∈ TB := tb_3 (List.mem_of_getElem? (l := tables_1_3) (i := 187) rfl) rfl
set_option maxRecDepth 20000 in
theorem tw_3_188 : Cond.fieldLink RX11 41 "CoatTracesModel" "most" "[I" ∈ TB := tb_3 (List.mem_of_getElem? (l := tables_1_3) (i := 188) rfl) rfl
set_option maxRecDepth 20000 in
theorem tw_3_189 : Cond.fieldLink RX11 97 "CoatTracesModel" "moves" "Z" ∈ TB := tb_3 (List.mem_of_getElem? (l := tables_1_3) (i := 189) rfl) rfl
set_option maxRecDepth 20000 in
theorem tw_3_190 : Cond.fieldLink RX11 44 "CoatTracesModel" "long0" "[I" ∈ TB := tb_3 (List.mem_of_getElem? (l := tables_1_3) (i := 190) rfl) rfl
set_option maxRecDepth 20000 in
theorem tw_3_191 : Cond.fieldLink RX11 47 "CoatTracesModel" "stepsOne" "[I" ∈ TB := tb_3 (List.mem_of_getElem? (l := tables_1_3) (i := 191) rfl) rfl
set_option maxRecDepth 20000 in
theorem tw_3_192 : Cond.fieldLink RX11 50 "CoatTracesModel" "stepsOther" "[I" ∈ TB := tb_3 (List.mem_of_getElem? (l := tables_1_3) (i := 192) rfl) rfl
set_option maxRecDepth 20000 in
theorem tw_3_193 : Cond.laysFinal RX11 "CoatTracesModel" "w" "[I" ∈ TB := tb_3 (List.mem_of_getElem? (l := tables_1_3) (i := 193) rfl) rfl
set_option maxRecDepth 20000 in
theorem tw_3_195 : Cond.laysFinal RX11 "CoatTracesModel" "imageSeed" "[I" ∈ TB := tb_3 (List.mem_of_getElem? (l := tables_1_3) (i := 195) rfl) rfl
set_option maxRecDepth 20000 in
theorem tw_3_197 : Cond.laysFinal RX11 "CoatTracesModel" "isKept" "[Z" ∈ TB := tb_3 (List.mem_of_getElem? (l := tables_1_3) (i := 197) rfl) rfl
set_option maxRecDepth 20000 in
theorem tw_3_199 : Cond.lays RX11 "CoatTracesModel" "undos" "I" ∈ TB := tb_3 (List.mem_of_getElem? (l := tables_1_3) (i := 199) rfl) rfl
set_option maxRecDepth 20000 in
theorem tw_3_201 : Cond.lays RX11 "CoatTracesModel" "seed" "I" ∈ TB := tb_3 (List.mem_of_getElem? (l := tables_1_3) (i := 201) rfl) rfl
set_option maxRecDepth 20000 in
theorem tw_3_203 : Cond.lays RX11 "CoatTracesModel" "entries" "I" ∈ TB := tb_3 (List.mem_of_getElem? (l := tables_1_3) (i := 203) rfl) rfl
set_option maxRecDepth 20000 in
theorem tw_3_205 : Cond.laysFinal RX11 "CoatTracesModel" "bookWho" "[I" ∈ TB := tb_3 (List.mem_of_getElem? (l := tables_1_3) (i := 205) rfl) rfl
set_option maxRecDepth 20000 in
theorem tw_3_207 : Cond.laysFinal RX11 "CoatTracesModel" "bookPlace" "[I" ∈ TB := tb_3 (List.mem_of_getElem? (l := tables_1_3) (i := 207) rfl) rfl
set_option maxRecDepth 20000 in
theorem tw_3_209 : Cond.laysFinal RX11 "CoatTracesModel" "bookArms" "[I" ∈ TB := tb_3 (List.mem_of_getElem? (l := tables_1_3) (i := 209) rfl) rfl
set_option maxRecDepth 20000 in
theorem tw_3_211 : Cond.laysFinal RX11 "CoatTracesModel" "many" "[I" ∈ TB := tb_3 (List.mem_of_getElem? (l := tables_1_3) (i := 211) rfl) rfl
set_option maxRecDepth 20000 in
theorem tw_3_213 : Cond.laysFinal RX11 "CoatTracesModel" "arms" "[I" ∈ TB := tb_3 (List.mem_of_getElem? (l := tables_1_3) (i := 213) rfl) rfl
set_option maxRecDepth 20000 in
theorem tw_3_215 : Cond.laysFinal RX11 "CoatTracesModel" "through" "[I" ∈ TB := tb_3 (List.mem_of_getElem? (l := tables_1_3) (i := 215) rfl) rfl
set_option maxRecDepth 20000 in
theorem tw_3_217 : Cond.laysFinal RX11 "CoatTracesModel" "least" "[I" ∈ TB := tb_3 (List.mem_of_getElem? (l := tables_1_3) (i := 217) rfl) rfl
set_option maxRecDepth 20000 in
theorem tw_3_219 : Cond.laysFinal RX11 "CoatTracesModel" "most" "[I" ∈ TB := tb_3 (List.mem_of_getElem? (l := tables_1_3) (i := 219) rfl) rfl
set_option maxRecDepth 20000 in
theorem tw_3_221 : Cond.lays RX11 "CoatTracesModel" "moves" "Z" ∈ TB := tb_3 (List.mem_of_getElem? (l := tables_1_3) (i := 221) rfl) rfl
set_option maxRecDepth 20000 in
theorem tw_3_223 : Cond.laysFinal RX11 "CoatTracesModel" "long0" "[I" ∈ TB := tb_3 (List.mem_of_getElem? (l := tables_1_3) (i := 223) rfl) rfl
set_option maxRecDepth 20000 in
theorem tw_3_225 : Cond.laysFinal RX11 "CoatTracesModel" "stepsOne" "[I" ∈ TB := tb_3 (List.mem_of_getElem? (l := tables_1_3) (i := 225) rfl) rfl
set_option maxRecDepth 20000 in
theorem tw_3_227 : Cond.laysFinal RX11 "CoatTracesModel" "stepsOther" "[I" ∈ TB := tb_3 (List.mem_of_getElem? (l := tables_1_3) (i := 227) rfl) rfl
set_option maxRecDepth 20000 in
theorem tw_3_231 : Cond.instanceMethod yX11_told ∈ TB := tb_3 (List.mem_of_getElem? (l := tables_1_3) (i := 231) rfl) rfl
set_option maxRecDepth 20000 in
theorem tw_3_232 : Cond.selects RX11 yX11_told yX11_told ∈ TB := tb_3 (List.mem_of_getElem? (l := tables_1_3) (i := 232) rfl) rfl
set_option maxRecDepth 20000 in
theorem tw_3_233 : Cond.code yX11_told cX11_told 2 (some .int) ∈ TB := tb_3 (List.mem_of_getElem? (l := tables_1_3) (i := 233) rfl) rfl
set_option maxRecDepth 20000 in
theorem tw_3_234 : Cond.methodLink RX11 127 yX11_heirs ∈ TB := tb_3 (List.mem_of_getElem? (l := tables_1_3) (i := 234) rfl) rfl
set_option maxRecDepth 20000 in
theorem tw_3_236 : Cond.instanceMethod yX11_heirs ∈ TB := tb_3 (List.mem_of_getElem? (l := tables_1_3) (i := 236) rfl) rfl
set_option maxRecDepth 20000 in
theorem tw_3_237 : Cond.code yX11_heirs cX11_heirs 3 (some .int) ∈ TB := tb_3 (List.mem_of_getElem? (l := tables_1_3) (i := 237) rfl) rfl
set_option maxRecDepth 20000 in
theorem tw_3_238 : Cond.methodLink RX11 76 yX11_isHeir ∈ TB := tb_3 (List.mem_of_getElem? (l := tables_1_3) (i := 238) rfl) rfl
set_option maxRecDepth 20000 in
theorem tw_4_0 : Cond.instanceMethod yX11_isHeir ∈ TB := tb_4 (List.mem_of_getElem? (l := tables_1_4) (i := 0) rfl) rfl
set_option maxRecDepth 20000 in
theorem tw_4_1 : Cond.code yX11_isHeir cX11_isHeir 4 (some .boolean) ∈ TB := tb_4 (List.mem_of_getElem? (l := tables_1_4) (i := 1) rfl) rfl
set_option maxRecDepth 20000 in
theorem tw_4_2 : Cond.methodLink RX11 69 yX11_isWoman ∈ TB := tb_4 (List.mem_of_getElem? (l := tables_1_4) (i := 2) rfl) rfl
set_option maxRecDepth 20000 in
theorem tw_4_4 : Cond.instanceMethod yX11_isWoman ∈ TB := tb_4 (List.mem_of_getElem? (l := tables_1_4) (i := 4) rfl) rfl
set_option maxRecDepth 20000 in
theorem tw_4_5 : Cond.code yX11_isWoman cX11_isWoman 2 (some .boolean) ∈ TB := tb_4 (List.mem_of_getElem? (l := tables_1_4) (i := 5) rfl) rfl
set_option maxRecDepth 20000 in
theorem tw_4_6 : Cond.methodLink RX11 65 yX11_isOne ∈ TB := tb_4 (List.mem_of_getElem? (l := tables_1_4) (i := 6) rfl) rfl
set_option maxRecDepth 20000 in
theorem tw_4_8 : Cond.instanceMethod yX11_isOne ∈ TB := tb_4 (List.mem_of_getElem? (l := tables_1_4) (i := 8) rfl) rfl
set_option maxRecDepth 20000 in
theorem tw_4_9 : Cond.code yX11_isOne cX11_isOne 2 (some .boolean) ∈ TB := tb_4 (List.mem_of_getElem? (l := tables_1_4) (i := 9) rfl) rfl
set_option maxRecDepth 20000 in
theorem tw_4_10 : Cond.methodLink RX11 61 yX11_in ∈ TB := tb_4 (List.mem_of_getElem? (l := tables_1_4) (i := 10) rfl) rfl
set_option maxRecDepth 20000 in
theorem tw_4_11 : Cond.static yX11_in ∈ TB := tb_4 (List.mem_of_getElem? (l := tables_1_4) (i := 11) rfl) rfl
set_option maxRecDepth 20000 in
theorem tw_4_12 : Cond.code yX11_in cX11_in 6 (some .boolean) ∈ TB := tb_4 (List.mem_of_getElem? (l := tables_1_4) (i := 12) rfl) rfl
set_option maxRecDepth 20000 in
theorem tw_4_13 : Cond.methodLink RX11 131 yX11_coats ∈ TB := tb_4 (List.mem_of_getElem? (l := tables_1_4) (i := 13) rfl) rfl
set_option maxRecDepth 20000 in
theorem tw_4_15 : Cond.instanceMethod yX11_coats ∈ TB := tb_4 (List.mem_of_getElem? (l := tables_1_4) (i := 15) rfl) rfl
set_option maxRecDepth 20000 in
theorem tw_4_16 : Cond.code yX11_coats cX11_coats 3 (some .int) ∈ TB := tb_4 (List.mem_of_getElem? (l := tables_1_4) (i := 16) rfl) rfl
set_option maxRecDepth 20000 in
theorem tw_4_17 : Cond.methodLink RX11 90 yX11_lays ∈ TB := tb_4 (List.mem_of_getElem? (l := tables_1_4) (i := 17) rfl) rfl
set_option maxRecDepth 20000 in
theorem tw_4_19 : Cond.instanceMethod yX11_lays ∈ TB := tb_4 (List.mem_of_getElem? (l := tables_1_4) (i := 19) rfl) rfl
set_option maxRecDepth 20000 in
theorem tw_4_20 : Cond.code yX11_lays cX11_lays 2 none ∈ TB := tb_4 (List.mem_of_getElem? (l := tables_1_4) (i := 20) rfl) rfl
set_option maxRecDepth 20000 in
theorem tw_4_21 : Cond.methodLink RX11 82 yX11_laysOne ∈ TB := tb_4 (List.mem_of_getElem? (l := tables_1_4) (i := 21) rfl) rfl
set_option maxRecDepth 20000 in
theorem tw_4_23 : Cond.instanceMethod yX11_laysOne ∈ TB := tb_4 (List.mem_of_getElem? (l := tables_1_4) (i := 23) rfl) rfl
set_option maxRecDepth 20000 in
theorem tw_4_24 : Cond.code yX11_laysOne cX11_laysOne 6 none ∈ TB := tb_4 (List.mem_of_getElem? (l := tables_1_4) (i := 24) rfl) rfl
set_option maxRecDepth 20000 in
theorem tw_4_25 : Cond.methodLink RX11 72 yX11_takes ∈ TB := tb_4 (List.mem_of_getElem? (l := tables_1_4) (i := 25) rfl) rfl
set_option maxRecDepth 20000 in
theorem tw_4_27 : Cond.instanceMethod yX11_takes ∈ TB := tb_4 (List.mem_of_getElem? (l := tables_1_4) (i := 27) rfl) rfl
set_option maxRecDepth 20000 in
theorem tw_4_28 : Cond.code yX11_takes cX11_takes 6 none ∈ TB := tb_4 (List.mem_of_getElem? (l := tables_1_4) (i := 28) rfl) rfl
set_option maxRecDepth 20000 in
theorem tw_4_29 : Cond.methodLink RX11 79 yX11_takesOf ∈ TB := tb_4 (List.mem_of_getElem? (l := tables_1_4) (i := 29) rfl) rfl
set_option maxRecDepth 20000 in
theorem tw_4_31 : Cond.instanceMethod yX11_takesOf ∈ TB := tb_4 (List.mem_of_getElem? (l := tables_1_4) (i := 31) rfl) rfl
set_option maxRecDepth 20000 in
theorem tw_4_32 : Cond.code yX11_takesOf cX11_takesOf 5 none ∈ TB := tb_4 (List.mem_of_getElem? (l := tables_1_4) (i := 32) rfl) rfl
set_option maxRecDepth 20000 in
theorem tw_4_33 : Cond.methodLink RX11 93 yX11_same ∈ TB := tb_4 (List.mem_of_getElem? (l := tables_1_4) (i := 33) rfl) rfl
set_option maxRecDepth 20000 in
theorem tw_4_35 : Cond.instanceMethod yX11_same ∈ TB := tb_4 (List.mem_of_getElem? (l := tables_1_4) (i := 35) rfl) rfl
set_option maxRecDepth 20000 in
theorem tw_4_36 : Cond.code yX11_same cX11_same 4 (some .int) ∈ TB := tb_4 (List.mem_of_getElem? (l := tables_1_4) (i := 36) rfl) rfl
set_option maxRecDepth 20000 in
theorem tw_4_37 : Cond.methodLink RX11 86 yX11_isSame ∈ TB := tb_4 (List.mem_of_getElem? (l := tables_1_4) (i := 37) rfl) rfl
set_option maxRecDepth 20000 in
theorem tw_4_39 : Cond.instanceMethod yX11_isSame ∈ TB := tb_4 (List.mem_of_getElem? (l := tables_1_4) (i := 39) rfl) rfl
set_option maxRecDepth 20000 in
theorem tw_4_40 : Cond.code yX11_isSame cX11_isSame 5 (some .boolean) ∈ TB := tb_4 (List.mem_of_getElem? (l := tables_1_4) (i := 40) rfl) rfl
set_option maxRecDepth 20000 in
theorem tw_4_41 : Cond.methodLink RX11 134 yX11_narrows ∈ TB := tb_4 (List.mem_of_getElem? (l := tables_1_4) (i := 41) rfl) rfl
set_option maxRecDepth 20000 in
theorem tw_4_43 : Cond.instanceMethod yX11_narrows ∈ TB := tb_4 (List.mem_of_getElem? (l := tables_1_4) (i := 43) rfl) rfl
set_option maxRecDepth 20000 in
theorem tw_4_44 : Cond.code yX11_narrows cX11_narrows 2 (some .boolean) ∈ TB := tb_4 (List.mem_of_getElem? (l := tables_1_4) (i := 44) rfl) rfl
set_option maxRecDepth 20000 in
theorem tw_4_45 : Cond.methodLink RX11 104 yX11_isSpoiled ∈ TB := tb_4 (List.mem_of_getElem? (l := tables_1_4) (i := 45) rfl) rfl
set_option maxRecDepth 20000 in
theorem tw_4_47 : Cond.instanceMethod yX11_isSpoiled ∈ TB := tb_4 (List.mem_of_getElem? (l := tables_1_4) (i := 47) rfl) rfl
set_option maxRecDepth 20000 in
theorem tw_4_48 : Cond.code yX11_isSpoiled cX11_isSpoiled 3 (some .boolean) ∈ TB := tb_4 (List.mem_of_getElem? (l := tables_1_4) (i := 48) rfl) rfl
set_option maxRecDepth 20000 in
theorem tw_4_49 : Cond.methodLink RX11 108 yX11_narrowsOne ∈ TB := tb_4 (List.mem_of_getElem? (l := tables_1_4) (i := 49) rfl) rfl
set_option maxRecDepth 20000 in
theorem tw_4_51 : Cond.instanceMethod yX11_narrowsOne ∈ TB := tb_4 (List.mem_of_getElem? (l := tables_1_4) (i := 51) rfl) rfl
set_option maxRecDepth 20000 in
theorem tw_4_52 : Cond.code yX11_narrowsOne cX11_narrowsOne 5 none ∈ TB := tb_4 (List.mem_of_getElem? (l := tables_1_4) (i := 52) rfl) rfl
set_option maxRecDepth 20000 in
theorem tw_4_53 : Cond.methodLink RX11 101 yX11_atLeast ∈ TB := tb_4 (List.mem_of_getElem? (l := tables_1_4) (i := 53) rfl) rfl
set_option maxRecDepth 20000 in
theorem tw_4_55 : Cond.instanceMethod yX11_atLeast ∈ TB := tb_4 (List.mem_of_getElem? (l := tables_1_4) (i := 55) rfl) rfl
set_option maxRecDepth 20000 in
theorem tw_4_56 : Cond.code yX11_atLeast cX11_atLeast 4 none ∈ TB := tb_4 (List.mem_of_getElem? (l := tables_1_4) (i := 56) rfl) rfl
set_option maxRecDepth 20000 in
theorem tw_4_57 : Cond.methodLink RX11 137 yX11_meant ∈ TB := tb_4 (List.mem_of_getElem? (l := tables_1_4) (i := 57) rfl) rfl
set_option maxRecDepth 20000 in
theorem tw_4_59 : Cond.instanceMethod yX11_meant ∈ TB := tb_4 (List.mem_of_getElem? (l := tables_1_4) (i := 59) rfl) rfl
set_option maxRecDepth 20000 in
theorem tw_4_60 : Cond.code yX11_meant cX11_meant 4 (some .int) ∈ TB := tb_4 (List.mem_of_getElem? (l := tables_1_4) (i := 60) rfl) rfl
set_option maxRecDepth 20000 in
theorem tw_4_61 : Cond.methodLink RX11 115 yX11_isAll ∈ TB := tb_4 (List.mem_of_getElem? (l := tables_1_4) (i := 61) rfl) rfl
set_option maxRecDepth 20000 in
theorem tw_4_63 : Cond.instanceMethod yX11_isAll ∈ TB := tb_4 (List.mem_of_getElem? (l := tables_1_4) (i := 63) rfl) rfl
set_option maxRecDepth 20000 in
theorem tw_4_64 : Cond.code yX11_isAll cX11_isAll 4 (some .boolean) ∈ TB := tb_4 (List.mem_of_getElem? (l := tables_1_4) (i := 64) rfl) rfl
set_option maxRecDepth 20000 in
theorem tw_4_65 : Cond.methodLink RX11 112 yX11_isAs ∈ TB := tb_4 (List.mem_of_getElem? (l := tables_1_4) (i := 65) rfl) rfl
set_option maxRecDepth 20000 in
theorem tw_4_67 : Cond.instanceMethod yX11_isAs ∈ TB := tb_4 (List.mem_of_getElem? (l := tables_1_4) (i := 67) rfl) rfl
set_option maxRecDepth 20000 in
theorem tw_4_68 : Cond.code yX11_isAs cX11_isAs 3 (some .boolean) ∈ TB := tb_4 (List.mem_of_getElem? (l := tables_1_4) (i := 68) rfl) rfl
set_option maxRecDepth 20000 in
theorem tw_4_69 : Cond.methodLink RX11 118 yX11_isSome ∈ TB := tb_4 (List.mem_of_getElem? (l := tables_1_4) (i := 69) rfl) rfl
set_option maxRecDepth 20000 in
theorem tw_4_71 : Cond.instanceMethod yX11_isSome ∈ TB := tb_4 (List.mem_of_getElem? (l := tables_1_4) (i := 71) rfl) rfl
set_option maxRecDepth 20000 in
theorem tw_4_72 : Cond.code yX11_isSome cX11_isSome 4 (some .boolean) ∈ TB := tb_4 (List.mem_of_getElem? (l := tables_1_4) (i := 72) rfl) rfl
set_option maxRecDepth 20000 in
theorem tw_4_73 : Cond.methodLink RX11 141 yX11_likely ∈ TB := tb_4 (List.mem_of_getElem? (l := tables_1_4) (i := 73) rfl) rfl
set_option maxRecDepth 20000 in
theorem tw_4_75 : Cond.instanceMethod yX11_likely ∈ TB := tb_4 (List.mem_of_getElem? (l := tables_1_4) (i := 75) rfl) rfl
set_option maxRecDepth 20000 in
theorem tw_4_76 : Cond.code yX11_likely cX11_likely 5 (some .int) ∈ TB := tb_4 (List.mem_of_getElem? (l := tables_1_4) (i := 76) rfl) rfl
set_option maxRecDepth 20000 in
theorem tw_4_77 : Cond.methodLink RX11 121 yX11_like ∈ TB := tb_4 (List.mem_of_getElem? (l := tables_1_4) (i := 77) rfl) rfl
set_option maxRecDepth 20000 in
theorem tw_4_79 : Cond.instanceMethod yX11_like ∈ TB := tb_4 (List.mem_of_getElem? (l := tables_1_4) (i := 79) rfl) rfl
set_option maxRecDepth 20000 in
theorem tw_4_80 : Cond.code yX11_like cX11_like 7 (some .int) ∈ TB := tb_4 (List.mem_of_getElem? (l := tables_1_4) (i := 80) rfl) rfl
set_option maxRecDepth 20000 in
theorem tw_4_81 : Cond.methodLink RX11 144 yX11_wrong ∈ TB := tb_4 (List.mem_of_getElem? (l := tables_1_4) (i := 81) rfl) rfl
set_option maxRecDepth 20000 in
theorem tw_4_83 : Cond.instanceMethod yX11_wrong ∈ TB := tb_4 (List.mem_of_getElem? (l := tables_1_4) (i := 83) rfl) rfl
set_option maxRecDepth 20000 in
theorem tw_4_84 : Cond.code yX11_wrong cX11_wrong 3 (some .int) ∈ TB := tb_4 (List.mem_of_getElem? (l := tables_1_4) (i := 84) rfl) rfl
set_option maxRecDepth 20000 in
theorem tw_4_85 : Cond.constant RX11 147 (-1000000002) ∈ TB := tb_4 (List.mem_of_getElem? (l := tables_1_4) (i := 85) rfl) rfl
set_option maxRecDepth 20000 in
theorem tw_4_87 : Cond.instanceMethod yX11_person ∈ TB := tb_4 (List.mem_of_getElem? (l := tables_1_4) (i := 87) rfl) rfl
set_option maxRecDepth 20000 in
theorem tw_4_88 : Cond.selects RX11 yX11_person yX11_person ∈ TB := tb_4 (List.mem_of_getElem? (l := tables_1_4) (i := 88) rfl) rfl
set_option maxRecDepth 20000 in
theorem tw_4_89 : Cond.code yX11_person cX11_person 3 (some .int) ∈ TB := tb_4 (List.mem_of_getElem? (l := tables_1_4) (i := 89) rfl) rfl
set_option maxRecDepth 20000 in
theorem tw_4_90 : Cond.constant RX11 148 (-1000000001) ∈ TB := tb_4 (List.mem_of_getElem? (l := tables_1_4) (i := 90) rfl) rfl
set_option maxRecDepth 20000 in
theorem tw_4_91 : Cond.methodLink RX11 149 yX11_children ∈ TB := tb_4 (List.mem_of_getElem? (l := tables_1_4) (i := 91) rfl) rfl
set_option maxRecDepth 20000 in
theorem tw_4_93 : Cond.instanceMethod yX11_children ∈ TB := tb_4 (List.mem_of_getElem? (l := tables_1_4) (i := 93) rfl) rfl
set_option maxRecDepth 20000 in
theorem tw_4_94 : Cond.code yX11_children cX11_children 4 (some .int) ∈ TB := tb_4 (List.mem_of_getElem? (l := tables_1_4) (i := 94) rfl) rfl
set_option maxRecDepth 20000 in
theorem tw_4_95 : Cond.constantLong RX11 152 (12) ∈ TB := tb_4 (List.mem_of_getElem? (l := tables_1_4) (i := 95) rfl) rfl
set_option maxRecDepth 20000 in
theorem tw_4_96 : Cond.constantLong RX11 154 (15) ∈ TB := tb_4 (List.mem_of_getElem? (l := tables_1_4) (i := 96) rfl) rfl
set_option maxRecDepth 20000 in
theorem tw_4_97 : Cond.methodLink RX11 156 yX11_narrowed ∈ TB := tb_4 (List.mem_of_getElem? (l := tables_1_4) (i := 97) rfl) rfl
set_option maxRecDepth 20000 in
theorem tw_4_99 : Cond.instanceMethod yX11_narrowed ∈ TB := tb_4 (List.mem_of_getElem? (l := tables_1_4) (i := 99) rfl) rfl
set_option maxRecDepth 20000 in
theorem tw_4_100 : Cond.code yX11_narrowed cX11_narrowed 4 (some .int) ∈ TB := tb_4 (List.mem_of_getElem? (l := tables_1_4) (i := 100) rfl) rfl
set_option maxRecDepth 20000 in
theorem tw_4_102 : Cond.instanceMethod yX11_quarter ∈ TB := tb_4 (List.mem_of_getElem? (l := tables_1_4) (i := 102) rfl) rfl
set_option maxRecDepth 20000 in
theorem tw_4_103 : Cond.selects RX11 yX11_quarter yX11_quarter ∈ TB := tb_4 (List.mem_of_getElem? (l := tables_1_4) (i := 103) rfl) rfl
set_option maxRecDepth 20000 in
theorem tw_4_104 : Cond.code yX11_quarter cX11_quarter 4 (some .int) ∈ TB := tb_4 (List.mem_of_getElem? (l := tables_1_4) (i := 104) rfl) rfl
set_option maxRecDepth 20000 in
theorem tw_4_106 : Cond.instanceMethod yX11_kin ∈ TB := tb_4 (List.mem_of_getElem? (l := tables_1_4) (i := 106) rfl) rfl
set_option maxRecDepth 20000 in
theorem tw_4_107 : Cond.selects RX11 yX11_kin yX11_kin ∈ TB := tb_4 (List.mem_of_getElem? (l := tables_1_4) (i := 107) rfl) rfl
set_option maxRecDepth 20000 in
theorem tw_4_108 : Cond.code yX11_kin cX11_kin 9 (some .int) ∈ TB := tb_4 (List.mem_of_getElem? (l := tables_1_4) (i := 108) rfl) rfl
set_option maxRecDepth 20000 in
theorem tw_4_109 : Cond.methodLink RX11 160 yX11_steps ∈ TB := tb_4 (List.mem_of_getElem? (l := tables_1_4) (i := 109) rfl) rfl
set_option maxRecDepth 20000 in
theorem tw_4_111 : Cond.instanceMethod yX11_steps ∈ TB := tb_4 (List.mem_of_getElem? (l := tables_1_4) (i := 111) rfl) rfl
set_option maxRecDepth 20000 in
theorem tw_4_112 : Cond.code yX11_steps cX11_steps 7 none ∈ TB := tb_4 (List.mem_of_getElem? (l := tables_1_4) (i := 112) rfl) rfl
set_option maxRecDepth 20000 in
theorem tw_4_114 : Cond.instanceMethod yX11_would ∈ TB := tb_4 (List.mem_of_getElem? (l := tables_1_4) (i := 114) rfl) rfl
set_option maxRecDepth 20000 in
theorem tw_4_115 : Cond.selects RX11 yX11_would yX11_would ∈ TB := tb_4 (List.mem_of_getElem? (l := tables_1_4) (i := 115) rfl) rfl
set_option maxRecDepth 20000 in
theorem tw_4_116 : Cond.code yX11_would cX11_would 3 (some .int) ∈ TB := tb_4 (List.mem_of_getElem? (l := tables_1_4) (i := 116) rfl) rfl
set_option maxRecDepth 20000 in
theorem tw_4_117 : Cond.methodLink RX11 164 yX11_isMan ∈ TB := tb_4 (List.mem_of_getElem? (l := tables_1_4) (i := 117) rfl) rfl
set_option maxRecDepth 20000 in
theorem tw_4_119 : Cond.instanceMethod yX11_isMan ∈ TB := tb_4 (List.mem_of_getElem? (l := tables_1_4) (i := 119) rfl) rfl
set_option maxRecDepth 20000 in
theorem tw_4_120 : Cond.code yX11_isMan cX11_isMan 2 (some .boolean) ∈ TB := tb_4 (List.mem_of_getElem? (l := tables_1_4) (i := 120) rfl) rfl
set_option maxRecDepth 20000 in
theorem tw_4_121 : Cond.constant RX11 167 (-1000000003) ∈ TB := tb_4 (List.mem_of_getElem? (l := tables_1_4) (i := 121) rfl) rfl
set_option maxRecDepth 20000 in
theorem tw_4_123 : Cond.instanceMethod yX11_dated ∈ TB := tb_4 (List.mem_of_getElem? (l := tables_1_4) (i := 123) rfl) rfl
set_option maxRecDepth 20000 in
theorem tw_4_124 : Cond.selects RX11 yX11_dated yX11_dated ∈ TB := tb_4 (List.mem_of_getElem? (l := tables_1_4) (i := 124) rfl) rfl
set_option maxRecDepth 20000 in
theorem tw_4_125 : Cond.code yX11_dated cX11_dated 6 (some .int) ∈ TB := tb_4 (List.mem_of_getElem? (l := tables_1_4) (i := 125) rfl) rfl
set_option maxRecDepth 20000 in
theorem tw_4_126 : Cond.constantLong RX11 168 (999) ∈ TB := tb_4 (List.mem_of_getElem? (l := tables_1_4) (i := 126) rfl) rfl
set_option maxRecDepth 20000 in
theorem tw_4_128 : Cond.instanceMethod yX11_signAt ∈ TB := tb_4 (List.mem_of_getElem? (l := tables_1_4) (i := 128) rfl) rfl
set_option maxRecDepth 20000 in
theorem tw_4_129 : Cond.selects RX11 yX11_signAt yX11_signAt ∈ TB := tb_4 (List.mem_of_getElem? (l := tables_1_4) (i := 129) rfl) rfl
set_option maxRecDepth 20000 in
theorem tw_4_130 : Cond.code yX11_signAt cX11_signAt 2 (some .int) ∈ TB := tb_4 (List.mem_of_getElem? (l := tables_1_4) (i := 130) rfl) rfl
set_option maxRecDepth 20000 in
theorem tw_4_132 : Cond.instanceMethod yX11_put ∈ TB := tb_4 (List.mem_of_getElem? (l := tables_1_4) (i := 132) rfl) rfl
set_option maxRecDepth 20000 in
theorem tw_4_133 : Cond.selects RX11 yX11_put yX11_put ∈ TB := tb_4 (List.mem_of_getElem? (l := tables_1_4) (i := 133) rfl) rfl
set_option maxRecDepth 20000 in
theorem tw_4_134 : Cond.code yX11_put cX11_put 5 (some .int) ∈ TB := tb_4 (List.mem_of_getElem? (l := tables_1_4) (i := 134) rfl) rfl
set_option maxRecDepth 20000 in
theorem tw_4_135 : Cond.constantLong RX11 170 (9) ∈ TB := tb_4 (List.mem_of_getElem? (l := tables_1_4) (i := 135) rfl) rfl
set_option maxRecDepth 20000 in
theorem tw_4_136 : Cond.constant RX11 172 (-1000000004) ∈ TB := tb_4 (List.mem_of_getElem? (l := tables_1_4) (i := 136) rfl) rfl
set_option maxRecDepth 20000 in
theorem tw_4_137 : Cond.methodLink RX11 173 yX11_minds ∈ TB := tb_4 (List.mem_of_getElem? (l := tables_1_4) (i := 137) rfl) rfl
set_option maxRecDepth 20000 in
theorem tw_4_139 : Cond.instanceMethod yX11_minds ∈ TB := tb_4 (List.mem_of_getElem? (l := tables_1_4) (i := 139) rfl) rfl
set_option maxRecDepth 20000 in
theorem tw_4_140 : Cond.code yX11_minds cX11_minds 2 none ∈ TB := tb_4 (List.mem_of_getElem? (l := tables_1_4) (i := 140) rfl) rfl
set_option maxRecDepth 20000 in
theorem tw_4_141 : Cond.methodLink RX11 57 yX11_copy ∈ TB := tb_4 (List.mem_of_getElem? (l := tables_1_4) (i := 141) rfl) rfl
set_option maxRecDepth 20000 in
theorem tw_4_143 : Cond.instanceMethod yX11_copy ∈ TB := tb_4 (List.mem_of_getElem? (l := tables_1_4) (i := 143) rfl) rfl
set_option maxRecDepth 20000 in
theorem tw_4_144 : Cond.code yX11_copy cX11_copy 4 none ∈ TB := tb_4 (List.mem_of_getElem? (l := tables_1_4) (i := 144) rfl) rfl
set_option maxRecDepth 20000 in
theorem tw_4_145 : Cond.methodLink RX11 176 yX11_comes ∈ TB := tb_4 (List.mem_of_getElem? (l := tables_1_4) (i := 145) rfl) rfl
set_option maxRecDepth 20000 in
theorem tw_4_147 : Cond.instanceMethod yX11_comes ∈ TB := tb_4 (List.mem_of_getElem? (l := tables_1_4) (i := 147) rfl) rfl
set_option maxRecDepth 20000 in
theorem tw_4_148 : Cond.code yX11_comes cX11_comes 6 none ∈ TB := tb_4 (List.mem_of_getElem? (l := tables_1_4) (i := 148) rfl) rfl
set_option maxRecDepth 20000 in
theorem tw_4_150 : Cond.instanceMethod yX11_born ∈ TB := tb_4 (List.mem_of_getElem? (l := tables_1_4) (i := 150) rfl) rfl
set_option maxRecDepth 20000 in
theorem tw_4_151 : Cond.selects RX11 yX11_born yX11_born ∈ TB := tb_4 (List.mem_of_getElem? (l := tables_1_4) (i := 151) rfl) rfl
set_option maxRecDepth 20000 in
theorem tw_4_152 : Cond.code yX11_born cX11_born 4 (some .int) ∈ TB := tb_4 (List.mem_of_getElem? (l := tables_1_4) (i := 152) rfl) rfl
set_option maxRecDepth 20000 in
theorem tw_4_153 : Cond.methodLink RX11 179 yX11_bounds ∈ TB := tb_4 (List.mem_of_getElem? (l := tables_1_4) (i := 153) rfl) rfl
set_option maxRecDepth 20000 in
theorem tw_4_155 : Cond.instanceMethod yX11_bounds ∈ TB := tb_4 (List.mem_of_getElem? (l := tables_1_4) (i := 155) rfl) rfl
set_option maxRecDepth 20000 in
theorem tw_4_156 : Cond.code yX11_bounds cX11_bounds 5 (some .int) ∈ TB := tb_4 (List.mem_of_getElem? (l := tables_1_4) (i := 156) rfl) rfl
set_option maxRecDepth 20000 in
theorem tw_4_158 : Cond.instanceMethod yX11_died ∈ TB := tb_4 (List.mem_of_getElem? (l := tables_1_4) (i := 158) rfl) rfl
set_option maxRecDepth 20000 in
theorem tw_4_159 : Cond.selects RX11 yX11_died yX11_died ∈ TB := tb_4 (List.mem_of_getElem? (l := tables_1_4) (i := 159) rfl) rfl
set_option maxRecDepth 20000 in
theorem tw_4_160 : Cond.code yX11_died cX11_died 4 (some .int) ∈ TB := tb_4 (List.mem_of_getElem? (l := tables_1_4) (i := 160) rfl) rfl
set_option maxRecDepth 20000 in
theorem tw_4_162 : Cond.instanceMethod yX11_rule ∈ TB := tb_4 (List.mem_of_getElem? (l := tables_1_4) (i := 162) rfl) rfl
set_option maxRecDepth 20000 in
theorem tw_4_163 : Cond.selects RX11 yX11_rule yX11_rule ∈ TB := tb_4 (List.mem_of_getElem? (l := tables_1_4) (i := 163) rfl) rfl
set_option maxRecDepth 20000 in
theorem tw_4_164 : Cond.code yX11_rule cX11_rule 2 (some .int) ∈ TB := tb_4 (List.mem_of_getElem? (l := tables_1_4) (i := 164) rfl) rfl
set_option maxRecDepth 20000 in
theorem tw_4_165 : Cond.constantLong RX11 183 (2) ∈ TB := tb_4 (List.mem_of_getElem? (l := tables_1_4) (i := 165) rfl) rfl
set_option maxRecDepth 20000 in
theorem tw_4_167 : Cond.instanceMethod yX11_sign ∈ TB := tb_4 (List.mem_of_getElem? (l := tables_1_4) (i := 167) rfl) rfl
set_option maxRecDepth 20000 in
theorem tw_4_168 : Cond.selects RX11 yX11_sign yX11_sign ∈ TB := tb_4 (List.mem_of_getElem? (l := tables_1_4) (i := 168) rfl) rfl
set_option maxRecDepth 20000 in
theorem tw_4_169 : Cond.code yX11_sign cX11_sign 2 (some .int) ∈ TB := tb_4 (List.mem_of_getElem? (l := tables_1_4) (i := 169) rfl) rfl
set_option maxRecDepth 20000 in
theorem tw_4_170 : Cond.constantLong RX11 185 (10) ∈ TB := tb_4 (List.mem_of_getElem? (l := tables_1_4) (i := 170) rfl) rfl
set_option maxRecDepth 20000 in
theorem tw_4_172 : Cond.instanceMethod yX11_wipe ∈ TB := tb_4 (List.mem_of_getElem? (l := tables_1_4) (i := 172) rfl) rfl
set_option maxRecDepth 20000 in
theorem tw_4_173 : Cond.selects RX11 yX11_wipe yX11_wipe ∈ TB := tb_4 (List.mem_of_getElem? (l := tables_1_4) (i := 173) rfl) rfl
set_option maxRecDepth 20000 in
theorem tw_4_174 : Cond.code yX11_wipe cX11_wipe 2 (some .int) ∈ TB := tb_4 (List.mem_of_getElem? (l := tables_1_4) (i := 174) rfl) rfl
set_option maxRecDepth 20000 in
theorem tw_4_176 : Cond.instanceMethod yX11_drift ∈ TB := tb_4 (List.mem_of_getElem? (l := tables_1_4) (i := 176) rfl) rfl
set_option maxRecDepth 20000 in
theorem tw_4_177 : Cond.selects RX11 yX11_drift yX11_drift ∈ TB := tb_4 (List.mem_of_getElem? (l := tables_1_4) (i := 177) rfl) rfl
set_option maxRecDepth 20000 in
theorem tw_4_178 : Cond.code yX11_drift cX11_drift 7 (some .int) ∈ TB := tb_4 (List.mem_of_getElem? (l := tables_1_4) (i := 178) rfl) rfl
set_option maxRecDepth 20000 in
theorem tw_4_179 : Cond.constantLong RX11 197 (16) ∈ TB := tb_4 (List.mem_of_getElem? (l := tables_1_4) (i := 179) rfl) rfl
set_option maxRecDepth 20000 in
theorem tw_4_180 : Cond.methodLink RX11 199 yX11_draw ∈ TB := tb_4 (List.mem_of_getElem? (l := tables_1_4) (i := 180) rfl) rfl
set_option maxRecDepth 20000 in
theorem tw_4_182 : Cond.instanceMethod yX11_draw ∈ TB := tb_4 (List.mem_of_getElem? (l := tables_1_4) (i := 182) rfl) rfl
set_option maxRecDepth 20000 in
theorem tw_4_183 : Cond.code yX11_draw cX11_draw 2 (some .int) ∈ TB := tb_4 (List.mem_of_getElem? (l := tables_1_4) (i := 183) rfl) rfl
set_option maxRecDepth 20000 in
theorem tw_4_184 : Cond.constantLong RX11 190 (1103515245) ∈ TB := tb_4 (List.mem_of_getElem? (l := tables_1_4) (i := 184) rfl) rfl
set_option maxRecDepth 20000 in
theorem tw_4_185 : Cond.constantLong RX11 192 (12345) ∈ TB := tb_4 (List.mem_of_getElem? (l := tables_1_4) (i := 185) rfl) rfl
set_option maxRecDepth 20000 in
theorem tw_4_186 : Cond.constantLong RX11 194 (2147483648) ∈ TB := tb_4 (List.mem_of_getElem? (l := tables_1_4) (i := 186) rfl) rfl
set_option maxRecDepth 20000 in
theorem tw_4_187 : Cond.constant RX11 196 (65536) ∈ TB := tb_4 (List.mem_of_getElem? (l := tables_1_4) (i := 187) rfl) rfl
set_option maxRecDepth 20000 in
theorem tw_4_189 : Cond.instanceMethod yX11_undo ∈ TB := tb_4 (List.mem_of_getElem? (l := tables_1_4) (i := 189) rfl) rfl
set_option maxRecDepth 20000 in
theorem tw_4_190 : Cond.selects RX11 yX11_undo yX11_undo ∈ TB := tb_4 (List.mem_of_getElem? (l := tables_1_4) (i := 190) rfl) rfl
set_option maxRecDepth 20000 in
theorem tw_4_191 : Cond.code yX11_undo cX11_undo 2 (some .int) ∈ TB := tb_4 (List.mem_of_getElem? (l := tables_1_4) (i := 191) rfl) rfl
set_option maxRecDepth 20000 in
theorem tw_4_192 : Cond.constantLong RX11 202 (20) ∈ TB := tb_4 (List.mem_of_getElem? (l := tables_1_4) (i := 192) rfl) rfl
set_option maxRecDepth 20000 in
theorem tw_4_194 : Cond.instanceMethod yX11_write ∈ TB := tb_4 (List.mem_of_getElem? (l := tables_1_4) (i := 194) rfl) rfl
set_option maxRecDepth 20000 in
theorem tw_4_195 : Cond.selects RX11 yX11_write yX11_write ∈ TB := tb_4 (List.mem_of_getElem? (l := tables_1_4) (i := 195) rfl) rfl
set_option maxRecDepth 20000 in
theorem tw_4_196 : Cond.code yX11_write cX11_write 4 (some .int) ∈ TB := tb_4 (List.mem_of_getElem? (l := tables_1_4) (i := 196) rfl) rfl
set_option maxRecDepth 20000 in
theorem tw_4_198 : Cond.instanceMethod yX11_tear ∈ TB := tb_4 (List.mem_of_getElem? (l := tables_1_4) (i := 198) rfl) rfl
set_option maxRecDepth 20000 in
theorem tw_4_199 : Cond.selects RX11 yX11_tear yX11_tear ∈ TB := tb_4 (List.mem_of_getElem? (l := tables_1_4) (i := 199) rfl) rfl
set_option maxRecDepth 20000 in
theorem tw_4_200 : Cond.code yX11_tear cX11_tear 2 (some .int) ∈ TB := tb_4 (List.mem_of_getElem? (l := tables_1_4) (i := 200) rfl) rfl
set_option maxRecDepth 20000 in
theorem tw_4_202 : Cond.instanceMethod yX11_seed ∈ TB := tb_4 (List.mem_of_getElem? (l := tables_1_4) (i := 202) rfl) rfl
set_option maxRecDepth 20000 in
theorem tw_4_203 : Cond.selects RX11 yX11_seed yX11_seed ∈ TB := tb_4 (List.mem_of_getElem? (l := tables_1_4) (i := 203) rfl) rfl
set_option maxRecDepth 20000 in
theorem tw_4_204 : Cond.code yX11_seed cX11_seed 3 (some .int) ∈ TB := tb_4 (List.mem_of_getElem? (l := tables_1_4) (i := 204) rfl) rfl
set_option maxRecDepth 20000 in
theorem tw_4_206 : Cond.instanceMethod yX11_keep ∈ TB := tb_4 (List.mem_of_getElem? (l := tables_1_4) (i := 206) rfl) rfl
set_option maxRecDepth 20000 in
theorem tw_4_207 : Cond.selects RX11 yX11_keep yX11_keep ∈ TB := tb_4 (List.mem_of_getElem? (l := tables_1_4) (i := 207) rfl) rfl
set_option maxRecDepth 20000 in
theorem tw_4_208 : Cond.code yX11_keep cX11_keep 2 (some .int) ∈ TB := tb_4 (List.mem_of_getElem? (l := tables_1_4) (i := 208) rfl) rfl
set_option maxRecDepth 20000 in
theorem tw_4_210 : Cond.instanceMethod yX11_goBack ∈ TB := tb_4 (List.mem_of_getElem? (l := tables_1_4) (i := 210) rfl) rfl
set_option maxRecDepth 20000 in
theorem tw_4_211 : Cond.selects RX11 yX11_goBack yX11_goBack ∈ TB := tb_4 (List.mem_of_getElem? (l := tables_1_4) (i := 211) rfl) rfl
set_option maxRecDepth 20000 in
theorem tw_4_212 : Cond.code yX11_goBack cX11_goBack 2 (some .int) ∈ TB := tb_4 (List.mem_of_getElem? (l := tables_1_4) (i := 212) rfl) rfl
theorem cw_X0_addEntry : Cond.instanceMethod yX0_addEntry ∈ TB ∧ Cond.selects RX0 yX0_addEntry yX0_addEntry ∈ TB ∧ Cond.initialized RX0 ∈ TB ∧ Cond.code yX0_addEntry cX0_addEntry 4 none ∈ TB := ⟨tw_3_135, tw_3_136, tw_1_7, tw_3_137⟩
theorem cw_X0_firstWrong : Cond.instanceMethod yX0_firstWrong ∈ TB ∧ Cond.selects RX0 yX0_firstWrong yX0_firstWrong ∈ TB ∧ Cond.initialized RX0 ∈ TB ∧ Cond.code yX0_firstWrong cX0_firstWrong 4 (some .int) ∈ TB := ⟨tw_2_79, tw_2_80, tw_1_7, tw_2_81⟩
theorem cw_X10_areYears : Cond.static yX10_areYears ∈ TB ∧ Cond.initialized yX10_areYears.cls ∈ TB ∧ Cond.code yX10_areYears cX10_areYears 2 (some .boolean) ∈ TB := ⟨tw_2_208, tw_1_1, tw_2_209⟩
theorem cw_X10_born : Cond.instanceMethod yX10_born ∈ TB ∧ Cond.selects RX10 yX10_born yX10_born ∈ TB ∧ Cond.initialized RX10 ∈ TB ∧ Cond.code yX10_born cX10_born 4 (some .int) ∈ TB := ⟨tw_3_60, tw_3_61, tw_1_1, tw_3_62⟩
theorem cw_X10_boundYears : Cond.instanceMethod yX10_boundYears ∈ TB ∧ Cond.selects RX10 yX10_boundYears yX10_boundYears ∈ TB ∧ Cond.initialized RX10 ∈ TB ∧ Cond.code yX10_boundYears cX10_boundYears 5 (some .int) ∈ TB := ⟨tw_3_65, tw_0_1, tw_1_1, tw_3_66⟩
theorem cw_X10_dated : Cond.instanceMethod yX10_dated ∈ TB ∧ Cond.selects RX10 yX10_dated yX10_dated ∈ TB ∧ Cond.initialized RX10 ∈ TB ∧ Cond.code yX10_dated cX10_dated 3 (some .int) ∈ TB := ⟨tw_2_204, tw_2_205, tw_1_1, tw_2_206⟩
theorem cw_X10_died : Cond.instanceMethod yX10_died ∈ TB ∧ Cond.selects RX10 yX10_died yX10_died ∈ TB ∧ Cond.initialized RX10 ∈ TB ∧ Cond.code yX10_died cX10_died 4 (some .int) ∈ TB := ⟨tw_3_72, tw_3_73, tw_1_1, tw_3_74⟩
theorem cw_X10_drift : Cond.instanceMethod yX10_drift ∈ TB ∧ Cond.selects RX10 yX10_drift yX10_drift ∈ TB ∧ Cond.initialized RX10 ∈ TB ∧ Cond.code yX10_drift cX10_drift 3 (some .int) ∈ TB := ⟨tw_3_100, tw_3_101, tw_1_1, tw_3_102⟩
theorem cw_X10_goBack : Cond.instanceMethod yX10_goBack ∈ TB ∧ Cond.selects RX10 yX10_goBack yX10_goBack ∈ TB ∧ Cond.initialized RX10 ∈ TB ∧ Cond.code yX10_goBack cX10_goBack 2 (some .int) ∈ TB := ⟨tw_3_156, tw_3_157, tw_1_1, tw_3_158⟩
theorem cw_X10_isArms : Cond.static yX10_isArms ∈ TB ∧ Cond.initialized yX10_isArms.cls ∈ TB ∧ Cond.code yX10_isArms cX10_isArms 1 (some .boolean) ∈ TB := ⟨tw_2_230, tw_1_1, tw_2_231⟩
theorem cw_X10_keep : Cond.instanceMethod yX10_keep ∈ TB ∧ Cond.selects RX10 yX10_keep yX10_keep ∈ TB ∧ Cond.initialized RX10 ∈ TB ∧ Cond.code yX10_keep cX10_keep 2 (some .int) ∈ TB := ⟨tw_3_147, tw_3_148, tw_1_1, tw_3_149⟩
theorem cw_X10_kin : Cond.instanceMethod yX10_kin ∈ TB ∧ Cond.selects RX10 yX10_kin yX10_kin ∈ TB ∧ Cond.initialized RX10 ∈ TB ∧ Cond.code yX10_kin cX10_kin 4 (some .int) ∈ TB := ⟨tw_2_155, tw_2_156, tw_1_1, tw_2_157⟩
theorem cw_X10_person : Cond.instanceMethod yX10_person ∈ TB ∧ Cond.selects RX10 yX10_person yX10_person ∈ TB ∧ Cond.initialized RX10 ∈ TB ∧ Cond.code yX10_person cX10_person 3 (some .int) ∈ TB := ⟨tw_2_85, tw_2_86, tw_1_1, tw_2_87⟩
theorem cw_X10_put : Cond.instanceMethod yX10_put ∈ TB ∧ Cond.selects RX10 yX10_put yX10_put ∈ TB ∧ Cond.initialized RX10 ∈ TB ∧ Cond.code yX10_put cX10_put 5 (some .int) ∈ TB := ⟨tw_2_222, tw_2_223, tw_1_1, tw_2_224⟩
theorem cw_X10_quarter : Cond.instanceMethod yX10_quarter ∈ TB ∧ Cond.selects RX10 yX10_quarter yX10_quarter ∈ TB ∧ Cond.initialized RX10 ∈ TB ∧ Cond.code yX10_quarter cX10_quarter 4 (some .int) ∈ TB := ⟨tw_2_146, tw_2_147, tw_1_1, tw_2_148⟩
theorem cw_X10_reckonAll : Cond.instanceMethod yX10_reckonAll ∈ TB ∧ Cond.selects RX10 yX10_reckonAll yX10_reckonAll ∈ TB ∧ Cond.initialized RX10 ∈ TB ∧ Cond.code yX10_reckonAll cX10_reckonAll 1 none ∈ TB := ⟨tw_3_16, tw_0_0, tw_1_1, tw_3_17⟩
theorem cw_X10_rule : Cond.instanceMethod yX10_rule ∈ TB ∧ Cond.selects RX10 yX10_rule yX10_rule ∈ TB ∧ Cond.initialized RX10 ∈ TB ∧ Cond.code yX10_rule cX10_rule 2 (some .int) ∈ TB := ⟨tw_3_76, tw_3_77, tw_1_1, tw_3_78⟩
theorem cw_X10_seed : Cond.instanceMethod yX10_seed ∈ TB ∧ Cond.selects RX10 yX10_seed yX10_seed ∈ TB ∧ Cond.initialized RX10 ∈ TB ∧ Cond.code yX10_seed cX10_seed 3 (some .int) ∈ TB := ⟨tw_3_143, tw_3_144, tw_1_1, tw_3_145⟩
theorem cw_X10_sign : Cond.instanceMethod yX10_sign ∈ TB ∧ Cond.selects RX10 yX10_sign yX10_sign ∈ TB ∧ Cond.initialized RX10 ∈ TB ∧ Cond.code yX10_sign cX10_sign 2 (some .int) ∈ TB := ⟨tw_3_84, tw_3_85, tw_1_1, tw_3_86⟩
theorem cw_X10_signAt : Cond.instanceMethod yX10_signAt ∈ TB ∧ Cond.selects RX10 yX10_signAt yX10_signAt ∈ TB ∧ Cond.initialized RX10 ∈ TB ∧ Cond.code yX10_signAt cX10_signAt 2 (some .int) ∈ TB := ⟨tw_2_217, tw_2_218, tw_1_1, tw_2_219⟩
theorem cw_X10_tear : Cond.instanceMethod yX10_tear ∈ TB ∧ Cond.selects RX10 yX10_tear yX10_tear ∈ TB ∧ Cond.initialized RX10 ∈ TB ∧ Cond.code yX10_tear cX10_tear 2 (some .int) ∈ TB := ⟨tw_3_139, tw_3_140, tw_1_1, tw_3_141⟩
theorem cw_X10_told : Cond.instanceMethod yX10_told ∈ TB ∧ Cond.selects RX10 yX10_told yX10_told ∈ TB ∧ Cond.initialized RX10 ∈ TB ∧ Cond.code yX10_told cX10_told 2 (some .int) ∈ TB := ⟨tw_1_234, tw_1_235, tw_1_1, tw_1_236⟩
theorem cw_X10_undo : Cond.instanceMethod yX10_undo ∈ TB ∧ Cond.selects RX10 yX10_undo yX10_undo ∈ TB ∧ Cond.initialized RX10 ∈ TB ∧ Cond.code yX10_undo cX10_undo 2 (some .int) ∈ TB := ⟨tw_3_119, tw_3_120, tw_1_1, tw_3_121⟩
theorem cw_X10_wipe : Cond.instanceMethod yX10_wipe ∈ TB ∧ Cond.selects RX10 yX10_wipe yX10_wipe ∈ TB ∧ Cond.initialized RX10 ∈ TB ∧ Cond.code yX10_wipe cX10_wipe 2 (some .int) ∈ TB := ⟨tw_3_92, tw_3_93, tw_1_1, tw_3_94⟩
theorem cw_X10_would : Cond.instanceMethod yX10_would ∈ TB ∧ Cond.selects RX10 yX10_would yX10_would ∈ TB ∧ Cond.initialized RX10 ∈ TB ∧ Cond.code yX10_would cX10_would 3 (some .int) ∈ TB := ⟨tw_2_172, tw_2_173, tw_1_1, tw_2_174⟩
theorem cw_X10_write : Cond.instanceMethod yX10_write ∈ TB ∧ Cond.selects RX10 yX10_write yX10_write ∈ TB ∧ Cond.initialized RX10 ∈ TB ∧ Cond.code yX10_write cX10_write 4 (some .int) ∈ TB := ⟨tw_3_131, tw_3_132, tw_1_1, tw_3_133⟩
theorem cw_X11_atLeast : Cond.instanceMethod yX11_atLeast ∈ TB ∧ Cond.selects RX11 yX11_atLeast yX11_atLeast ∈ TB ∧ Cond.initialized RX11 ∈ TB ∧ Cond.code yX11_atLeast cX11_atLeast 4 none ∈ TB := ⟨tw_4_55, tw_0_16, tw_1_13, tw_4_56⟩
theorem cw_X11_born : Cond.instanceMethod yX11_born ∈ TB ∧ Cond.selects RX11 yX11_born yX11_born ∈ TB ∧ Cond.initialized RX11 ∈ TB ∧ Cond.code yX11_born cX11_born 4 (some .int) ∈ TB := ⟨tw_4_150, tw_4_151, tw_1_13, tw_4_152⟩
theorem cw_X11_bounds : Cond.instanceMethod yX11_bounds ∈ TB ∧ Cond.selects RX11 yX11_bounds yX11_bounds ∈ TB ∧ Cond.initialized RX11 ∈ TB ∧ Cond.code yX11_bounds cX11_bounds 5 (some .int) ∈ TB := ⟨tw_4_155, tw_0_31, tw_1_13, tw_4_156⟩
theorem cw_X11_children : Cond.instanceMethod yX11_children ∈ TB ∧ Cond.selects RX11 yX11_children yX11_children ∈ TB ∧ Cond.initialized RX11 ∈ TB ∧ Cond.code yX11_children cX11_children 4 (some .int) ∈ TB := ⟨tw_4_93, tw_0_24, tw_1_13, tw_4_94⟩
theorem cw_X11_coats : Cond.instanceMethod yX11_coats ∈ TB ∧ Cond.selects RX11 yX11_coats yX11_coats ∈ TB ∧ Cond.initialized RX11 ∈ TB ∧ Cond.code yX11_coats cX11_coats 3 (some .int) ∈ TB := ⟨tw_4_15, tw_0_6, tw_1_13, tw_4_16⟩
theorem cw_X11_comes : Cond.instanceMethod yX11_comes ∈ TB ∧ Cond.selects RX11 yX11_comes yX11_comes ∈ TB ∧ Cond.initialized RX11 ∈ TB ∧ Cond.code yX11_comes cX11_comes 6 none ∈ TB := ⟨tw_4_147, tw_0_30, tw_1_13, tw_4_148⟩
theorem cw_X11_copy : Cond.instanceMethod yX11_copy ∈ TB ∧ Cond.selects RX11 yX11_copy yX11_copy ∈ TB ∧ Cond.initialized RX11 ∈ TB ∧ Cond.code yX11_copy cX11_copy 4 none ∈ TB := ⟨tw_4_143, tw_0_29, tw_1_13, tw_4_144⟩
theorem cw_X11_dated : Cond.instanceMethod yX11_dated ∈ TB ∧ Cond.selects RX11 yX11_dated yX11_dated ∈ TB ∧ Cond.initialized RX11 ∈ TB ∧ Cond.code yX11_dated cX11_dated 6 (some .int) ∈ TB := ⟨tw_4_123, tw_4_124, tw_1_13, tw_4_125⟩
theorem cw_X11_died : Cond.instanceMethod yX11_died ∈ TB ∧ Cond.selects RX11 yX11_died yX11_died ∈ TB ∧ Cond.initialized RX11 ∈ TB ∧ Cond.code yX11_died cX11_died 4 (some .int) ∈ TB := ⟨tw_4_158, tw_4_159, tw_1_13, tw_4_160⟩
theorem cw_X11_draw : Cond.instanceMethod yX11_draw ∈ TB ∧ Cond.selects RX11 yX11_draw yX11_draw ∈ TB ∧ Cond.initialized RX11 ∈ TB ∧ Cond.code yX11_draw cX11_draw 2 (some .int) ∈ TB := ⟨tw_4_182, tw_0_32, tw_1_13, tw_4_183⟩
theorem cw_X11_drift : Cond.instanceMethod yX11_drift ∈ TB ∧ Cond.selects RX11 yX11_drift yX11_drift ∈ TB ∧ Cond.initialized RX11 ∈ TB ∧ Cond.code yX11_drift cX11_drift 7 (some .int) ∈ TB := ⟨tw_4_176, tw_4_177, tw_1_13, tw_4_178⟩
theorem cw_X11_goBack : Cond.instanceMethod yX11_goBack ∈ TB ∧ Cond.selects RX11 yX11_goBack yX11_goBack ∈ TB ∧ Cond.initialized RX11 ∈ TB ∧ Cond.code yX11_goBack cX11_goBack 2 (some .int) ∈ TB := ⟨tw_4_210, tw_4_211, tw_1_13, tw_4_212⟩
theorem cw_X11_heirs : Cond.instanceMethod yX11_heirs ∈ TB ∧ Cond.selects RX11 yX11_heirs yX11_heirs ∈ TB ∧ Cond.initialized RX11 ∈ TB ∧ Cond.code yX11_heirs cX11_heirs 3 (some .int) ∈ TB := ⟨tw_3_236, tw_0_2, tw_1_13, tw_3_237⟩
theorem cw_X11_in : Cond.static yX11_in ∈ TB ∧ Cond.initialized yX11_in.cls ∈ TB ∧ Cond.code yX11_in cX11_in 6 (some .boolean) ∈ TB := ⟨tw_4_11, tw_1_13, tw_4_12⟩
theorem cw_X11_isAll : Cond.instanceMethod yX11_isAll ∈ TB ∧ Cond.selects RX11 yX11_isAll yX11_isAll ∈ TB ∧ Cond.initialized RX11 ∈ TB ∧ Cond.code yX11_isAll cX11_isAll 4 (some .boolean) ∈ TB := ⟨tw_4_63, tw_0_18, tw_1_13, tw_4_64⟩
theorem cw_X11_isAs : Cond.instanceMethod yX11_isAs ∈ TB ∧ Cond.selects RX11 yX11_isAs yX11_isAs ∈ TB ∧ Cond.initialized RX11 ∈ TB ∧ Cond.code yX11_isAs cX11_isAs 3 (some .boolean) ∈ TB := ⟨tw_4_67, tw_0_19, tw_1_13, tw_4_68⟩
theorem cw_X11_isHeir : Cond.instanceMethod yX11_isHeir ∈ TB ∧ Cond.selects RX11 yX11_isHeir yX11_isHeir ∈ TB ∧ Cond.initialized RX11 ∈ TB ∧ Cond.code yX11_isHeir cX11_isHeir 4 (some .boolean) ∈ TB := ⟨tw_4_0, tw_0_3, tw_1_13, tw_4_1⟩
theorem cw_X11_isMan : Cond.instanceMethod yX11_isMan ∈ TB ∧ Cond.selects RX11 yX11_isMan yX11_isMan ∈ TB ∧ Cond.initialized RX11 ∈ TB ∧ Cond.code yX11_isMan cX11_isMan 2 (some .boolean) ∈ TB := ⟨tw_4_119, tw_0_27, tw_1_13, tw_4_120⟩
theorem cw_X11_isOne : Cond.instanceMethod yX11_isOne ∈ TB ∧ Cond.selects RX11 yX11_isOne yX11_isOne ∈ TB ∧ Cond.initialized RX11 ∈ TB ∧ Cond.code yX11_isOne cX11_isOne 2 (some .boolean) ∈ TB := ⟨tw_4_8, tw_0_5, tw_1_13, tw_4_9⟩
theorem cw_X11_isSame : Cond.instanceMethod yX11_isSame ∈ TB ∧ Cond.selects RX11 yX11_isSame yX11_isSame ∈ TB ∧ Cond.initialized RX11 ∈ TB ∧ Cond.code yX11_isSame cX11_isSame 5 (some .boolean) ∈ TB := ⟨tw_4_39, tw_0_12, tw_1_13, tw_4_40⟩
theorem cw_X11_isSome : Cond.instanceMethod yX11_isSome ∈ TB ∧ Cond.selects RX11 yX11_isSome yX11_isSome ∈ TB ∧ Cond.initialized RX11 ∈ TB ∧ Cond.code yX11_isSome cX11_isSome 4 (some .boolean) ∈ TB := ⟨tw_4_71, tw_0_20, tw_1_13, tw_4_72⟩
theorem cw_X11_isSpoiled : Cond.instanceMethod yX11_isSpoiled ∈ TB ∧ Cond.selects RX11 yX11_isSpoiled yX11_isSpoiled ∈ TB ∧ Cond.initialized RX11 ∈ TB ∧ Cond.code yX11_isSpoiled cX11_isSpoiled 3 (some .boolean) ∈ TB := ⟨tw_4_47, tw_0_14, tw_1_13, tw_4_48⟩
theorem cw_X11_isWoman : Cond.instanceMethod yX11_isWoman ∈ TB ∧ Cond.selects RX11 yX11_isWoman yX11_isWoman ∈ TB ∧ Cond.initialized RX11 ∈ TB ∧ Cond.code yX11_isWoman cX11_isWoman 2 (some .boolean) ∈ TB := ⟨tw_4_4, tw_0_4, tw_1_13, tw_4_5⟩
theorem cw_X11_keep : Cond.instanceMethod yX11_keep ∈ TB ∧ Cond.selects RX11 yX11_keep yX11_keep ∈ TB ∧ Cond.initialized RX11 ∈ TB ∧ Cond.code yX11_keep cX11_keep 2 (some .int) ∈ TB := ⟨tw_4_206, tw_4_207, tw_1_13, tw_4_208⟩
theorem cw_X11_kin : Cond.instanceMethod yX11_kin ∈ TB ∧ Cond.selects RX11 yX11_kin yX11_kin ∈ TB ∧ Cond.initialized RX11 ∈ TB ∧ Cond.code yX11_kin cX11_kin 9 (some .int) ∈ TB := ⟨tw_4_106, tw_4_107, tw_1_13, tw_4_108⟩
theorem cw_X11_lays : Cond.instanceMethod yX11_lays ∈ TB ∧ Cond.selects RX11 yX11_lays yX11_lays ∈ TB ∧ Cond.initialized RX11 ∈ TB ∧ Cond.code yX11_lays cX11_lays 2 none ∈ TB := ⟨tw_4_19, tw_0_7, tw_1_13, tw_4_20⟩
theorem cw_X11_laysOne : Cond.instanceMethod yX11_laysOne ∈ TB ∧ Cond.selects RX11 yX11_laysOne yX11_laysOne ∈ TB ∧ Cond.initialized RX11 ∈ TB ∧ Cond.code yX11_laysOne cX11_laysOne 6 none ∈ TB := ⟨tw_4_23, tw_0_8, tw_1_13, tw_4_24⟩
theorem cw_X11_like : Cond.instanceMethod yX11_like ∈ TB ∧ Cond.selects RX11 yX11_like yX11_like ∈ TB ∧ Cond.initialized RX11 ∈ TB ∧ Cond.code yX11_like cX11_like 7 (some .int) ∈ TB := ⟨tw_4_79, tw_0_22, tw_1_13, tw_4_80⟩
theorem cw_X11_likely : Cond.instanceMethod yX11_likely ∈ TB ∧ Cond.selects RX11 yX11_likely yX11_likely ∈ TB ∧ Cond.initialized RX11 ∈ TB ∧ Cond.code yX11_likely cX11_likely 5 (some .int) ∈ TB := ⟨tw_4_75, tw_0_21, tw_1_13, tw_4_76⟩
theorem cw_X11_meant : Cond.instanceMethod yX11_meant ∈ TB ∧ Cond.selects RX11 yX11_meant yX11_meant ∈ TB ∧ Cond.initialized RX11 ∈ TB ∧ Cond.code yX11_meant cX11_meant 4 (some .int) ∈ TB := ⟨tw_4_59, tw_0_17, tw_1_13, tw_4_60⟩
theorem cw_X11_minds : Cond.instanceMethod yX11_minds ∈ TB ∧ Cond.selects RX11 yX11_minds yX11_minds ∈ TB ∧ Cond.initialized RX11 ∈ TB ∧ Cond.code yX11_minds cX11_minds 2 none ∈ TB := ⟨tw_4_139, tw_0_28, tw_1_13, tw_4_140⟩
theorem cw_X11_narrowed : Cond.instanceMethod yX11_narrowed ∈ TB ∧ Cond.selects RX11 yX11_narrowed yX11_narrowed ∈ TB ∧ Cond.initialized RX11 ∈ TB ∧ Cond.code yX11_narrowed cX11_narrowed 4 (some .int) ∈ TB := ⟨tw_4_99, tw_0_25, tw_1_13, tw_4_100⟩
theorem cw_X11_narrows : Cond.instanceMethod yX11_narrows ∈ TB ∧ Cond.selects RX11 yX11_narrows yX11_narrows ∈ TB ∧ Cond.initialized RX11 ∈ TB ∧ Cond.code yX11_narrows cX11_narrows 2 (some .boolean) ∈ TB := ⟨tw_4_43, tw_0_13, tw_1_13, tw_4_44⟩
theorem cw_X11_narrowsOne : Cond.instanceMethod yX11_narrowsOne ∈ TB ∧ Cond.selects RX11 yX11_narrowsOne yX11_narrowsOne ∈ TB ∧ Cond.initialized RX11 ∈ TB ∧ Cond.code yX11_narrowsOne cX11_narrowsOne 5 none ∈ TB := ⟨tw_4_51, tw_0_15, tw_1_13, tw_4_52⟩
theorem cw_X11_person : Cond.instanceMethod yX11_person ∈ TB ∧ Cond.selects RX11 yX11_person yX11_person ∈ TB ∧ Cond.initialized RX11 ∈ TB ∧ Cond.code yX11_person cX11_person 3 (some .int) ∈ TB := ⟨tw_4_87, tw_4_88, tw_1_13, tw_4_89⟩
theorem cw_X11_put : Cond.instanceMethod yX11_put ∈ TB ∧ Cond.selects RX11 yX11_put yX11_put ∈ TB ∧ Cond.initialized RX11 ∈ TB ∧ Cond.code yX11_put cX11_put 5 (some .int) ∈ TB := ⟨tw_4_132, tw_4_133, tw_1_13, tw_4_134⟩
theorem cw_X11_quarter : Cond.instanceMethod yX11_quarter ∈ TB ∧ Cond.selects RX11 yX11_quarter yX11_quarter ∈ TB ∧ Cond.initialized RX11 ∈ TB ∧ Cond.code yX11_quarter cX11_quarter 4 (some .int) ∈ TB := ⟨tw_4_102, tw_4_103, tw_1_13, tw_4_104⟩
theorem cw_X11_rule : Cond.instanceMethod yX11_rule ∈ TB ∧ Cond.selects RX11 yX11_rule yX11_rule ∈ TB ∧ Cond.initialized RX11 ∈ TB ∧ Cond.code yX11_rule cX11_rule 2 (some .int) ∈ TB := ⟨tw_4_162, tw_4_163, tw_1_13, tw_4_164⟩
theorem cw_X11_same : Cond.instanceMethod yX11_same ∈ TB ∧ Cond.selects RX11 yX11_same yX11_same ∈ TB ∧ Cond.initialized RX11 ∈ TB ∧ Cond.code yX11_same cX11_same 4 (some .int) ∈ TB := ⟨tw_4_35, tw_0_11, tw_1_13, tw_4_36⟩
theorem cw_X11_seed : Cond.instanceMethod yX11_seed ∈ TB ∧ Cond.selects RX11 yX11_seed yX11_seed ∈ TB ∧ Cond.initialized RX11 ∈ TB ∧ Cond.code yX11_seed cX11_seed 3 (some .int) ∈ TB := ⟨tw_4_202, tw_4_203, tw_1_13, tw_4_204⟩
theorem cw_X11_sign : Cond.instanceMethod yX11_sign ∈ TB ∧ Cond.selects RX11 yX11_sign yX11_sign ∈ TB ∧ Cond.initialized RX11 ∈ TB ∧ Cond.code yX11_sign cX11_sign 2 (some .int) ∈ TB := ⟨tw_4_167, tw_4_168, tw_1_13, tw_4_169⟩
theorem cw_X11_signAt : Cond.instanceMethod yX11_signAt ∈ TB ∧ Cond.selects RX11 yX11_signAt yX11_signAt ∈ TB ∧ Cond.initialized RX11 ∈ TB ∧ Cond.code yX11_signAt cX11_signAt 2 (some .int) ∈ TB := ⟨tw_4_128, tw_4_129, tw_1_13, tw_4_130⟩
theorem cw_X11_steps : Cond.instanceMethod yX11_steps ∈ TB ∧ Cond.selects RX11 yX11_steps yX11_steps ∈ TB ∧ Cond.initialized RX11 ∈ TB ∧ Cond.code yX11_steps cX11_steps 7 none ∈ TB := ⟨tw_4_111, tw_0_26, tw_1_13, tw_4_112⟩
theorem cw_X11_takes : Cond.instanceMethod yX11_takes ∈ TB ∧ Cond.selects RX11 yX11_takes yX11_takes ∈ TB ∧ Cond.initialized RX11 ∈ TB ∧ Cond.code yX11_takes cX11_takes 6 none ∈ TB := ⟨tw_4_27, tw_0_9, tw_1_13, tw_4_28⟩
theorem cw_X11_takesOf : Cond.instanceMethod yX11_takesOf ∈ TB ∧ Cond.selects RX11 yX11_takesOf yX11_takesOf ∈ TB ∧ Cond.initialized RX11 ∈ TB ∧ Cond.code yX11_takesOf cX11_takesOf 5 none ∈ TB := ⟨tw_4_31, tw_0_10, tw_1_13, tw_4_32⟩
theorem cw_X11_tear : Cond.instanceMethod yX11_tear ∈ TB ∧ Cond.selects RX11 yX11_tear yX11_tear ∈ TB ∧ Cond.initialized RX11 ∈ TB ∧ Cond.code yX11_tear cX11_tear 2 (some .int) ∈ TB := ⟨tw_4_198, tw_4_199, tw_1_13, tw_4_200⟩
theorem cw_X11_told : Cond.instanceMethod yX11_told ∈ TB ∧ Cond.selects RX11 yX11_told yX11_told ∈ TB ∧ Cond.initialized RX11 ∈ TB ∧ Cond.code yX11_told cX11_told 2 (some .int) ∈ TB := ⟨tw_3_231, tw_3_232, tw_1_13, tw_3_233⟩
theorem cw_X11_undo : Cond.instanceMethod yX11_undo ∈ TB ∧ Cond.selects RX11 yX11_undo yX11_undo ∈ TB ∧ Cond.initialized RX11 ∈ TB ∧ Cond.code yX11_undo cX11_undo 2 (some .int) ∈ TB := ⟨tw_4_189, tw_4_190, tw_1_13, tw_4_191⟩
theorem cw_X11_wipe : Cond.instanceMethod yX11_wipe ∈ TB ∧ Cond.selects RX11 yX11_wipe yX11_wipe ∈ TB ∧ Cond.initialized RX11 ∈ TB ∧ Cond.code yX11_wipe cX11_wipe 2 (some .int) ∈ TB := ⟨tw_4_172, tw_4_173, tw_1_13, tw_4_174⟩
theorem cw_X11_would : Cond.instanceMethod yX11_would ∈ TB ∧ Cond.selects RX11 yX11_would yX11_would ∈ TB ∧ Cond.initialized RX11 ∈ TB ∧ Cond.code yX11_would cX11_would 3 (some .int) ∈ TB := ⟨tw_4_114, tw_4_115, tw_1_13, tw_4_116⟩
theorem cw_X11_write : Cond.instanceMethod yX11_write ∈ TB ∧ Cond.selects RX11 yX11_write yX11_write ∈ TB ∧ Cond.initialized RX11 ∈ TB ∧ Cond.code yX11_write cX11_write 4 (some .int) ∈ TB := ⟨tw_4_194, tw_4_195, tw_1_13, tw_4_196⟩
theorem cw_X11_wrong : Cond.instanceMethod yX11_wrong ∈ TB ∧ Cond.selects RX11 yX11_wrong yX11_wrong ∈ TB ∧ Cond.initialized RX11 ∈ TB ∧ Cond.code yX11_wrong cX11_wrong 3 (some .int) ∈ TB := ⟨tw_4_83, tw_0_23, tw_1_13, tw_4_84⟩
theorem cw_X1_armsAt : Cond.instanceMethod yX1_armsAt ∈ TB ∧ Cond.selects RX1 yX1_armsAt yX1_armsAt ∈ TB ∧ Cond.initialized RX1 ∈ TB ∧ Cond.code yX1_armsAt cX1_armsAt 3 (some .int) ∈ TB := ⟨tw_2_29, tw_2_30, tw_1_3, tw_2_31⟩
theorem cw_X1_compose : Cond.instanceMethod yX1_compose ∈ TB ∧ Cond.selects RX1 yX1_compose yX1_compose ∈ TB ∧ Cond.initialized RX1 ∈ TB ∧ Cond.code yX1_compose cX1_compose 7 none ∈ TB := ⟨tw_2_189, tw_2_190, tw_1_3, tw_2_191⟩
theorem cw_X1_heirsOf : Cond.static yX1_heirsOf ∈ TB ∧ Cond.initialized yX1_heirsOf.cls ∈ TB ∧ Cond.code yX1_heirsOf cX1_heirsOf 5 (some .int) ∈ TB := ⟨tw_3_24, tw_1_3, tw_3_25⟩
theorem cw_X1_isIn : Cond.static yX1_isIn ∈ TB ∧ Cond.initialized yX1_isIn.cls ∈ TB ∧ Cond.code yX1_isIn cX1_isIn 2 (some .boolean) ∈ TB := ⟨tw_2_14, tw_1_3, tw_2_15⟩
theorem cw_X1_isSame : Cond.instanceMethod yX1_isSame ∈ TB ∧ Cond.selects RX1 yX1_isSame yX1_isSame ∈ TB ∧ Cond.initialized RX1 ∈ TB ∧ Cond.code yX1_isSame cX1_isSame 4 (some .boolean) ∈ TB := ⟨tw_2_21, tw_2_22, tw_1_3, tw_2_23⟩
theorem cw_X1_reckon : Cond.instanceMethod yX1_reckon ∈ TB ∧ Cond.selects RX1 yX1_reckon yX1_reckon ∈ TB ∧ Cond.initialized RX1 ∈ TB ∧ Cond.code yX1_reckon cX1_reckon 3 none ∈ TB := ⟨tw_3_19, tw_3_20, tw_1_3, tw_3_21⟩
theorem cw_X1_sameAs : Cond.instanceMethod yX1_sameAs ∈ TB ∧ Cond.selects RX1 yX1_sameAs yX1_sameAs ∈ TB ∧ Cond.initialized RX1 ∈ TB ∧ Cond.code yX1_sameAs cX1_sameAs 4 (some .int) ∈ TB := ⟨tw_2_17, tw_2_18, tw_1_3, tw_2_19⟩
theorem cw_X1_sizeForChild : Cond.instanceMethod yX1_sizeForChild ∈ TB ∧ Cond.selects RX1 yX1_sizeForChild yX1_sizeForChild ∈ TB ∧ Cond.initialized RX1 ∈ TB ∧ Cond.code yX1_sizeForChild cX1_sizeForChild 4 (some .int) ∈ TB := ⟨tw_2_185, tw_2_186, tw_1_3, tw_2_187⟩
theorem cw_X1_sizeOf : Cond.instanceMethod yX1_sizeOf ∈ TB ∧ Cond.selects RX1 yX1_sizeOf yX1_sizeOf ∈ TB ∧ Cond.initialized RX1 ∈ TB ∧ Cond.code yX1_sizeOf cX1_sizeOf 2 (some .int) ∈ TB := ⟨tw_2_25, tw_2_26, tw_1_3, tw_2_27⟩
theorem cw_X1_take : Cond.instanceMethod yX1_take ∈ TB ∧ Cond.selects RX1 yX1_take yX1_take ∈ TB ∧ Cond.initialized RX1 ∈ TB ∧ Cond.code yX1_take cX1_take 7 none ∈ TB := ⟨tw_2_195, tw_2_196, tw_1_3, tw_2_197⟩
theorem cw_X1_takeFrom : Cond.instanceMethod yX1_takeFrom ∈ TB ∧ Cond.selects RX1 yX1_takeFrom yX1_takeFrom ∈ TB ∧ Cond.initialized RX1 ∈ TB ∧ Cond.code yX1_takeFrom cX1_takeFrom 5 none ∈ TB := ⟨tw_2_200, tw_2_201, tw_1_3, tw_2_202⟩
theorem cw_X1_throughAt : Cond.instanceMethod yX1_throughAt ∈ TB ∧ Cond.selects RX1 yX1_throughAt yX1_throughAt ∈ TB ∧ Cond.initialized RX1 ∈ TB ∧ Cond.code yX1_throughAt cX1_throughAt 3 (some .int) ∈ TB := ⟨tw_2_151, tw_2_152, tw_1_3, tw_2_153⟩
theorem cw_X1_unlikeCoats : Cond.instanceMethod yX1_unlikeCoats ∈ TB ∧ Cond.selects RX1 yX1_unlikeCoats yX1_unlikeCoats ∈ TB ∧ Cond.initialized RX1 ∈ TB ∧ Cond.code yX1_unlikeCoats cX1_unlikeCoats 4 (some .int) ∈ TB := ⟨tw_2_10, tw_2_11, tw_1_3, tw_2_12⟩
theorem cw_X2_addOne : Cond.instanceMethod yX2_addOne ∈ TB ∧ Cond.selects RX2 yX2_addOne yX2_addOne ∈ TB ∧ Cond.initialized RX2 ∈ TB ∧ Cond.code yX2_addOne cX2_addOne 6 none ∈ TB := ⟨tw_3_104, tw_3_105, tw_1_12, tw_3_106⟩
theorem cw_X2_draw : Cond.instanceMethod yX2_draw ∈ TB ∧ Cond.selects RX2 yX2_draw yX2_draw ∈ TB ∧ Cond.initialized RX2 ∈ TB ∧ Cond.code yX2_draw cX2_draw 2 (some .int) ∈ TB := ⟨tw_3_108, tw_3_109, tw_1_12, tw_3_110⟩
theorem cw_X3_isStored : Cond.instanceMethod yX3_isStored ∈ TB ∧ Cond.selects RX3 yX3_isStored yX3_isStored ∈ TB ∧ Cond.initialized RX3 ∈ TB ∧ Cond.code yX3_isStored cX3_isStored 2 (some .boolean) ∈ TB := ⟨tw_3_160, tw_3_161, tw_1_11, tw_3_162⟩
theorem cw_X3_restore : Cond.instanceMethod yX3_restore ∈ TB ∧ Cond.selects RX3 yX3_restore yX3_restore ∈ TB ∧ Cond.initialized RX3 ∈ TB ∧ Cond.code yX3_restore cX3_restore 4 none ∈ TB := ⟨tw_3_164, tw_3_165, tw_1_11, tw_3_166⟩
theorem cw_X3_store : Cond.instanceMethod yX3_store ∈ TB ∧ Cond.selects RX3 yX3_store yX3_store ∈ TB ∧ Cond.initialized RX3 ∈ TB ∧ Cond.code yX3_store cX3_store 4 none ∈ TB := ⟨tw_3_151, tw_3_152, tw_1_11, tw_3_153⟩
theorem cw_X4_countSteps : Cond.static yX4_countSteps ∈ TB ∧ Cond.initialized yX4_countSteps.cls ∈ TB ∧ Cond.code yX4_countSteps cX4_countSteps 4 none ∈ TB := ⟨tw_2_163, tw_1_6, tw_2_164⟩
theorem cw_X4_handOn : Cond.static yX4_handOn ∈ TB ∧ Cond.initialized yX4_handOn.cls ∈ TB ∧ Cond.code yX4_handOn cX4_handOn 3 none ∈ TB := ⟨tw_2_168, tw_1_6, tw_2_169⟩
theorem cw_X4_seek : Cond.instanceMethod yX4_seek ∈ TB ∧ Cond.selects RX4 yX4_seek yX4_seek ∈ TB ∧ Cond.initialized RX4 ∈ TB ∧ Cond.code yX4_seek cX4_seek 6 none ∈ TB := ⟨tw_2_159, tw_2_160, tw_1_6, tw_2_161⟩
theorem cw_X5_remember : Cond.instanceMethod yX5_remember ∈ TB ∧ Cond.selects RX5 yX5_remember yX5_remember ∈ TB ∧ Cond.initialized RX5 ∈ TB ∧ Cond.code yX5_remember cX5_remember 2 none ∈ TB := ⟨tw_2_238, tw_2_239, tw_1_8, tw_3_0⟩
theorem cw_X5_stepBack : Cond.instanceMethod yX5_stepBack ∈ TB ∧ Cond.selects RX5 yX5_stepBack yX5_stepBack ∈ TB ∧ Cond.initialized RX5 ∈ TB ∧ Cond.code yX5_stepBack cX5_stepBack 3 none ∈ TB := ⟨tw_3_123, tw_3_124, tw_1_8, tw_3_125⟩
theorem cw_X6_fetch : Cond.instanceMethod yX6_fetch ∈ TB ∧ Cond.selects RX6 yX6_fetch yX6_fetch ∈ TB ∧ Cond.initialized RX6 ∈ TB ∧ Cond.code yX6_fetch cX6_fetch 3 none ∈ TB := ⟨tw_3_127, tw_3_128, tw_1_9, tw_3_129⟩
theorem cw_X6_lay : Cond.instanceMethod yX6_lay ∈ TB ∧ Cond.selects RX6 yX6_lay yX6_lay ∈ TB ∧ Cond.initialized RX6 ∈ TB ∧ Cond.code yX6_lay cX6_lay 3 none ∈ TB := ⟨tw_3_2, tw_3_3, tw_1_9, tw_3_4⟩
theorem cw_X7_addPerson : Cond.instanceMethod yX7_addPerson ∈ TB ∧ Cond.selects RX7 yX7_addPerson yX7_addPerson ∈ TB ∧ Cond.initialized RX7 ∈ TB ∧ Cond.code yX7_addPerson cX7_addPerson 6 none ∈ TB := ⟨tw_3_10, tw_3_11, tw_1_2, tw_3_12⟩
theorem cw_X7_addSign : Cond.instanceMethod yX7_addSign ∈ TB ∧ Cond.selects RX7 yX7_addSign yX7_addSign ∈ TB ∧ Cond.initialized RX7 ∈ TB ∧ Cond.code yX7_addSign cX7_addSign 2 none ∈ TB := ⟨tw_3_88, tw_3_89, tw_1_2, tw_3_90⟩
theorem cw_X7_childrenOf : Cond.instanceMethod yX7_childrenOf ∈ TB ∧ Cond.selects RX7 yX7_childrenOf yX7_childrenOf ∈ TB ∧ Cond.initialized RX7 ∈ TB ∧ Cond.code yX7_childrenOf cX7_childrenOf 4 (some .int) ∈ TB := ⟨tw_2_102, tw_2_103, tw_1_2, tw_2_104⟩
theorem cw_X7_clearSigns : Cond.instanceMethod yX7_clearSigns ∈ TB ∧ Cond.selects RX7 yX7_clearSigns yX7_clearSigns ∈ TB ∧ Cond.initialized RX7 ∈ TB ∧ Cond.code yX7_clearSigns cX7_clearSigns 1 none ∈ TB := ⟨tw_3_96, tw_3_97, tw_1_2, tw_3_98⟩
theorem cw_X7_fact : Cond.instanceMethod yX7_fact ∈ TB ∧ Cond.selects RX7 yX7_fact yX7_fact ∈ TB ∧ Cond.initialized RX7 ∈ TB ∧ Cond.code yX7_fact cX7_fact 3 (some .int) ∈ TB := ⟨tw_2_94, tw_2_95, tw_1_2, tw_2_96⟩
theorem cw_X7_has : Cond.instanceMethod yX7_has ∈ TB ∧ Cond.selects RX7 yX7_has yX7_has ∈ TB ∧ Cond.initialized RX7 ∈ TB ∧ Cond.code yX7_has cX7_has 2 (some .boolean) ∈ TB := ⟨tw_2_89, tw_2_90, tw_1_2, tw_2_91⟩
theorem cw_X7_hasOrNone : Cond.instanceMethod yX7_hasOrNone ∈ TB ∧ Cond.selects RX7 yX7_hasOrNone yX7_hasOrNone ∈ TB ∧ Cond.initialized RX7 ∈ TB ∧ Cond.code yX7_hasOrNone cX7_hasOrNone 2 (some .boolean) ∈ TB := ⟨tw_2_226, tw_2_227, tw_1_2, tw_2_228⟩
theorem cw_X7_hasRoom : Cond.instanceMethod yX7_hasRoom ∈ TB ∧ Cond.selects RX7 yX7_hasRoom yX7_hasRoom ∈ TB ∧ Cond.initialized RX7 ∈ TB ∧ Cond.code yX7_hasRoom cX7_hasRoom 1 (some .boolean) ∈ TB := ⟨tw_2_233, tw_2_234, tw_1_2, tw_2_235⟩
theorem cw_X7_isMan : Cond.instanceMethod yX7_isMan ∈ TB ∧ Cond.selects RX7 yX7_isMan yX7_isMan ∈ TB ∧ Cond.initialized RX7 ∈ TB ∧ Cond.code yX7_isMan cX7_isMan 2 (some .boolean) ∈ TB := ⟨tw_2_176, tw_2_177, tw_1_2, tw_2_178⟩
theorem cw_X7_isWoman : Cond.instanceMethod yX7_isWoman ∈ TB ∧ Cond.selects RX7 yX7_isWoman yX7_isWoman ∈ TB ∧ Cond.initialized RX7 ∈ TB ∧ Cond.code yX7_isWoman cX7_isWoman 2 (some .boolean) ∈ TB := ⟨tw_2_180, tw_2_181, tw_1_2, tw_2_182⟩
theorem cw_X7_people : Cond.instanceMethod yX7_people ∈ TB ∧ Cond.selects RX7 yX7_people yX7_people ∈ TB ∧ Cond.initialized RX7 ∈ TB ∧ Cond.code yX7_people cX7_people 1 (some .int) ∈ TB := ⟨tw_1_238, tw_1_239, tw_1_2, tw_2_0⟩
theorem cw_X7_ruleNow : Cond.instanceMethod yX7_ruleNow ∈ TB ∧ Cond.selects RX7 yX7_ruleNow yX7_ruleNow ∈ TB ∧ Cond.initialized RX7 ∈ TB ∧ Cond.code yX7_ruleNow cX7_ruleNow 1 (some .int) ∈ TB := ⟨tw_2_2, tw_2_3, tw_1_2, tw_2_4⟩
theorem cw_X7_setBounds : Cond.instanceMethod yX7_setBounds ∈ TB ∧ Cond.selects RX7 yX7_setBounds yX7_setBounds ∈ TB ∧ Cond.initialized RX7 ∈ TB ∧ Cond.code yX7_setBounds cX7_setBounds 6 none ∈ TB := ⟨tw_3_68, tw_3_69, tw_1_2, tw_3_70⟩
theorem cw_X7_setRule : Cond.instanceMethod yX7_setRule ∈ TB ∧ Cond.selects RX7 yX7_setRule yX7_setRule ∈ TB ∧ Cond.initialized RX7 ∈ TB ∧ Cond.code yX7_setRule cX7_setRule 2 none ∈ TB := ⟨tw_3_80, tw_3_81, tw_1_2, tw_3_82⟩
theorem cw_X7_signNumber : Cond.instanceMethod yX7_signNumber ∈ TB ∧ Cond.selects RX7 yX7_signNumber yX7_signNumber ∈ TB ∧ Cond.initialized RX7 ∈ TB ∧ Cond.code yX7_signNumber cX7_signNumber 2 (some .int) ∈ TB := ⟨tw_2_47, tw_2_48, tw_1_2, tw_2_49⟩
theorem cw_X7_signs : Cond.instanceMethod yX7_signs ∈ TB ∧ Cond.selects RX7 yX7_signs yX7_signs ∈ TB ∧ Cond.initialized RX7 ∈ TB ∧ Cond.code yX7_signs cX7_signs 1 (some .int) ∈ TB := ⟨tw_2_6, tw_2_7, tw_1_2, tw_2_8⟩
theorem cw_X8_countOneMore : Cond.instanceMethod yX8_countOneMore ∈ TB ∧ Cond.selects RX8 yX8_countOneMore yX8_countOneMore ∈ TB ∧ Cond.initialized RX8 ∈ TB ∧ Cond.code yX8_countOneMore cX8_countOneMore 8 none ∈ TB := ⟨tw_2_74, tw_2_75, tw_1_5, tw_2_76⟩
theorem cw_X8_fits : Cond.static yX8_fits ∈ TB ∧ Cond.initialized yX8_fits.cls ∈ TB ∧ Cond.code yX8_fits cX8_fits 2 (some .boolean) ∈ TB := ⟨tw_2_53, tw_1_5, tw_2_54⟩
theorem cw_X8_fitsEach : Cond.static yX8_fitsEach ∈ TB ∧ Cond.initialized yX8_fitsEach.cls ∈ TB ∧ Cond.code yX8_fitsEach cX8_fitsEach 4 (some .boolean) ∈ TB := ⟨tw_2_44, tw_1_5, tw_2_45⟩
theorem cw_X8_holdsRest : Cond.static yX8_holdsRest ∈ TB ∧ Cond.initialized yX8_holdsRest.cls ∈ TB ∧ Cond.code yX8_holdsRest cX8_holdsRest 5 (some .boolean) ∈ TB := ⟨tw_2_60, tw_1_5, tw_2_61⟩
theorem cw_X8_like : Cond.instanceMethod yX8_like ∈ TB ∧ Cond.selects RX8 yX8_like yX8_like ∈ TB ∧ Cond.initialized RX8 ∈ TB ∧ Cond.code yX8_like cX8_like 6 (some .int) ∈ TB := ⟨tw_2_67, tw_2_68, tw_1_5, tw_2_69⟩
theorem cw_X8_likely : Cond.instanceMethod yX8_likely ∈ TB ∧ Cond.selects RX8 yX8_likely yX8_likely ∈ TB ∧ Cond.initialized RX8 ∈ TB ∧ Cond.code yX8_likely cX8_likely 8 (some .int) ∈ TB := ⟨tw_2_63, tw_2_64, tw_1_5, tw_2_65⟩
theorem cw_X8_meantByAll : Cond.instanceMethod yX8_meantByAll ∈ TB ∧ Cond.selects RX8 yX8_meantByAll yX8_meantByAll ∈ TB ∧ Cond.initialized RX8 ∈ TB ∧ Cond.code yX8_meantByAll cX8_meantByAll 5 (some .int) ∈ TB := ⟨tw_2_37, tw_2_38, tw_1_5, tw_2_39⟩
theorem cw_X8_meantBySome : Cond.instanceMethod yX8_meantBySome ∈ TB ∧ Cond.selects RX8 yX8_meantBySome yX8_meantBySome ∈ TB ∧ Cond.initialized RX8 ∈ TB ∧ Cond.code yX8_meantBySome cX8_meantBySome 5 (some .int) ∈ TB := ⟨tw_2_56, tw_2_57, tw_1_5, tw_2_58⟩
theorem cw_X9_addGap : Cond.instanceMethod yX9_addGap ∈ TB ∧ Cond.selects RX9 yX9_addGap yX9_addGap ∈ TB ∧ Cond.initialized RX9 ∈ TB ∧ Cond.code yX9_addGap cX9_addGap 4 none ∈ TB := ⟨tw_3_44, tw_3_45, tw_1_4, tw_3_46⟩
theorem cw_X9_birth : Cond.static yX9_birth ∈ TB ∧ Cond.initialized yX9_birth.cls ∈ TB ∧ Cond.code yX9_birth cX9_birth 1 (some .int) ∈ TB := ⟨tw_2_112, tw_1_4, tw_2_113⟩
theorem cw_X9_death : Cond.static yX9_death ∈ TB ∧ Cond.initialized yX9_death.cls ∈ TB ∧ Cond.code yX9_death cX9_death 1 (some .int) ∈ TB := ⟨tw_2_139, tw_1_4, tw_2_140⟩
theorem cw_X9_diedBetween : Cond.instanceMethod yX9_diedBetween ∈ TB ∧ Cond.selects RX9 yX9_diedBetween yX9_diedBetween ∈ TB ∧ Cond.initialized RX9 ∈ TB ∧ Cond.code yX9_diedBetween cX9_diedBetween 6 (some .int) ∈ TB := ⟨tw_2_211, tw_2_212, tw_1_4, tw_2_213⟩
theorem cw_X9_greatestBirth : Cond.instanceMethod yX9_greatestBirth ∈ TB ∧ Cond.selects RX9 yX9_greatestBirth yX9_greatestBirth ∈ TB ∧ Cond.initialized RX9 ∈ TB ∧ Cond.code yX9_greatestBirth cX9_greatestBirth 2 (some .int) ∈ TB := ⟨tw_2_127, tw_2_128, tw_1_4, tw_2_129⟩
theorem cw_X9_greatestDeath : Cond.instanceMethod yX9_greatestDeath ∈ TB ∧ Cond.selects RX9 yX9_greatestDeath yX9_greatestDeath ∈ TB ∧ Cond.initialized RX9 ∈ TB ∧ Cond.code yX9_greatestDeath cX9_greatestDeath 2 (some .int) ∈ TB := ⟨tw_2_142, tw_2_143, tw_1_4, tw_2_144⟩
theorem cw_X9_greatestOf : Cond.instanceMethod yX9_greatestOf ∈ TB ∧ Cond.selects RX9 yX9_greatestOf yX9_greatestOf ∈ TB ∧ Cond.initialized RX9 ∈ TB ∧ Cond.code yX9_greatestOf cX9_greatestOf 2 (some .int) ∈ TB := ⟨tw_2_131, tw_2_132, tw_1_4, tw_2_133⟩
theorem cw_X9_isCrossed : Cond.instanceMethod yX9_isCrossed ∈ TB ∧ Cond.selects RX9 yX9_isCrossed yX9_isCrossed ∈ TB ∧ Cond.initialized RX9 ∈ TB ∧ Cond.code yX9_isCrossed cX9_isCrossed 2 (some .boolean) ∈ TB := ⟨tw_3_52, tw_3_53, tw_1_4, tw_3_54⟩
theorem cw_X9_isKnown : Cond.instanceMethod yX9_isKnown ∈ TB ∧ Cond.selects RX9 yX9_isKnown yX9_isKnown ∈ TB ∧ Cond.initialized RX9 ∈ TB ∧ Cond.code yX9_isKnown cX9_isKnown 2 (some .boolean) ∈ TB := ⟨tw_2_119, tw_2_120, tw_1_4, tw_2_121⟩
theorem cw_X9_isMoment : Cond.instanceMethod yX9_isMoment ∈ TB ∧ Cond.selects RX9 yX9_isMoment yX9_isMoment ∈ TB ∧ Cond.initialized RX9 ∈ TB ∧ Cond.code yX9_isMoment cX9_isMoment 2 (some .boolean) ∈ TB := ⟨tw_2_123, tw_2_124, tw_1_4, tw_2_125⟩
theorem cw_X9_layBounds : Cond.instanceMethod yX9_layBounds ∈ TB ∧ Cond.selects RX9 yX9_layBounds yX9_layBounds ∈ TB ∧ Cond.initialized RX9 ∈ TB ∧ Cond.code yX9_layBounds cX9_layBounds 3 none ∈ TB := ⟨tw_3_35, tw_3_36, tw_1_4, tw_3_37⟩
theorem cw_X9_layGaps : Cond.instanceMethod yX9_layGaps ∈ TB ∧ Cond.selects RX9 yX9_layGaps yX9_layGaps ∈ TB ∧ Cond.initialized RX9 ∈ TB ∧ Cond.code yX9_layGaps cX9_layGaps 5 none ∈ TB := ⟨tw_3_40, tw_3_41, tw_1_4, tw_3_42⟩
theorem cw_X9_leastBirth : Cond.instanceMethod yX9_leastBirth ∈ TB ∧ Cond.selects RX9 yX9_leastBirth yX9_leastBirth ∈ TB ∧ Cond.initialized RX9 ∈ TB ∧ Cond.code yX9_leastBirth cX9_leastBirth 2 (some .int) ∈ TB := ⟨tw_2_108, tw_2_109, tw_1_4, tw_2_110⟩
theorem cw_X9_leastDeath : Cond.instanceMethod yX9_leastDeath ∈ TB ∧ Cond.selects RX9 yX9_leastDeath yX9_leastDeath ∈ TB ∧ Cond.initialized RX9 ∈ TB ∧ Cond.code yX9_leastDeath cX9_leastDeath 2 (some .int) ∈ TB := ⟨tw_2_135, tw_2_136, tw_1_4, tw_2_137⟩
theorem cw_X9_leastOf : Cond.instanceMethod yX9_leastOf ∈ TB ∧ Cond.selects RX9 yX9_leastOf yX9_leastOf ∈ TB ∧ Cond.initialized RX9 ∈ TB ∧ Cond.code yX9_leastOf cX9_leastOf 2 (some .int) ∈ TB := ⟨tw_2_115, tw_2_116, tw_1_4, tw_2_117⟩
theorem cw_X9_lowerGreatest : Cond.instanceMethod yX9_lowerGreatest ∈ TB ∧ Cond.selects RX9 yX9_lowerGreatest yX9_lowerGreatest ∈ TB ∧ Cond.initialized RX9 ∈ TB ∧ Cond.code yX9_lowerGreatest cX9_lowerGreatest 5 none ∈ TB := ⟨tw_3_56, tw_3_57, tw_1_4, tw_3_58⟩
theorem cw_X9_raiseLeast : Cond.instanceMethod yX9_raiseLeast ∈ TB ∧ Cond.selects RX9 yX9_raiseLeast yX9_raiseLeast ∈ TB ∧ Cond.initialized RX9 ∈ TB ∧ Cond.code yX9_raiseLeast cX9_raiseLeast 5 (some .boolean) ∈ TB := ⟨tw_3_48, tw_3_49, tw_1_4, tw_3_50⟩
theorem cw_X9_reckon : Cond.instanceMethod yX9_reckon ∈ TB ∧ Cond.selects RX9 yX9_reckon yX9_reckon ∈ TB ∧ Cond.initialized RX9 ∈ TB ∧ Cond.code yX9_reckon cX9_reckon 2 none ∈ TB := ⟨tw_3_29, tw_3_30, tw_1_4, tw_3_31⟩
theorem cw_X9_spoiledBit : Cond.instanceMethod yX9_spoiledBit ∈ TB ∧ Cond.selects RX9 yX9_spoiledBit yX9_spoiledBit ∈ TB ∧ Cond.initialized RX9 ∈ TB ∧ Cond.code yX9_spoiledBit cX9_spoiledBit 1 (some .int) ∈ TB := ⟨tw_2_33, tw_2_34, tw_1_4, tw_2_35⟩
theorem inX0 : ∀ w ∈ u_ws RX0 TX0 4, w ∈ TB := by
  intro w hw
  obtain ⟨k, hk, rfl⟩ := List.mem_map.mp hw
  have hk := List.mem_range.mp hk
  match k, hk with
  | 0, _ => exact tw_1_132
  | 1, _ => exact tw_1_134
  | 2, _ => exact tw_1_136
  | 3, _ => exact tw_1_138
  | k + 4, h => exact absurd h (by omega)
theorem inX1 : ∀ w ∈ u_ws RX1 TX1 5, w ∈ TB := by
  intro w hw
  obtain ⟨k, hk, rfl⟩ := List.mem_map.mp hw
  have hk := List.mem_range.mp hk
  match k, hk with
  | 0, _ => exact tw_1_48
  | 1, _ => exact tw_1_50
  | 2, _ => exact tw_1_52
  | 3, _ => exact tw_1_54
  | 4, _ => exact tw_1_56
  | k + 5, h => exact absurd h (by omega)
theorem inX10 : ∀ w ∈ u_ws RX10 TX10 9, w ∈ TB := by
  intro w hw
  obtain ⟨k, hk, rfl⟩ := List.mem_map.mp hw
  have hk := List.mem_range.mp hk
  match k, hk with
  | 0, _ => exact tw_1_214
  | 1, _ => exact tw_1_216
  | 2, _ => exact tw_1_218
  | 3, _ => exact tw_1_220
  | 4, _ => exact tw_1_222
  | 5, _ => exact tw_1_224
  | 6, _ => exact tw_1_226
  | 7, _ => exact tw_1_228
  | 8, _ => exact tw_1_230
  | k + 9, h => exact absurd h (by omega)
theorem inX11 : ∀ w ∈ u_ws RX11 TX11 18, w ∈ TB := by
  intro w hw
  obtain ⟨k, hk, rfl⟩ := List.mem_map.mp hw
  have hk := List.mem_range.mp hk
  match k, hk with
  | 0, _ => exact tw_3_193
  | 1, _ => exact tw_3_195
  | 2, _ => exact tw_3_197
  | 3, _ => exact tw_3_199
  | 4, _ => exact tw_3_201
  | 5, _ => exact tw_3_203
  | 6, _ => exact tw_3_205
  | 7, _ => exact tw_3_207
  | 8, _ => exact tw_3_209
  | 9, _ => exact tw_3_211
  | 10, _ => exact tw_3_213
  | 11, _ => exact tw_3_215
  | 12, _ => exact tw_3_217
  | 13, _ => exact tw_3_219
  | 14, _ => exact tw_3_221
  | 15, _ => exact tw_3_223
  | 16, _ => exact tw_3_225
  | 17, _ => exact tw_3_227
  | k + 18, h => exact absurd h (by omega)
theorem inX2 : ∀ w ∈ u_ws RX2 TX2 1, w ∈ TB := by
  intro w hw
  obtain ⟨k, hk, rfl⟩ := List.mem_map.mp hw
  have hk := List.mem_range.mp hk
  match k, hk with
  | 0, _ => exact tw_1_202
  | k + 1, h => exact absurd h (by omega)
theorem inX3 : ∀ w ∈ u_ws RX3 TX3 3, w ∈ TB := by
  intro w hw
  obtain ⟨k, hk, rfl⟩ := List.mem_map.mp hw
  have hk := List.mem_range.mp hk
  match k, hk with
  | 0, _ => exact tw_1_185
  | 1, _ => exact tw_1_187
  | 2, _ => exact tw_1_189
  | k + 3, h => exact absurd h (by omega)
theorem inX4 : ∀ w ∈ u_ws RX4 TX4 4, w ∈ TB := by
  intro w hw
  obtain ⟨k, hk, rfl⟩ := List.mem_map.mp hw
  have hk := List.mem_range.mp hk
  match k, hk with
  | 0, _ => exact tw_1_112
  | 1, _ => exact tw_1_114
  | 2, _ => exact tw_1_116
  | 3, _ => exact tw_1_118
  | k + 4, h => exact absurd h (by omega)
theorem inX5 : ∀ w ∈ u_ws RX5 TX5 3, w ∈ TB := by
  intro w hw
  obtain ⟨k, hk, rfl⟩ := List.mem_map.mp hw
  have hk := List.mem_range.mp hk
  match k, hk with
  | 0, _ => exact tw_1_167
  | 1, _ => exact tw_1_169
  | 2, _ => exact tw_1_171
  | k + 3, h => exact absurd h (by omega)
theorem inX6 : ∀ w ∈ u_ws RX6 TX6 2, w ∈ TB := by
  intro w hw
  obtain ⟨k, hk, rfl⟩ := List.mem_map.mp hw
  have hk := List.mem_range.mp hk
  match k, hk with
  | 0, _ => exact tw_1_158
  | 1, _ => exact tw_1_160
  | k + 2, h => exact absurd h (by omega)
theorem inX7 : ∀ w ∈ u_ws RX7 TX7 1, w ∈ TB := by
  intro w hw
  obtain ⟨k, hk, rfl⟩ := List.mem_map.mp hw
  have hk := List.mem_range.mp hk
  match k, hk with
  | 0, _ => exact tw_1_31
  | k + 1, h => exact absurd h (by omega)
theorem inX8 : ∀ w ∈ u_ws RX8 TX8 1, w ∈ TB := by
  intro w hw
  obtain ⟨k, hk, rfl⟩ := List.mem_map.mp hw
  have hk := List.mem_range.mp hk
  match k, hk with
  | 0, _ => exact tw_1_97
  | k + 1, h => exact absurd h (by omega)
theorem inX9 : ∀ w ∈ u_ws RX9 TX9 8, w ∈ TB := by
  intro w hw
  obtain ⟨k, hk, rfl⟩ := List.mem_map.mp hw
  have hk := List.mem_range.mp hk
  match k, hk with
  | 0, _ => exact tw_1_73
  | 1, _ => exact tw_1_75
  | 2, _ => exact tw_1_77
  | 3, _ => exact tw_1_79
  | 4, _ => exact tw_1_81
  | 5, _ => exact tw_1_83
  | 6, _ => exact tw_1_85
  | 7, _ => exact tw_1_87
  | k + 8, h => exact absurd h (by omega)
