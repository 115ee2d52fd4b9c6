/-! ===== the constructors, by the kit's rows (by program) ===== -/
def wI : List Cond := [Cond.laysFinal RX0 "ToldScenes$Cast" "from" "[I", Cond.laysFinal RX0 "ToldScenes$Cast" "length" "[I", Cond.laysFinal RX0 "ToldScenes$Cast" "gives" "[I", Cond.laysFinal RX0 "ToldScenes$Cast" "needs" "[I", Cond.lays RX0 "ToldScenes$Cast" "count" "I", Cond.laysFinal RX3 "ToldScenes$Look" "turnOf" "[I", Cond.laysFinal RX3 "ToldScenes$Look" "depthOf" "[I", Cond.laysFinal RX3 "ToldScenes$Look" "tellerOf" "[I", Cond.laysFinal RX3 "ToldScenes$Look" "sideOf" "[I", Cond.lays RX3 "ToldScenes$Look" "firstWrong" "I", Cond.lays RX3 "ToldScenes$Look" "reason" "I", Cond.lays RX3 "ToldScenes$Look" "opened" "I", Cond.lays RX3 "ToldScenes$Look" "mostOpen" "I", Cond.lays RX3 "ToldScenes$Look" "toldCount" "I", Cond.lays RX3 "ToldScenes$Look" "given" "I", Cond.lays RX3 "ToldScenes$Look" "jumpSum" "J", Cond.lays RX3 "ToldScenes$Look" "openNow" "I", Cond.lays RX3 "ToldScenes$Look" "lastNow" "I", Cond.lays RX3 "ToldScenes$Look" "tellerNow" "I", Cond.lays RX3 "ToldScenes$Look" "sideNow" "I", Cond.laysFinal RX2 "ToldScenes$LeastOrder" "rest" "[J", Cond.laysFinal RX2 "ToldScenes$LeastOrder" "scenes" "[I", Cond.lays RX2 "ToldScenes$LeastOrder" "count" "I", Cond.lays RX2 "ToldScenes$LeastOrder" "jumpSum" "J", Cond.lays RX2 "ToldScenes$LeastOrder" "stands" "Z", Cond.laysFinal RX1 "ToldScenes$LeastFrames" "row" "[I", Cond.lays RX1 "ToldScenes$LeastFrames" "rowCount" "I", Cond.laysFinal RX1 "ToldScenes$LeastFrames" "tellerOf" "[I", Cond.laysFinal RX1 "ToldScenes$LeastFrames" "sideOf" "[I", Cond.laysFinal RX1 "ToldScenes$LeastFrames" "trial" "[I", Cond.lays RX1 "ToldScenes$LeastFrames" "feeOfOne" "I", Cond.lays RX1 "ToldScenes$LeastFrames" "frameCount" "I", Cond.laysFinal RX1 "ToldScenes$LeastFrames" "signs" "[I", Cond.lays RX1 "ToldScenes$LeastFrames" "count" "I", Cond.lays RX1 "ToldScenes$LeastFrames" "jumpSum" "J", Cond.lays RX1 "ToldScenes$LeastFrames" "stands" "Z", Cond.laysFinal RX4 "ToldScenes" "cast" "LToldScenes$Cast;", Cond.laysFinal RX4 "ToldScenes" "signs" "[I", Cond.lays RX4 "ToldScenes" "signCount" "I", Cond.lays RX4 "ToldScenes" "feeNow" "I", Cond.lays RX4 "ToldScenes" "lookCount" "I", Cond.laysFinal RX4 "ToldScenes" "look" "LToldScenes$Look;", Cond.laysFinal RX4 "ToldScenes" "row" "[I", Cond.laysFinal RX4 "ToldScenes" "leastOrder" "LToldScenes$LeastOrder;", Cond.laysFinal RX4 "ToldScenes" "leastFrames" "LToldScenes$LeastFrames;", Cond.lays RX5 "ToldScenesModel" "scenes" "I", Cond.laysFinal RX5 "ToldScenesModel" "fromOf" "[I", Cond.laysFinal RX5 "ToldScenesModel" "longOf" "[I", Cond.laysFinal RX5 "ToldScenesModel" "givesOf" "[I", Cond.laysFinal RX5 "ToldScenesModel" "needsOf" "[I", Cond.lays RX5 "ToldScenesModel" "feeNow" "I", Cond.lays RX5 "ToldScenesModel" "signs" "I", Cond.laysFinal RX5 "ToldScenesModel" "signOf" "[I", Cond.lays RX5 "ToldScenesModel" "looked" "I", Cond.lays RX5 "ToldScenesModel" "open" "I", Cond.laysFinal RX5 "ToldScenesModel" "lastIn" "[I", Cond.laysFinal RX5 "ToldScenesModel" "tellerOf" "[I", Cond.laysFinal RX5 "ToldScenesModel" "sideOf" "[I", Cond.lays RX5 "ToldScenesModel" "wrongAt" "I", Cond.lays RX5 "ToldScenesModel" "wrongBy" "I", Cond.lays RX5 "ToldScenesModel" "frames" "I", Cond.lays RX5 "ToldScenesModel" "deepest" "I", Cond.lays RX5 "ToldScenesModel" "toldMany" "I", Cond.lays RX5 "ToldScenesModel" "toldSet" "I", Cond.lays RX5 "ToldScenesModel" "given" "I", Cond.lays RX5 "ToldScenesModel" "sum" "J", Cond.laysFinal RX5 "ToldScenesModel" "placeOf" "[I", Cond.laysFinal RX5 "ToldScenesModel" "depthOf" "[I", Cond.laysFinal RX5 "ToldScenesModel" "underOf" "[I", Cond.laysFinal RX5 "ToldScenesModel" "onSide" "[I", Cond.laysFinal RX5 "ToldScenesModel" "restOf" "[J", Cond.laysFinal RX5 "ToldScenesModel" "best" "[I", Cond.lays RX5 "ToldScenesModel" "rowMany" "I", Cond.laysFinal RX5 "ToldScenesModel" "row" "[I", Cond.laysFinal RX5 "ToldScenesModel" "choice" "[I", Cond.laysFinal RX5 "ToldScenesModel" "made" "[I", Cond.lays RX5 "ToldScenesModel" "madeMany" "I", Cond.laysFinal RX5 "ToldScenesModel" "framed" "[I", Cond.lays RX5 "ToldScenesModel" "framedMany" "I", Cond.methodLink RX0 3 objectInit, Cond.instanceMethod objectInit, Cond.code objectInit ⟨#[0xb1]⟩ 1 none, Cond.arrayClass .int, Cond.fieldLink RX0 9 "ToldScenes$Cast" "from" "[I", Cond.fieldLink RX0 15 "ToldScenes$Cast" "length" "[I", Cond.fieldLink RX0 18 "ToldScenes$Cast" "gives" "[I", Cond.fieldLink RX0 21 "ToldScenes$Cast" "needs" "[I", Cond.fieldLink RX0 24 "ToldScenes$Cast" "count" "I", Cond.code yX0_init cX0_init 1 none, Cond.methodLink RX3 3 objectInit, Cond.fieldLink RX3 9 "ToldScenes$Look" "turnOf" "[I", Cond.fieldLink RX3 15 "ToldScenes$Look" "depthOf" "[I", Cond.fieldLink RX3 18 "ToldScenes$Look" "tellerOf" "[I", Cond.fieldLink RX3 21 "ToldScenes$Look" "sideOf" "[I", Cond.code yX3_init cX3_init 1 none, Cond.methodLink RX2 3 objectInit, Cond.arrayClass .long, Cond.fieldLink RX2 11 "ToldScenes$LeastOrder" "rest" "[J", Cond.fieldLink RX2 15 "ToldScenes$LeastOrder" "scenes" "[I", Cond.fieldLink RX2 19 "ToldScenes$LeastOrder" "count" "I", Cond.fieldLink RX2 23 "ToldScenes$LeastOrder" "jumpSum" "J", Cond.fieldLink RX2 27 "ToldScenes$LeastOrder" "stands" "Z", Cond.code yX2_init cX2_init 1 none, Cond.methodLink RX1 3 objectInit, Cond.fieldLink RX1 9 "ToldScenes$LeastFrames" "row" "[I", Cond.fieldLink RX1 15 "ToldScenes$LeastFrames" "rowCount" "I", Cond.fieldLink RX1 19 "ToldScenes$LeastFrames" "tellerOf" "[I", Cond.fieldLink RX1 22 "ToldScenes$LeastFrames" "sideOf" "[I", Cond.fieldLink RX1 25 "ToldScenes$LeastFrames" "trial" "[I", Cond.fieldLink RX1 28 "ToldScenes$LeastFrames" "feeOfOne" "I", Cond.fieldLink RX1 31 "ToldScenes$LeastFrames" "frameCount" "I", Cond.fieldLink RX1 34 "ToldScenes$LeastFrames" "signs" "[I", Cond.fieldLink RX1 37 "ToldScenes$LeastFrames" "count" "I", Cond.fieldLink RX1 40 "ToldScenes$LeastFrames" "jumpSum" "J", Cond.fieldLink RX1 44 "ToldScenes$LeastFrames" "stands" "Z", Cond.code yX1_init cX1_init 1 none, Cond.methodLink RX4 3 objectInit, Cond.classLink RX4 9 RX0, Cond.instantiable RX0 5, Cond.initialized RX0, Cond.instanceMethod yX0_init, Cond.fieldLink RX4 12 "ToldScenes" "cast" "LToldScenes$Cast;", Cond.fieldLink RX4 18 "ToldScenes" "signs" "[I", Cond.fieldLink RX4 22 "ToldScenes" "signCount" "I", Cond.fieldLink RX4 26 "ToldScenes" "feeNow" "I", Cond.fieldLink RX4 29 "ToldScenes" "lookCount" "I", Cond.classLink RX4 32 RX3, Cond.instantiable RX3 15, Cond.initialized RX3, Cond.instanceMethod yX3_init, Cond.fieldLink RX4 35 "ToldScenes" "look" "LToldScenes$Look;", Cond.fieldLink RX4 39 "ToldScenes" "row" "[I", Cond.classLink RX4 42 RX2, Cond.instantiable RX2 5, Cond.initialized RX2, Cond.instanceMethod yX2_init, Cond.fieldLink RX4 45 "ToldScenes" "leastOrder" "LToldScenes$LeastOrder;", Cond.classLink RX4 49 RX1, Cond.instantiable RX1 11, Cond.initialized RX1, Cond.instanceMethod yX1_init, Cond.fieldLink RX4 52 "ToldScenes" "leastFrames" "LToldScenes$LeastFrames;", Cond.code yX4_init cX4_init 1 none, Cond.methodLink RX5 1 objectInit, Cond.fieldLink RX5 7 "ToldScenesModel" "fromOf" "[I", Cond.fieldLink RX5 13 "ToldScenesModel" "longOf" "[I", Cond.fieldLink RX5 16 "ToldScenesModel" "givesOf" "[I", Cond.fieldLink RX5 19 "ToldScenesModel" "needsOf" "[I", Cond.fieldLink RX5 22 "ToldScenesModel" "feeNow" "I", Cond.fieldLink RX5 26 "ToldScenesModel" "signOf" "[I", Cond.fieldLink RX5 29 "ToldScenesModel" "lastIn" "[I", Cond.fieldLink RX5 32 "ToldScenesModel" "tellerOf" "[I", Cond.fieldLink RX5 35 "ToldScenesModel" "sideOf" "[I", Cond.fieldLink RX5 38 "ToldScenesModel" "placeOf" "[I", Cond.fieldLink RX5 41 "ToldScenesModel" "depthOf" "[I", Cond.fieldLink RX5 44 "ToldScenesModel" "underOf" "[I", Cond.fieldLink RX5 47 "ToldScenesModel" "onSide" "[I", Cond.fieldLink RX5 50 "ToldScenesModel" "restOf" "[J", Cond.fieldLink RX5 54 "ToldScenesModel" "best" "[I", Cond.fieldLink RX5 57 "ToldScenesModel" "row" "[I", Cond.fieldLink RX5 60 "ToldScenesModel" "choice" "[I", Cond.fieldLink RX5 63 "ToldScenesModel" "made" "[I", Cond.fieldLink RX5 66 "ToldScenesModel" "framed" "[I", Cond.code yX5_init cX5_init 1 none]
set_option maxRecDepth 100000 in
theorem wI_0 : Cond.laysFinal RX0 "ToldScenes$Cast" "from" "[I" ∈ lw_tbl := List.mem_of_getElem? (i := 93) (by first | rfl | decide +kernel)
set_option maxRecDepth 100000 in
theorem wI_1 : Cond.laysFinal RX0 "ToldScenes$Cast" "length" "[I" ∈ lw_tbl := List.mem_of_getElem? (i := 95) (by first | rfl | decide +kernel)
set_option maxRecDepth 100000 in
theorem wI_2 : Cond.laysFinal RX0 "ToldScenes$Cast" "gives" "[I" ∈ lw_tbl := List.mem_of_getElem? (i := 97) (by first | rfl | decide +kernel)
set_option maxRecDepth 100000 in
theorem wI_3 : Cond.laysFinal RX0 "ToldScenes$Cast" "needs" "[I" ∈ lw_tbl := List.mem_of_getElem? (i := 99) (by first | rfl | decide +kernel)
set_option maxRecDepth 100000 in
theorem wI_4 : Cond.lays RX0 "ToldScenes$Cast" "count" "I" ∈ lw_tbl := List.mem_of_getElem? (i := 101) (by first | rfl | decide +kernel)
set_option maxRecDepth 100000 in
theorem wI_5 : Cond.laysFinal RX3 "ToldScenes$Look" "turnOf" "[I" ∈ lw_tbl := List.mem_of_getElem? (i := 137) (by first | rfl | decide +kernel)
set_option maxRecDepth 100000 in
theorem wI_6 : Cond.laysFinal RX3 "ToldScenes$Look" "depthOf" "[I" ∈ lw_tbl := List.mem_of_getElem? (i := 139) (by first | rfl | decide +kernel)
set_option maxRecDepth 100000 in
theorem wI_7 : Cond.laysFinal RX3 "ToldScenes$Look" "tellerOf" "[I" ∈ lw_tbl := List.mem_of_getElem? (i := 141) (by first | rfl | decide +kernel)
set_option maxRecDepth 100000 in
theorem wI_8 : Cond.laysFinal RX3 "ToldScenes$Look" "sideOf" "[I" ∈ lw_tbl := List.mem_of_getElem? (i := 143) (by first | rfl | decide +kernel)
set_option maxRecDepth 100000 in
theorem wI_9 : Cond.lays RX3 "ToldScenes$Look" "firstWrong" "I" ∈ lw_tbl := List.mem_of_getElem? (i := 145) (by first | rfl | decide +kernel)
set_option maxRecDepth 100000 in
theorem wI_10 : Cond.lays RX3 "ToldScenes$Look" "reason" "I" ∈ lw_tbl := List.mem_of_getElem? (i := 147) (by first | rfl | decide +kernel)
set_option maxRecDepth 100000 in
theorem wI_11 : Cond.lays RX3 "ToldScenes$Look" "opened" "I" ∈ lw_tbl := List.mem_of_getElem? (i := 149) (by first | rfl | decide +kernel)
set_option maxRecDepth 100000 in
theorem wI_12 : Cond.lays RX3 "ToldScenes$Look" "mostOpen" "I" ∈ lw_tbl := List.mem_of_getElem? (i := 151) (by first | rfl | decide +kernel)
set_option maxRecDepth 100000 in
theorem wI_13 : Cond.lays RX3 "ToldScenes$Look" "toldCount" "I" ∈ lw_tbl := List.mem_of_getElem? (i := 153) (by first | rfl | decide +kernel)
set_option maxRecDepth 100000 in
theorem wI_14 : Cond.lays RX3 "ToldScenes$Look" "given" "I" ∈ lw_tbl := List.mem_of_getElem? (i := 155) (by first | rfl | decide +kernel)
set_option maxRecDepth 100000 in
theorem wI_15 : Cond.lays RX3 "ToldScenes$Look" "jumpSum" "J" ∈ lw_tbl := List.mem_of_getElem? (i := 157) (by first | rfl | decide +kernel)
set_option maxRecDepth 100000 in
theorem wI_16 : Cond.lays RX3 "ToldScenes$Look" "openNow" "I" ∈ lw_tbl := List.mem_of_getElem? (i := 159) (by first | rfl | decide +kernel)
set_option maxRecDepth 100000 in
theorem wI_17 : Cond.lays RX3 "ToldScenes$Look" "lastNow" "I" ∈ lw_tbl := List.mem_of_getElem? (i := 161) (by first | rfl | decide +kernel)
set_option maxRecDepth 100000 in
theorem wI_18 : Cond.lays RX3 "ToldScenes$Look" "tellerNow" "I" ∈ lw_tbl := List.mem_of_getElem? (i := 163) (by first | rfl | decide +kernel)
set_option maxRecDepth 100000 in
theorem wI_19 : Cond.lays RX3 "ToldScenes$Look" "sideNow" "I" ∈ lw_tbl := List.mem_of_getElem? (i := 165) (by first | rfl | decide +kernel)
set_option maxRecDepth 100000 in
theorem wI_20 : Cond.laysFinal RX2 "ToldScenes$LeastOrder" "rest" "[J" ∈ lw_tbl := List.mem_of_getElem? (i := 183) (by first | rfl | decide +kernel)
set_option maxRecDepth 100000 in
theorem wI_21 : Cond.laysFinal RX2 "ToldScenes$LeastOrder" "scenes" "[I" ∈ lw_tbl := List.mem_of_getElem? (i := 185) (by first | rfl | decide +kernel)
set_option maxRecDepth 100000 in
theorem wI_22 : Cond.lays RX2 "ToldScenes$LeastOrder" "count" "I" ∈ lw_tbl := List.mem_of_getElem? (i := 187) (by first | rfl | decide +kernel)
set_option maxRecDepth 100000 in
theorem wI_23 : Cond.lays RX2 "ToldScenes$LeastOrder" "jumpSum" "J" ∈ lw_tbl := List.mem_of_getElem? (i := 189) (by first | rfl | decide +kernel)
set_option maxRecDepth 100000 in
theorem wI_24 : Cond.lays RX2 "ToldScenes$LeastOrder" "stands" "Z" ∈ lw_tbl := List.mem_of_getElem? (i := 191) (by first | rfl | decide +kernel)
set_option maxRecDepth 100000 in
theorem wI_25 : Cond.laysFinal RX1 "ToldScenes$LeastFrames" "row" "[I" ∈ lw_tbl := List.mem_of_getElem? (i := 216) (by first | rfl | decide +kernel)
set_option maxRecDepth 100000 in
theorem wI_26 : Cond.lays RX1 "ToldScenes$LeastFrames" "rowCount" "I" ∈ lw_tbl := List.mem_of_getElem? (i := 218) (by first | rfl | decide +kernel)
set_option maxRecDepth 100000 in
theorem wI_27 : Cond.laysFinal RX1 "ToldScenes$LeastFrames" "tellerOf" "[I" ∈ lw_tbl := List.mem_of_getElem? (i := 220) (by first | rfl | decide +kernel)
set_option maxRecDepth 100000 in
theorem wI_28 : Cond.laysFinal RX1 "ToldScenes$LeastFrames" "sideOf" "[I" ∈ lw_tbl := List.mem_of_getElem? (i := 222) (by first | rfl | decide +kernel)
set_option maxRecDepth 100000 in
theorem wI_29 : Cond.laysFinal RX1 "ToldScenes$LeastFrames" "trial" "[I" ∈ lw_tbl := List.mem_of_getElem? (i := 224) (by first | rfl | decide +kernel)
set_option maxRecDepth 100000 in
theorem wI_30 : Cond.lays RX1 "ToldScenes$LeastFrames" "feeOfOne" "I" ∈ lw_tbl := List.mem_of_getElem? (i := 226) (by first | rfl | decide +kernel)
set_option maxRecDepth 100000 in
theorem wI_31 : Cond.lays RX1 "ToldScenes$LeastFrames" "frameCount" "I" ∈ lw_tbl := List.mem_of_getElem? (i := 228) (by first | rfl | decide +kernel)
set_option maxRecDepth 100000 in
theorem wI_32 : Cond.laysFinal RX1 "ToldScenes$LeastFrames" "signs" "[I" ∈ lw_tbl := List.mem_of_getElem? (i := 230) (by first | rfl | decide +kernel)
set_option maxRecDepth 100000 in
theorem wI_33 : Cond.lays RX1 "ToldScenes$LeastFrames" "count" "I" ∈ lw_tbl := List.mem_of_getElem? (i := 232) (by first | rfl | decide +kernel)
set_option maxRecDepth 100000 in
theorem wI_34 : Cond.lays RX1 "ToldScenes$LeastFrames" "jumpSum" "J" ∈ lw_tbl := List.mem_of_getElem? (i := 234) (by first | rfl | decide +kernel)
set_option maxRecDepth 100000 in
theorem wI_35 : Cond.lays RX1 "ToldScenes$LeastFrames" "stands" "Z" ∈ lw_tbl := List.mem_of_getElem? (i := 236) (by first | rfl | decide +kernel)
set_option maxRecDepth 100000 in
theorem wI_36 : Cond.laysFinal RX4 "ToldScenes" "cast" "LToldScenes$Cast;" ∈ lw_tbl := List.mem_of_getElem? (i := 248) (by first | rfl | decide +kernel)
set_option maxRecDepth 100000 in
theorem wI_37 : Cond.laysFinal RX4 "ToldScenes" "signs" "[I" ∈ lw_tbl := List.mem_of_getElem? (i := 250) (by first | rfl | decide +kernel)
set_option maxRecDepth 100000 in
theorem wI_38 : Cond.lays RX4 "ToldScenes" "signCount" "I" ∈ lw_tbl := List.mem_of_getElem? (i := 252) (by first | rfl | decide +kernel)
set_option maxRecDepth 100000 in
theorem wI_39 : Cond.lays RX4 "ToldScenes" "feeNow" "I" ∈ lw_tbl := List.mem_of_getElem? (i := 254) (by first | rfl | decide +kernel)
set_option maxRecDepth 100000 in
theorem wI_40 : Cond.lays RX4 "ToldScenes" "lookCount" "I" ∈ lw_tbl := List.mem_of_getElem? (i := 256) (by first | rfl | decide +kernel)
set_option maxRecDepth 100000 in
theorem wI_41 : Cond.laysFinal RX4 "ToldScenes" "look" "LToldScenes$Look;" ∈ lw_tbl := List.mem_of_getElem? (i := 258) (by first | rfl | decide +kernel)
set_option maxRecDepth 100000 in
theorem wI_42 : Cond.laysFinal RX4 "ToldScenes" "row" "[I" ∈ lw_tbl := List.mem_of_getElem? (i := 260) (by first | rfl | decide +kernel)
set_option maxRecDepth 100000 in
theorem wI_43 : Cond.laysFinal RX4 "ToldScenes" "leastOrder" "LToldScenes$LeastOrder;" ∈ lw_tbl := List.mem_of_getElem? (i := 262) (by first | rfl | decide +kernel)
set_option maxRecDepth 100000 in
theorem wI_44 : Cond.laysFinal RX4 "ToldScenes" "leastFrames" "LToldScenes$LeastFrames;" ∈ lw_tbl := List.mem_of_getElem? (i := 264) (by first | rfl | decide +kernel)
set_option maxRecDepth 100000 in
theorem wI_45 : Cond.lays RX5 "ToldScenesModel" "scenes" "I" ∈ lw_tbl := List.mem_of_getElem? (i := 608) (by first | rfl | decide +kernel)
set_option maxRecDepth 100000 in
theorem wI_46 : Cond.laysFinal RX5 "ToldScenesModel" "fromOf" "[I" ∈ lw_tbl := List.mem_of_getElem? (i := 610) (by first | rfl | decide +kernel)
set_option maxRecDepth 100000 in
theorem wI_47 : Cond.laysFinal RX5 "ToldScenesModel" "longOf" "[I" ∈ lw_tbl := List.mem_of_getElem? (i := 612) (by first | rfl | decide +kernel)
set_option maxRecDepth 100000 in
theorem wI_48 : Cond.laysFinal RX5 "ToldScenesModel" "givesOf" "[I" ∈ lw_tbl := List.mem_of_getElem? (i := 614) (by first | rfl | decide +kernel)
set_option maxRecDepth 100000 in
theorem wI_49 : Cond.laysFinal RX5 "ToldScenesModel" "needsOf" "[I" ∈ lw_tbl := List.mem_of_getElem? (i := 616) (by first | rfl | decide +kernel)
set_option maxRecDepth 100000 in
theorem wI_50 : Cond.lays RX5 "ToldScenesModel" "feeNow" "I" ∈ lw_tbl := List.mem_of_getElem? (i := 618) (by first | rfl | decide +kernel)
set_option maxRecDepth 100000 in
theorem wI_51 : Cond.lays RX5 "ToldScenesModel" "signs" "I" ∈ lw_tbl := List.mem_of_getElem? (i := 620) (by first | rfl | decide +kernel)
set_option maxRecDepth 100000 in
theorem wI_52 : Cond.laysFinal RX5 "ToldScenesModel" "signOf" "[I" ∈ lw_tbl := List.mem_of_getElem? (i := 622) (by first | rfl | decide +kernel)
set_option maxRecDepth 100000 in
theorem wI_53 : Cond.lays RX5 "ToldScenesModel" "looked" "I" ∈ lw_tbl := List.mem_of_getElem? (i := 624) (by first | rfl | decide +kernel)
set_option maxRecDepth 100000 in
theorem wI_54 : Cond.lays RX5 "ToldScenesModel" "open" "I" ∈ lw_tbl := List.mem_of_getElem? (i := 626) (by first | rfl | decide +kernel)
set_option maxRecDepth 100000 in
theorem wI_55 : Cond.laysFinal RX5 "ToldScenesModel" "lastIn" "[I" ∈ lw_tbl := List.mem_of_getElem? (i := 628) (by first | rfl | decide +kernel)
set_option maxRecDepth 100000 in
theorem wI_56 : Cond.laysFinal RX5 "ToldScenesModel" "tellerOf" "[I" ∈ lw_tbl := List.mem_of_getElem? (i := 630) (by first | rfl | decide +kernel)
set_option maxRecDepth 100000 in
theorem wI_57 : Cond.laysFinal RX5 "ToldScenesModel" "sideOf" "[I" ∈ lw_tbl := List.mem_of_getElem? (i := 632) (by first | rfl | decide +kernel)
set_option maxRecDepth 100000 in
theorem wI_58 : Cond.lays RX5 "ToldScenesModel" "wrongAt" "I" ∈ lw_tbl := List.mem_of_getElem? (i := 634) (by first | rfl | decide +kernel)
set_option maxRecDepth 100000 in
theorem wI_59 : Cond.lays RX5 "ToldScenesModel" "wrongBy" "I" ∈ lw_tbl := List.mem_of_getElem? (i := 636) (by first | rfl | decide +kernel)
set_option maxRecDepth 100000 in
theorem wI_60 : Cond.lays RX5 "ToldScenesModel" "frames" "I" ∈ lw_tbl := List.mem_of_getElem? (i := 638) (by first | rfl | decide +kernel)
set_option maxRecDepth 100000 in
theorem wI_61 : Cond.lays RX5 "ToldScenesModel" "deepest" "I" ∈ lw_tbl := List.mem_of_getElem? (i := 640) (by first | rfl | decide +kernel)
set_option maxRecDepth 100000 in
theorem wI_62 : Cond.lays RX5 "ToldScenesModel" "toldMany" "I" ∈ lw_tbl := List.mem_of_getElem? (i := 642) (by first | rfl | decide +kernel)
set_option maxRecDepth 100000 in
theorem wI_63 : Cond.lays RX5 "ToldScenesModel" "toldSet" "I" ∈ lw_tbl := List.mem_of_getElem? (i := 644) (by first | rfl | decide +kernel)
set_option maxRecDepth 100000 in
theorem wI_64 : Cond.lays RX5 "ToldScenesModel" "given" "I" ∈ lw_tbl := List.mem_of_getElem? (i := 646) (by first | rfl | decide +kernel)
set_option maxRecDepth 100000 in
theorem wI_65 : Cond.lays RX5 "ToldScenesModel" "sum" "J" ∈ lw_tbl := List.mem_of_getElem? (i := 648) (by first | rfl | decide +kernel)
set_option maxRecDepth 100000 in
theorem wI_66 : Cond.laysFinal RX5 "ToldScenesModel" "placeOf" "[I" ∈ lw_tbl := List.mem_of_getElem? (i := 650) (by first | rfl | decide +kernel)
set_option maxRecDepth 100000 in
theorem wI_67 : Cond.laysFinal RX5 "ToldScenesModel" "depthOf" "[I" ∈ lw_tbl := List.mem_of_getElem? (i := 652) (by first | rfl | decide +kernel)
set_option maxRecDepth 100000 in
theorem wI_68 : Cond.laysFinal RX5 "ToldScenesModel" "underOf" "[I" ∈ lw_tbl := List.mem_of_getElem? (i := 654) (by first | rfl | decide +kernel)
set_option maxRecDepth 100000 in
theorem wI_69 : Cond.laysFinal RX5 "ToldScenesModel" "onSide" "[I" ∈ lw_tbl := List.mem_of_getElem? (i := 656) (by first | rfl | decide +kernel)
set_option maxRecDepth 100000 in
theorem wI_70 : Cond.laysFinal RX5 "ToldScenesModel" "restOf" "[J" ∈ lw_tbl := List.mem_of_getElem? (i := 658) (by first | rfl | decide +kernel)
set_option maxRecDepth 100000 in
theorem wI_71 : Cond.laysFinal RX5 "ToldScenesModel" "best" "[I" ∈ lw_tbl := List.mem_of_getElem? (i := 660) (by first | rfl | decide +kernel)
set_option maxRecDepth 100000 in
theorem wI_72 : Cond.lays RX5 "ToldScenesModel" "rowMany" "I" ∈ lw_tbl := List.mem_of_getElem? (i := 662) (by first | rfl | decide +kernel)
set_option maxRecDepth 100000 in
theorem wI_73 : Cond.laysFinal RX5 "ToldScenesModel" "row" "[I" ∈ lw_tbl := List.mem_of_getElem? (i := 664) (by first | rfl | decide +kernel)
set_option maxRecDepth 100000 in
theorem wI_74 : Cond.laysFinal RX5 "ToldScenesModel" "choice" "[I" ∈ lw_tbl := List.mem_of_getElem? (i := 666) (by first | rfl | decide +kernel)
set_option maxRecDepth 100000 in
theorem wI_75 : Cond.laysFinal RX5 "ToldScenesModel" "made" "[I" ∈ lw_tbl := List.mem_of_getElem? (i := 668) (by first | rfl | decide +kernel)
set_option maxRecDepth 100000 in
theorem wI_76 : Cond.lays RX5 "ToldScenesModel" "madeMany" "I" ∈ lw_tbl := List.mem_of_getElem? (i := 670) (by first | rfl | decide +kernel)
set_option maxRecDepth 100000 in
theorem wI_77 : Cond.laysFinal RX5 "ToldScenesModel" "framed" "[I" ∈ lw_tbl := List.mem_of_getElem? (i := 672) (by first | rfl | decide +kernel)
set_option maxRecDepth 100000 in
theorem wI_78 : Cond.lays RX5 "ToldScenesModel" "framedMany" "I" ∈ lw_tbl := List.mem_of_getElem? (i := 674) (by first | rfl | decide +kernel)
set_option maxRecDepth 100000 in
theorem wI_79 : Cond.methodLink RX0 3 objectInit ∈ lw_tbl := List.mem_of_getElem? (i := 79) (by first | rfl | decide +kernel)
set_option maxRecDepth 100000 in
theorem wI_80 : Cond.instanceMethod objectInit ∈ lw_tbl := List.mem_of_getElem? (i := 72) (by first | rfl | decide +kernel)
set_option maxRecDepth 100000 in
theorem wI_81 : Cond.code objectInit ⟨#[0xb1]⟩ 1 none ∈ lw_tbl := List.mem_of_getElem? (i := 73) (by first | rfl | decide +kernel)
set_option maxRecDepth 100000 in
theorem wI_82 : Cond.arrayClass .int ∈ lw_tbl := List.mem_of_getElem? (i := 104) (by first | rfl | decide +kernel)
set_option maxRecDepth 100000 in
theorem wI_83 : Cond.fieldLink RX0 9 "ToldScenes$Cast" "from" "[I" ∈ lw_tbl := List.mem_of_getElem? (i := 80) (by first | rfl | decide +kernel)
set_option maxRecDepth 100000 in
theorem wI_84 : Cond.fieldLink RX0 15 "ToldScenes$Cast" "length" "[I" ∈ lw_tbl := List.mem_of_getElem? (i := 82) (by first | rfl | decide +kernel)
set_option maxRecDepth 100000 in
theorem wI_85 : Cond.fieldLink RX0 18 "ToldScenes$Cast" "gives" "[I" ∈ lw_tbl := List.mem_of_getElem? (i := 84) (by first | rfl | decide +kernel)
set_option maxRecDepth 100000 in
theorem wI_86 : Cond.fieldLink RX0 21 "ToldScenes$Cast" "needs" "[I" ∈ lw_tbl := List.mem_of_getElem? (i := 87) (by first | rfl | decide +kernel)
set_option maxRecDepth 100000 in
theorem wI_87 : Cond.fieldLink RX0 24 "ToldScenes$Cast" "count" "I" ∈ lw_tbl := List.mem_of_getElem? (i := 90) (by first | rfl | decide +kernel)
set_option maxRecDepth 100000 in
theorem wI_88 : Cond.code yX0_init cX0_init 1 none ∈ lw_tbl := List.mem_of_getElem? (i := 78) (by first | rfl | decide +kernel)
set_option maxRecDepth 100000 in
theorem wI_89 : Cond.methodLink RX3 3 objectInit ∈ lw_tbl := List.mem_of_getElem? (i := 110) (by first | rfl | decide +kernel)
set_option maxRecDepth 100000 in
theorem wI_90 : Cond.fieldLink RX3 9 "ToldScenes$Look" "turnOf" "[I" ∈ lw_tbl := List.mem_of_getElem? (i := 111) (by first | rfl | decide +kernel)
set_option maxRecDepth 100000 in
theorem wI_91 : Cond.fieldLink RX3 15 "ToldScenes$Look" "depthOf" "[I" ∈ lw_tbl := List.mem_of_getElem? (i := 113) (by first | rfl | decide +kernel)
set_option maxRecDepth 100000 in
theorem wI_92 : Cond.fieldLink RX3 18 "ToldScenes$Look" "tellerOf" "[I" ∈ lw_tbl := List.mem_of_getElem? (i := 115) (by first | rfl | decide +kernel)
set_option maxRecDepth 100000 in
theorem wI_93 : Cond.fieldLink RX3 21 "ToldScenes$Look" "sideOf" "[I" ∈ lw_tbl := List.mem_of_getElem? (i := 117) (by first | rfl | decide +kernel)
set_option maxRecDepth 100000 in
theorem wI_94 : Cond.code yX3_init cX3_init 1 none ∈ lw_tbl := List.mem_of_getElem? (i := 109) (by first | rfl | decide +kernel)
set_option maxRecDepth 100000 in
theorem wI_95 : Cond.methodLink RX2 3 objectInit ∈ lw_tbl := List.mem_of_getElem? (i := 173) (by first | rfl | decide +kernel)
set_option maxRecDepth 100000 in
theorem wI_96 : Cond.arrayClass .long ∈ lw_tbl := List.mem_of_getElem? (i := 194) (by first | rfl | decide +kernel)
set_option maxRecDepth 100000 in
theorem wI_97 : Cond.fieldLink RX2 11 "ToldScenes$LeastOrder" "rest" "[J" ∈ lw_tbl := List.mem_of_getElem? (i := 174) (by first | rfl | decide +kernel)
set_option maxRecDepth 100000 in
theorem wI_98 : Cond.fieldLink RX2 15 "ToldScenes$LeastOrder" "scenes" "[I" ∈ lw_tbl := List.mem_of_getElem? (i := 175) (by first | rfl | decide +kernel)
set_option maxRecDepth 100000 in
theorem wI_99 : Cond.fieldLink RX2 19 "ToldScenes$LeastOrder" "count" "I" ∈ lw_tbl := List.mem_of_getElem? (i := 177) (by first | rfl | decide +kernel)
set_option maxRecDepth 100000 in
theorem wI_100 : Cond.fieldLink RX2 23 "ToldScenes$LeastOrder" "jumpSum" "J" ∈ lw_tbl := List.mem_of_getElem? (i := 179) (by first | rfl | decide +kernel)
set_option maxRecDepth 100000 in
theorem wI_101 : Cond.fieldLink RX2 27 "ToldScenes$LeastOrder" "stands" "Z" ∈ lw_tbl := List.mem_of_getElem? (i := 181) (by first | rfl | decide +kernel)
set_option maxRecDepth 100000 in
theorem wI_102 : Cond.code yX2_init cX2_init 1 none ∈ lw_tbl := List.mem_of_getElem? (i := 172) (by first | rfl | decide +kernel)
set_option maxRecDepth 100000 in
theorem wI_103 : Cond.methodLink RX1 3 objectInit ∈ lw_tbl := List.mem_of_getElem? (i := 200) (by first | rfl | decide +kernel)
set_option maxRecDepth 100000 in
theorem wI_104 : Cond.fieldLink RX1 9 "ToldScenes$LeastFrames" "row" "[I" ∈ lw_tbl := List.mem_of_getElem? (i := 201) (by first | rfl | decide +kernel)
set_option maxRecDepth 100000 in
theorem wI_105 : Cond.fieldLink RX1 15 "ToldScenes$LeastFrames" "rowCount" "I" ∈ lw_tbl := List.mem_of_getElem? (i := 202) (by first | rfl | decide +kernel)
set_option maxRecDepth 100000 in
theorem wI_106 : Cond.fieldLink RX1 19 "ToldScenes$LeastFrames" "tellerOf" "[I" ∈ lw_tbl := List.mem_of_getElem? (i := 203) (by first | rfl | decide +kernel)
set_option maxRecDepth 100000 in
theorem wI_107 : Cond.fieldLink RX1 22 "ToldScenes$LeastFrames" "sideOf" "[I" ∈ lw_tbl := List.mem_of_getElem? (i := 204) (by first | rfl | decide +kernel)
set_option maxRecDepth 100000 in
theorem wI_108 : Cond.fieldLink RX1 25 "ToldScenes$LeastFrames" "trial" "[I" ∈ lw_tbl := List.mem_of_getElem? (i := 205) (by first | rfl | decide +kernel)
set_option maxRecDepth 100000 in
theorem wI_109 : Cond.fieldLink RX1 28 "ToldScenes$LeastFrames" "feeOfOne" "I" ∈ lw_tbl := List.mem_of_getElem? (i := 206) (by first | rfl | decide +kernel)
set_option maxRecDepth 100000 in
theorem wI_110 : Cond.fieldLink RX1 31 "ToldScenes$LeastFrames" "frameCount" "I" ∈ lw_tbl := List.mem_of_getElem? (i := 207) (by first | rfl | decide +kernel)
set_option maxRecDepth 100000 in
theorem wI_111 : Cond.fieldLink RX1 34 "ToldScenes$LeastFrames" "signs" "[I" ∈ lw_tbl := List.mem_of_getElem? (i := 208) (by first | rfl | decide +kernel)
set_option maxRecDepth 100000 in
theorem wI_112 : Cond.fieldLink RX1 37 "ToldScenes$LeastFrames" "count" "I" ∈ lw_tbl := List.mem_of_getElem? (i := 210) (by first | rfl | decide +kernel)
set_option maxRecDepth 100000 in
theorem wI_113 : Cond.fieldLink RX1 40 "ToldScenes$LeastFrames" "jumpSum" "J" ∈ lw_tbl := List.mem_of_getElem? (i := 212) (by first | rfl | decide +kernel)
set_option maxRecDepth 100000 in
theorem wI_114 : Cond.fieldLink RX1 44 "ToldScenes$LeastFrames" "stands" "Z" ∈ lw_tbl := List.mem_of_getElem? (i := 214) (by first | rfl | decide +kernel)
set_option maxRecDepth 100000 in
theorem wI_115 : Cond.code yX1_init cX1_init 1 none ∈ lw_tbl := List.mem_of_getElem? (i := 199) (by first | rfl | decide +kernel)
set_option maxRecDepth 100000 in
theorem wI_116 : Cond.methodLink RX4 3 objectInit ∈ lw_tbl := List.mem_of_getElem? (i := 71) (by first | rfl | decide +kernel)
set_option maxRecDepth 100000 in
theorem wI_117 : Cond.classLink RX4 9 RX0 ∈ lw_tbl := List.mem_of_getElem? (i := 74) (by first | rfl | decide +kernel)
set_option maxRecDepth 100000 in
theorem wI_118 : Cond.instantiable RX0 5 ∈ lw_tbl := List.mem_of_getElem? (i := 75) (by first | rfl | decide +kernel)
set_option maxRecDepth 100000 in
theorem wI_119 : Cond.initialized RX0 ∈ lw_tbl := List.mem_of_getElem? (i := 57) (by first | rfl | decide +kernel)
set_option maxRecDepth 100000 in
theorem wI_120 : Cond.instanceMethod yX0_init ∈ lw_tbl := List.mem_of_getElem? (i := 77) (by first | rfl | decide +kernel)
set_option maxRecDepth 100000 in
theorem wI_121 : Cond.fieldLink RX4 12 "ToldScenes" "cast" "LToldScenes$Cast;" ∈ lw_tbl := List.mem_of_getElem? (i := 239) (by first | rfl | decide +kernel)
set_option maxRecDepth 100000 in
theorem wI_122 : Cond.fieldLink RX4 18 "ToldScenes" "signs" "[I" ∈ lw_tbl := List.mem_of_getElem? (i := 240) (by first | rfl | decide +kernel)
set_option maxRecDepth 100000 in
theorem wI_123 : Cond.fieldLink RX4 22 "ToldScenes" "signCount" "I" ∈ lw_tbl := List.mem_of_getElem? (i := 241) (by first | rfl | decide +kernel)
set_option maxRecDepth 100000 in
theorem wI_124 : Cond.fieldLink RX4 26 "ToldScenes" "feeNow" "I" ∈ lw_tbl := List.mem_of_getElem? (i := 242) (by first | rfl | decide +kernel)
set_option maxRecDepth 100000 in
theorem wI_125 : Cond.fieldLink RX4 29 "ToldScenes" "lookCount" "I" ∈ lw_tbl := List.mem_of_getElem? (i := 243) (by first | rfl | decide +kernel)
set_option maxRecDepth 100000 in
theorem wI_126 : Cond.classLink RX4 32 RX3 ∈ lw_tbl := List.mem_of_getElem? (i := 105) (by first | rfl | decide +kernel)
set_option maxRecDepth 100000 in
theorem wI_127 : Cond.instantiable RX3 15 ∈ lw_tbl := List.mem_of_getElem? (i := 106) (by first | rfl | decide +kernel)
set_option maxRecDepth 100000 in
theorem wI_128 : Cond.initialized RX3 ∈ lw_tbl := List.mem_of_getElem? (i := 58) (by first | rfl | decide +kernel)
set_option maxRecDepth 100000 in
theorem wI_129 : Cond.instanceMethod yX3_init ∈ lw_tbl := List.mem_of_getElem? (i := 108) (by first | rfl | decide +kernel)
set_option maxRecDepth 100000 in
theorem wI_130 : Cond.fieldLink RX4 35 "ToldScenes" "look" "LToldScenes$Look;" ∈ lw_tbl := List.mem_of_getElem? (i := 244) (by first | rfl | decide +kernel)
set_option maxRecDepth 100000 in
theorem wI_131 : Cond.fieldLink RX4 39 "ToldScenes" "row" "[I" ∈ lw_tbl := List.mem_of_getElem? (i := 245) (by first | rfl | decide +kernel)
set_option maxRecDepth 100000 in
theorem wI_132 : Cond.classLink RX4 42 RX2 ∈ lw_tbl := List.mem_of_getElem? (i := 168) (by first | rfl | decide +kernel)
set_option maxRecDepth 100000 in
theorem wI_133 : Cond.instantiable RX2 5 ∈ lw_tbl := List.mem_of_getElem? (i := 169) (by first | rfl | decide +kernel)
set_option maxRecDepth 100000 in
theorem wI_134 : Cond.initialized RX2 ∈ lw_tbl := List.mem_of_getElem? (i := 59) (by first | rfl | decide +kernel)
set_option maxRecDepth 100000 in
theorem wI_135 : Cond.instanceMethod yX2_init ∈ lw_tbl := List.mem_of_getElem? (i := 171) (by first | rfl | decide +kernel)
set_option maxRecDepth 100000 in
theorem wI_136 : Cond.fieldLink RX4 45 "ToldScenes" "leastOrder" "LToldScenes$LeastOrder;" ∈ lw_tbl := List.mem_of_getElem? (i := 246) (by first | rfl | decide +kernel)
set_option maxRecDepth 100000 in
theorem wI_137 : Cond.classLink RX4 49 RX1 ∈ lw_tbl := List.mem_of_getElem? (i := 195) (by first | rfl | decide +kernel)
set_option maxRecDepth 100000 in
theorem wI_138 : Cond.instantiable RX1 11 ∈ lw_tbl := List.mem_of_getElem? (i := 196) (by first | rfl | decide +kernel)
set_option maxRecDepth 100000 in
theorem wI_139 : Cond.initialized RX1 ∈ lw_tbl := List.mem_of_getElem? (i := 60) (by first | rfl | decide +kernel)
set_option maxRecDepth 100000 in
theorem wI_140 : Cond.instanceMethod yX1_init ∈ lw_tbl := List.mem_of_getElem? (i := 198) (by first | rfl | decide +kernel)
set_option maxRecDepth 100000 in
theorem wI_141 : Cond.fieldLink RX4 52 "ToldScenes" "leastFrames" "LToldScenes$LeastFrames;" ∈ lw_tbl := List.mem_of_getElem? (i := 247) (by first | rfl | decide +kernel)
set_option maxRecDepth 100000 in
theorem wI_142 : Cond.code yX4_init cX4_init 1 none ∈ lw_tbl := List.mem_of_getElem? (i := 70) (by first | rfl | decide +kernel)
set_option maxRecDepth 100000 in
theorem wI_143 : Cond.methodLink RX5 1 objectInit ∈ lw_tbl := List.mem_of_getElem? (i := 573) (by first | rfl | decide +kernel)
set_option maxRecDepth 100000 in
theorem wI_144 : Cond.fieldLink RX5 7 "ToldScenesModel" "fromOf" "[I" ∈ lw_tbl := List.mem_of_getElem? (i := 575) (by first | rfl | decide +kernel)
set_option maxRecDepth 100000 in
theorem wI_145 : Cond.fieldLink RX5 13 "ToldScenesModel" "longOf" "[I" ∈ lw_tbl := List.mem_of_getElem? (i := 576) (by first | rfl | decide +kernel)
set_option maxRecDepth 100000 in
theorem wI_146 : Cond.fieldLink RX5 16 "ToldScenesModel" "givesOf" "[I" ∈ lw_tbl := List.mem_of_getElem? (i := 577) (by first | rfl | decide +kernel)
set_option maxRecDepth 100000 in
theorem wI_147 : Cond.fieldLink RX5 19 "ToldScenesModel" "needsOf" "[I" ∈ lw_tbl := List.mem_of_getElem? (i := 578) (by first | rfl | decide +kernel)
set_option maxRecDepth 100000 in
theorem wI_148 : Cond.fieldLink RX5 22 "ToldScenesModel" "feeNow" "I" ∈ lw_tbl := List.mem_of_getElem? (i := 579) (by first | rfl | decide +kernel)
set_option maxRecDepth 100000 in
theorem wI_149 : Cond.fieldLink RX5 26 "ToldScenesModel" "signOf" "[I" ∈ lw_tbl := List.mem_of_getElem? (i := 581) (by first | rfl | decide +kernel)
set_option maxRecDepth 100000 in
theorem wI_150 : Cond.fieldLink RX5 29 "ToldScenesModel" "lastIn" "[I" ∈ lw_tbl := List.mem_of_getElem? (i := 584) (by first | rfl | decide +kernel)
set_option maxRecDepth 100000 in
theorem wI_151 : Cond.fieldLink RX5 32 "ToldScenesModel" "tellerOf" "[I" ∈ lw_tbl := List.mem_of_getElem? (i := 585) (by first | rfl | decide +kernel)
set_option maxRecDepth 100000 in
theorem wI_152 : Cond.fieldLink RX5 35 "ToldScenesModel" "sideOf" "[I" ∈ lw_tbl := List.mem_of_getElem? (i := 586) (by first | rfl | decide +kernel)
set_option maxRecDepth 100000 in
theorem wI_153 : Cond.fieldLink RX5 38 "ToldScenesModel" "placeOf" "[I" ∈ lw_tbl := List.mem_of_getElem? (i := 595) (by first | rfl | decide +kernel)
set_option maxRecDepth 100000 in
theorem wI_154 : Cond.fieldLink RX5 41 "ToldScenesModel" "depthOf" "[I" ∈ lw_tbl := List.mem_of_getElem? (i := 596) (by first | rfl | decide +kernel)
set_option maxRecDepth 100000 in
theorem wI_155 : Cond.fieldLink RX5 44 "ToldScenesModel" "underOf" "[I" ∈ lw_tbl := List.mem_of_getElem? (i := 597) (by first | rfl | decide +kernel)
set_option maxRecDepth 100000 in
theorem wI_156 : Cond.fieldLink RX5 47 "ToldScenesModel" "onSide" "[I" ∈ lw_tbl := List.mem_of_getElem? (i := 598) (by first | rfl | decide +kernel)
set_option maxRecDepth 100000 in
theorem wI_157 : Cond.fieldLink RX5 50 "ToldScenesModel" "restOf" "[J" ∈ lw_tbl := List.mem_of_getElem? (i := 599) (by first | rfl | decide +kernel)
set_option maxRecDepth 100000 in
theorem wI_158 : Cond.fieldLink RX5 54 "ToldScenesModel" "best" "[I" ∈ lw_tbl := List.mem_of_getElem? (i := 600) (by first | rfl | decide +kernel)
set_option maxRecDepth 100000 in
theorem wI_159 : Cond.fieldLink RX5 57 "ToldScenesModel" "row" "[I" ∈ lw_tbl := List.mem_of_getElem? (i := 602) (by first | rfl | decide +kernel)
set_option maxRecDepth 100000 in
theorem wI_160 : Cond.fieldLink RX5 60 "ToldScenesModel" "choice" "[I" ∈ lw_tbl := List.mem_of_getElem? (i := 603) (by first | rfl | decide +kernel)
set_option maxRecDepth 100000 in
theorem wI_161 : Cond.fieldLink RX5 63 "ToldScenesModel" "made" "[I" ∈ lw_tbl := List.mem_of_getElem? (i := 604) (by first | rfl | decide +kernel)
set_option maxRecDepth 100000 in
theorem wI_162 : Cond.fieldLink RX5 66 "ToldScenesModel" "framed" "[I" ∈ lw_tbl := List.mem_of_getElem? (i := 606) (by first | rfl | decide +kernel)
set_option maxRecDepth 100000 in
theorem wI_163 : Cond.code yX5_init cX5_init 1 none ∈ lw_tbl := List.mem_of_getElem? (i := 572) (by first | rfl | decide +kernel)
set_option maxRecDepth 100000 in
theorem wI_in : ∀ w ∈ wI, w ∈ lw_tbl := List.forall_mem_cons.mpr ⟨wI_0, List.forall_mem_cons.mpr ⟨wI_1, List.forall_mem_cons.mpr ⟨wI_2, List.forall_mem_cons.mpr ⟨wI_3, List.forall_mem_cons.mpr ⟨wI_4, List.forall_mem_cons.mpr ⟨wI_5, List.forall_mem_cons.mpr ⟨wI_6, List.forall_mem_cons.mpr ⟨wI_7, List.forall_mem_cons.mpr ⟨wI_8, List.forall_mem_cons.mpr ⟨wI_9, List.forall_mem_cons.mpr ⟨wI_10, List.forall_mem_cons.mpr ⟨wI_11, List.forall_mem_cons.mpr ⟨wI_12, List.forall_mem_cons.mpr ⟨wI_13, List.forall_mem_cons.mpr ⟨wI_14, List.forall_mem_cons.mpr ⟨wI_15, List.forall_mem_cons.mpr ⟨wI_16, List.forall_mem_cons.mpr ⟨wI_17, List.forall_mem_cons.mpr ⟨wI_18, List.forall_mem_cons.mpr ⟨wI_19, List.forall_mem_cons.mpr ⟨wI_20, List.forall_mem_cons.mpr ⟨wI_21, List.forall_mem_cons.mpr ⟨wI_22, List.forall_mem_cons.mpr ⟨wI_23, List.forall_mem_cons.mpr ⟨wI_24, List.forall_mem_cons.mpr ⟨wI_25, List.forall_mem_cons.mpr ⟨wI_26, List.forall_mem_cons.mpr ⟨wI_27, List.forall_mem_cons.mpr ⟨wI_28, List.forall_mem_cons.mpr ⟨wI_29, List.forall_mem_cons.mpr ⟨wI_30, List.forall_mem_cons.mpr ⟨wI_31, List.forall_mem_cons.mpr ⟨wI_32, List.forall_mem_cons.mpr ⟨wI_33, List.forall_mem_cons.mpr ⟨wI_34, List.forall_mem_cons.mpr ⟨wI_35, List.forall_mem_cons.mpr ⟨wI_36, List.forall_mem_cons.mpr ⟨wI_37, List.forall_mem_cons.mpr ⟨wI_38, List.forall_mem_cons.mpr ⟨wI_39, List.forall_mem_cons.mpr ⟨wI_40, List.forall_mem_cons.mpr ⟨wI_41, List.forall_mem_cons.mpr ⟨wI_42, List.forall_mem_cons.mpr ⟨wI_43, List.forall_mem_cons.mpr ⟨wI_44, List.forall_mem_cons.mpr ⟨wI_45, List.forall_mem_cons.mpr ⟨wI_46, List.forall_mem_cons.mpr ⟨wI_47, List.forall_mem_cons.mpr ⟨wI_48, List.forall_mem_cons.mpr ⟨wI_49, List.forall_mem_cons.mpr ⟨wI_50, List.forall_mem_cons.mpr ⟨wI_51, List.forall_mem_cons.mpr ⟨wI_52, List.forall_mem_cons.mpr ⟨wI_53, List.forall_mem_cons.mpr ⟨wI_54, List.forall_mem_cons.mpr ⟨wI_55, List.forall_mem_cons.mpr ⟨wI_56, List.forall_mem_cons.mpr ⟨wI_57, List.forall_mem_cons.mpr ⟨wI_58, List.forall_mem_cons.mpr ⟨wI_59, List.forall_mem_cons.mpr ⟨wI_60, List.forall_mem_cons.mpr ⟨wI_61, List.forall_mem_cons.mpr ⟨wI_62, List.forall_mem_cons.mpr ⟨wI_63, List.forall_mem_cons.mpr ⟨wI_64, List.forall_mem_cons.mpr ⟨wI_65, List.forall_mem_cons.mpr ⟨wI_66, List.forall_mem_cons.mpr ⟨wI_67, List.forall_mem_cons.mpr ⟨wI_68, List.forall_mem_cons.mpr ⟨wI_69, List.forall_mem_cons.mpr ⟨wI_70, List.forall_mem_cons.mpr ⟨wI_71, List.forall_mem_cons.mpr ⟨wI_72, List.forall_mem_cons.mpr ⟨wI_73, List.forall_mem_cons.mpr ⟨wI_74, List.forall_mem_cons.mpr ⟨wI_75, List.forall_mem_cons.mpr ⟨wI_76, List.forall_mem_cons.mpr ⟨wI_77, List.forall_mem_cons.mpr ⟨wI_78, List.forall_mem_cons.mpr ⟨wI_79, List.forall_mem_cons.mpr ⟨wI_80, List.forall_mem_cons.mpr ⟨wI_81, List.forall_mem_cons.mpr ⟨wI_82, List.forall_mem_cons.mpr ⟨wI_83, List.forall_mem_cons.mpr ⟨wI_84, List.forall_mem_cons.mpr ⟨wI_85, List.forall_mem_cons.mpr ⟨wI_86, List.forall_mem_cons.mpr ⟨wI_87, List.forall_mem_cons.mpr ⟨wI_88, List.forall_mem_cons.mpr ⟨wI_89, List.forall_mem_cons.mpr ⟨wI_90, List.forall_mem_cons.mpr ⟨wI_91, List.forall_mem_cons.mpr ⟨wI_92, List.forall_mem_cons.mpr ⟨wI_93, List.forall_mem_cons.mpr ⟨wI_94, List.forall_mem_cons.mpr ⟨wI_95, List.forall_mem_cons.mpr ⟨wI_96, List.forall_mem_cons.mpr ⟨wI_97, List.forall_mem_cons.mpr ⟨wI_98, List.forall_mem_cons.mpr ⟨wI_99, List.forall_mem_cons.mpr ⟨wI_100, List.forall_mem_cons.mpr ⟨wI_101, List.forall_mem_cons.mpr ⟨wI_102, List.forall_mem_cons.mpr ⟨wI_103, List.forall_mem_cons.mpr ⟨wI_104, List.forall_mem_cons.mpr ⟨wI_105, List.forall_mem_cons.mpr ⟨wI_106, List.forall_mem_cons.mpr ⟨wI_107, List.forall_mem_cons.mpr ⟨wI_108, List.forall_mem_cons.mpr ⟨wI_109, List.forall_mem_cons.mpr ⟨wI_110, List.forall_mem_cons.mpr ⟨wI_111, List.forall_mem_cons.mpr ⟨wI_112, List.forall_mem_cons.mpr ⟨wI_113, List.forall_mem_cons.mpr ⟨wI_114, List.forall_mem_cons.mpr ⟨wI_115, List.forall_mem_cons.mpr ⟨wI_116, List.forall_mem_cons.mpr ⟨wI_117, List.forall_mem_cons.mpr ⟨wI_118, List.forall_mem_cons.mpr ⟨wI_119, List.forall_mem_cons.mpr ⟨wI_120, List.forall_mem_cons.mpr ⟨wI_121, List.forall_mem_cons.mpr ⟨wI_122, List.forall_mem_cons.mpr ⟨wI_123, List.forall_mem_cons.mpr ⟨wI_124, List.forall_mem_cons.mpr ⟨wI_125, List.forall_mem_cons.mpr ⟨wI_126, List.forall_mem_cons.mpr ⟨wI_127, List.forall_mem_cons.mpr ⟨wI_128, List.forall_mem_cons.mpr ⟨wI_129, List.forall_mem_cons.mpr ⟨wI_130, List.forall_mem_cons.mpr ⟨wI_131, List.forall_mem_cons.mpr ⟨wI_132, List.forall_mem_cons.mpr ⟨wI_133, List.forall_mem_cons.mpr ⟨wI_134, List.forall_mem_cons.mpr ⟨wI_135, List.forall_mem_cons.mpr ⟨wI_136, List.forall_mem_cons.mpr ⟨wI_137, List.forall_mem_cons.mpr ⟨wI_138, List.forall_mem_cons.mpr ⟨wI_139, List.forall_mem_cons.mpr ⟨wI_140, List.forall_mem_cons.mpr ⟨wI_141, List.forall_mem_cons.mpr ⟨wI_142, List.forall_mem_cons.mpr ⟨wI_143, List.forall_mem_cons.mpr ⟨wI_144, List.forall_mem_cons.mpr ⟨wI_145, List.forall_mem_cons.mpr ⟨wI_146, List.forall_mem_cons.mpr ⟨wI_147, List.forall_mem_cons.mpr ⟨wI_148, List.forall_mem_cons.mpr ⟨wI_149, List.forall_mem_cons.mpr ⟨wI_150, List.forall_mem_cons.mpr ⟨wI_151, List.forall_mem_cons.mpr ⟨wI_152, List.forall_mem_cons.mpr ⟨wI_153, List.forall_mem_cons.mpr ⟨wI_154, List.forall_mem_cons.mpr ⟨wI_155, List.forall_mem_cons.mpr ⟨wI_156, List.forall_mem_cons.mpr ⟨wI_157, List.forall_mem_cons.mpr ⟨wI_158, List.forall_mem_cons.mpr ⟨wI_159, List.forall_mem_cons.mpr ⟨wI_160, List.forall_mem_cons.mpr ⟨wI_161, List.forall_mem_cons.mpr ⟨wI_162, List.forall_mem_cons.mpr ⟨wI_163, fun _ h => absurd h List.not_mem_nil⟩⟩⟩⟩⟩⟩⟩⟩⟩⟩⟩⟩⟩⟩⟩⟩⟩⟩⟩⟩⟩⟩⟩⟩⟩⟩⟩⟩⟩⟩⟩⟩⟩⟩⟩⟩⟩⟩⟩⟩⟩⟩⟩⟩⟩⟩⟩⟩⟩⟩⟩⟩⟩⟩⟩⟩⟩⟩⟩⟩⟩⟩⟩⟩⟩⟩⟩⟩⟩⟩⟩⟩⟩⟩⟩⟩⟩⟩⟩⟩⟩⟩⟩⟩⟩⟩⟩⟩⟩⟩⟩⟩⟩⟩⟩⟩⟩⟩⟩⟩⟩⟩⟩⟩⟩⟩⟩⟩⟩⟩⟩⟩⟩⟩⟩⟩⟩⟩⟩⟩⟩⟩⟩⟩⟩⟩⟩⟩⟩⟩⟩⟩⟩⟩⟩⟩⟩⟩⟩⟩⟩⟩⟩⟩⟩⟩⟩⟩⟩⟩⟩⟩⟩⟩⟩⟩⟩⟩⟩⟩⟩⟩⟩⟩
set_option maxRecDepth 100000 in
theorem wI_good : wI.all goodWord = true := by decide +kernel
def wi_w (y : MethodName) (b : ByteArray) : List Cond := .code y b 1 none :: wI
theorem wi {y : MethodName} {b : ByteArray} {w : Cond} (i : Nat) (h : wI[i]? = some w) : w ∈ wi_w y b := List.mem_cons_of_mem _ (List.mem_of_getElem? h)
theorem wi_g {y y' : MethodName} {b b' : ByteArray} (i : Nat) (h : wI[i]? = some (.code y' b' 1 none)) : GoodIn (wi_w y b) (wi_w y' b') := fun w hw => by
  have hm : w ∈ wI := by
    rcases List.mem_cons.mp hw with rfl | hw
    · exact List.mem_of_getElem? h
    · exact hw
  exact ⟨List.mem_cons_of_mem _ hm, good_of_word (List.all_eq_true.mp wI_good w hm)⟩
theorem wi_law {y : MethodName} {b : ByteArray} (i : Nat) (h : wI[i]? = some (.code y b 1 none)) : GoodIn lw_tbl (wi_w y b) := fun w hw => by
  have hm : w ∈ wI := by
    rcases List.mem_cons.mp hw with rfl | hw
    · exact List.mem_of_getElem? h
    · exact hw
  exact ⟨wI_in w hm, good_of_word (List.all_eq_true.mp wI_good w hm)⟩
set_option maxRecDepth 100000 in
theorem wi_uX0 {y : MethodName} {b : ByteArray} : ∀ w ∈ u_ws RX0 TX0 5, w ∈ wi_w y b := fun w hw => List.mem_cons_of_mem _ (mm_mem (ws := u_ws RX0 TX0 5) (big := wI) [0, 1, 2, 3, 4] rfl w hw)
set_option maxRecDepth 100000 in
theorem wi_uX3 {y : MethodName} {b : ByteArray} : ∀ w ∈ u_ws RX3 TX3 15, w ∈ wi_w y b := fun w hw => List.mem_cons_of_mem _ (mm_mem (ws := u_ws RX3 TX3 15) (big := wI) [5, 6, 7, 8, 9, 10, 11, 12, 13, 14, 15, 16, 17, 18, 19] rfl w hw)
set_option maxRecDepth 100000 in
theorem wi_uX2 {y : MethodName} {b : ByteArray} : ∀ w ∈ u_ws RX2 TX2 5, w ∈ wi_w y b := fun w hw => List.mem_cons_of_mem _ (mm_mem (ws := u_ws RX2 TX2 5) (big := wI) [20, 21, 22, 23, 24] rfl w hw)
set_option maxRecDepth 100000 in
theorem wi_uX1 {y : MethodName} {b : ByteArray} : ∀ w ∈ u_ws RX1 TX1 11, w ∈ wi_w y b := fun w hw => List.mem_cons_of_mem _ (mm_mem (ws := u_ws RX1 TX1 11) (big := wI) [25, 26, 27, 28, 29, 30, 31, 32, 33, 34, 35] rfl w hw)
set_option maxRecDepth 100000 in
theorem wi_uX4 {y : MethodName} {b : ByteArray} : ∀ w ∈ u_ws RX4 TX4 9, w ∈ wi_w y b := fun w hw => List.mem_cons_of_mem _ (mm_mem (ws := u_ws RX4 TX4 9) (big := wI) [36, 37, 38, 39, 40, 41, 42, 43, 44] rfl w hw)
set_option maxRecDepth 100000 in
theorem wi_uX5 {y : MethodName} {b : ByteArray} : ∀ w ∈ u_ws RX5 TX5 34, w ∈ wi_w y b := fun w hw => List.mem_cons_of_mem _ (mm_mem (ws := u_ws RX5 TX5 34) (big := wI) [45, 46, 47, 48, 49, 50, 51, 52, 53, 54, 55, 56, 57, 58, 59, 60, 61, 62, 63, 64, 65, 66, 67, 68, 69, 70, 71, 72, 73, 74, 75, 76, 77, 78] rfl w hw)
theorem in_blind {D : va_G} {cl : List vw_C} {tys : List (ClassId × FieldType)} {av : List Value} {sz : Nat} {ws : va_W} : FrameBlind (va_Pc av (fun U => U.heap.size = sz ∧ va_P D cl ws U.heap ∧ va_K D cl tys U ∧ va_D (fun _ => True) ws ∧ True)) := fun a U g mk q => by
  obtain ⟨q0, q1, qP, qK, qD, q5⟩ := q
  exact ⟨q0, q1, qP, va_K.moved (u := U) (U := U.calling g mk a) (Vm.Alike.refl U.vm) qK, qD, q5⟩
section IN
variable {p : Program} {l : Launch} {e : Env} {R : Room} {s : State} {m : MethodId} {args : Array Value} {below : List Frame} {meth : Method} {c : Code} {H : Heap} {locs : List Loc} {cells slots : Nat} {Q : State → Prop} {cc : ByteArray} {pc : Nat} {ls : Array Slot} {rest : List Value} {D : va_G} {cl : List vw_C} {A : Nat → Prop} {ws : va_W} {H0 : Heap} {cI cJ : ClassId}
theorem in_newi (hexec : p.tables.exec = Jvm.exec) (hb : c.code = cc) (harr : (Cond.arrayClass .int).before args s = true) (hK : va_K D cl (mm_tys cI cJ) s) (hP : va_P D cl ws H) (hD : va_D A ws) (hS : va_S A H0 H locs) (hA : ∀ q, H0.size ≤ q → A q)
    {n : Int32} {N : Nat} (hn : ¬ n < 0) (hN : n.toNatClampNeg = N) (hbytes : N * 4 ≤ 536870912) (hcells : cells + 1 ≤ R.cells) (hslots : slots + N ≤ R.slots) (hdg : decode cc pc = .ok (.newarray .int, 2))
    (kk : ∀ (q : Nat) (H1 : Heap), va_P D cl (ws ++ [(q, .inl (cI, N, .inl fun _ => 0))]) H1 → va_D A (ws ++ [(q, .inl (cI, N, .inl fun _ => 0))]) → va_S A H0 H1 locs → W p l e R s m args below meth c H1 locs (cells + 1) (slots + N) Q (F0 m (pc + 2) ls (.ref q :: rest))) : W p l e R s m args below meth c H locs cells slots Q (F0 m pc ls (.int n :: rest)) := by
  refine va_newa (atype := .int) (ty := .int) (a0 := (N, .inl fun _ => 0)) hexec hb harr rfl hK hP hD hS hA (fun cA => rfl) hn hN hbytes hcells hslots hdg (fun q cA H1 hK1 hP1 hD1 hS1 => ?_)
  have e1 := va_nm_int (hK1.2 2 (cA, .int) rfl).2
  have e2 := va_nm_int (hK.2 0 (cI, .int) rfl).2
  cases e1.symm.trans e2
  exact kk q H1 hP1 hD1 hS1
theorem in_newl (hexec : p.tables.exec = Jvm.exec) (hb : c.code = cc) (harr : (Cond.arrayClass .long).before args s = true) (hK : va_K D cl (mm_tys cI cJ) s) (hP : va_P D cl ws H) (hD : va_D A ws) (hS : va_S A H0 H locs) (hA : ∀ q, H0.size ≤ q → A q)
    {n : Int32} {N : Nat} (hn : ¬ n < 0) (hN : n.toNatClampNeg = N) (hbytes : N * 8 ≤ 536870912) (hcells : cells + 1 ≤ R.cells) (hslots : slots + N ≤ R.slots) (hdg : decode cc pc = .ok (.newarray .long, 2))
    (kk : ∀ (q : Nat) (H1 : Heap), va_P D cl (ws ++ [(q, .inl (cJ, N, .inr (.inl fun _ => 0)))]) H1 → va_D A (ws ++ [(q, .inl (cJ, N, .inr (.inl fun _ => 0)))]) → va_S A H0 H1 locs → W p l e R s m args below meth c H1 locs (cells + 1) (slots + N) Q (F0 m (pc + 2) ls (.ref q :: rest))) : W p l e R s m args below meth c H locs cells slots Q (F0 m pc ls (.int n :: rest)) := by
  refine va_newa (atype := .long) (ty := .long) (a0 := (N, .inr (.inl fun _ => 0))) hexec hb harr rfl hK hP hD hS hA (fun cA => rfl) hn hN hbytes hcells hslots hdg (fun q cA H1 hK1 hP1 hD1 hS1 => ?_)
  have e1 := va_nm_long (hK1.2 2 (cA, .long) rfl).2
  have e2 := va_nm_long (hK.2 1 (cJ, .long) rfl).2
  cases e1.symm.trans e2
  exact kk q H1 hP1 hD1 hS1
end IN
theorem eX0_init_0 : decode cX0_init 0 = .ok (.aload_n 0, 1) := by decide +kernel
theorem eX0_init_1 : decode cX0_init 1 = .ok (.invokespecial 3, 3) := by decide +kernel
theorem eX0_init_4 : decode cX0_init 4 = .ok (.aload_n 0, 1) := by decide +kernel
theorem eX0_init_5 : decode cX0_init 5 = .ok (.bipush 8, 2) := by decide +kernel
theorem eX0_init_7 : decode cX0_init 7 = .ok (.newarray .int, 2) := by decide +kernel
theorem eX0_init_9 : decode cX0_init 9 = .ok (.putfield 9, 3) := by decide +kernel
theorem eX0_init_12 : decode cX0_init 12 = .ok (.aload_n 0, 1) := by decide +kernel
theorem eX0_init_13 : decode cX0_init 13 = .ok (.bipush 8, 2) := by decide +kernel
theorem eX0_init_15 : decode cX0_init 15 = .ok (.newarray .int, 2) := by decide +kernel
theorem eX0_init_17 : decode cX0_init 17 = .ok (.putfield 15, 3) := by decide +kernel
theorem eX0_init_20 : decode cX0_init 20 = .ok (.aload_n 0, 1) := by decide +kernel
theorem eX0_init_21 : decode cX0_init 21 = .ok (.bipush 8, 2) := by decide +kernel
theorem eX0_init_23 : decode cX0_init 23 = .ok (.newarray .int, 2) := by decide +kernel
theorem eX0_init_25 : decode cX0_init 25 = .ok (.putfield 18, 3) := by decide +kernel
theorem eX0_init_28 : decode cX0_init 28 = .ok (.aload_n 0, 1) := by decide +kernel
theorem eX0_init_29 : decode cX0_init 29 = .ok (.bipush 8, 2) := by decide +kernel
theorem eX0_init_31 : decode cX0_init 31 = .ok (.newarray .int, 2) := by decide +kernel
theorem eX0_init_33 : decode cX0_init 33 = .ok (.putfield 21, 3) := by decide +kernel
theorem eX0_init_36 : decode cX0_init 36 = .ok (.aload_n 0, 1) := by decide +kernel
theorem eX0_init_37 : decode cX0_init 37 = .ok (.iconst 0, 1) := by decide +kernel
theorem eX0_init_38 : decode cX0_init 38 = .ok (.putfield 24, 3) := by decide +kernel
theorem eX0_init_41 : decode cX0_init 41 = .ok (.return_, 1) := by decide +kernel
set_option maxHeartbeats 4000000 in
set_option maxRecDepth 100000 in
theorem n_X0 (l : Launch) (D : va_G) (cI cJ : ClassId) (h0 sz : Nat) : Met l yX0_init (wi_w yX0_init cX0_init) ({ frames := 1, cells := 4, slots := 32, locals := 12 }) (va_Pc [.ref h0] (fun U => U.heap.size = sz ∧ va_P D vwCl [(h0, .inr (0, [.null, .null, .null, .null, .int 0]))] U.heap ∧ va_K D vwCl (mm_tys cI cJ) U ∧ va_D (fun _ => True) [(h0, .inr (0, [.null, .null, .null, .null, .int 0]))] ∧ True)) (va_Qv (S := Unit) (fun _ => True) (fun (_ : Unit) t => ∃ q1 q2 q3 q4 : Nat, va_P D vwCl [(h0, .inr (0, [.ref q1, .ref q2, .ref q3, .ref q4, .int 0])), (q1, .inl (cI, 8, .inl fun _ => 0)), (q2, .inl (cI, 8, .inl fun _ => 0)), (q3, .inl (cI, 8, .inl fun _ => 0)), (q4, .inl (cI, 8, .inl fun _ => 0))] t.heap ∧ va_K D vwCl (mm_tys cI cJ) t ∧ va_D (va_A [(h0, .inr (0, [.null, .null, .null, .null, .int 0]))] sz) [(h0, .inr (0, [.ref q1, .ref q2, .ref q3, .ref q4, .int 0])), (q1, .inl (cI, 8, .inl fun _ => 0)), (q2, .inl (cI, 8, .inl fun _ => 0)), (q3, .inl (cI, 8, .inl fun _ => 0)), (q4, .inl (cI, 8, .inl fun _ => 0))]) (va_A [(h0, .inr (0, [.null, .null, .null, .null, .int 0]))] sz)) 4 32 (va_A [(h0, .inr (0, [.null, .null, .null, .null, .int 0]))] sz) := by
  refine Met.ofW (cc := cX0_init) (maxL := 1) (ret := none) (by decide) rfl ?_
  intro p e s m args below meth c s₁ B hml hv
  obtain ⟨rfl, hsz, hP, hK, hD0, -⟩ := hv
  have hx := B.exec
  have hb := B.bytes
  have hr := B.returns
  have hts := atoms_spec (ws := wi_w yX0_init cX0_init) B.pre
  have hown : s.vm.findClass RX0 = some m.cls := findClass_of_methodNamed B.named
  have hlocks := B.notSynchronized
  have hin : meth.name = "<init>" := (name_of_methodNamed B.named B.method).1
  subst hsz
  have hD := hD0.self (sz := s.heap.size)
  generalize hAe : va_A [(h0, .inr (0, [.null, .null, .null, .null, .int 0]))] s.heap.size = A at hD ⊢
  have hA : ∀ q : Nat, s.heap.size ≤ q → A q := fun q h => by rw [← hAe]; exact Or.inr h
  have hS : va_S A s.heap s.heap [] := va_S.rf
  have hl := lv_entry ([.ref h0]) (n := 1) (Nat.le_of_ble_eq_true rfl)
  rw [lg_entry_eq]
  generalize (lg_sl ([.ref h0]) ++ List.replicate (1 - (lg_sl ([.ref h0])).length) Slot.unset).toArray = ls at hl ⊢
  have hl : lv_has ls 1 [(0, .ref h0)] := hl
  refine lv_aload_n hx hb eX0_init_0 rfl (lv_at hl 0 rfl) ?_
  refine W.objInit hx hb hown (hts (.methodLink RX0 3 objectInit) (wi 79 rfl)) (hts (.instanceMethod objectInit) (wi 80 rfl)) (hts (.code objectInit ⟨#[0xb1]⟩ 1 none) (wi 81 rfl)) rfl (by rw [hml]; exact hl.1) rfl eX0_init_1 (Nat.le_of_ble_eq_true rfl) (Nat.le_of_ble_eq_true rfl) ?_
  refine W.eq (g2 := F0 m 4 ls []) rfl ?_
  refine lv_aload_n hx hb eX0_init_4 rfl (lv_at hl 0 rfl) ?_
  refine lv_bipush (v := 8) hx hb eX0_init_5 (by decide) ?_
  refine in_newi (N := 8) hx hb (hts (.arrayClass .int) (wi 82 rfl)) hK hP hD hS hA (by decide) (by decide) (Nat.le_of_ble_eq_true rfl) (Nat.le_of_ble_eq_true rfl) (Nat.le_of_ble_eq_true rfl) eX0_init_7 (fun q1 H hP hD hS => ?_)
  have hP : va_P D vwCl [(h0, .inr (0, [.null, .null, .null, .null, .int 0])), (q1, .inl (cI, 8, .inl fun _ => 0))] H := hP
  have hD : va_D A [(h0, .inr (0, [.null, .null, .null, .null, .int 0])), (q1, .inl (cI, 8, .inl fun _ => 0))] := hD
  refine va_putF (D := D) (ci := 0) (v := .ref q1) (ty := .array .int) (C := RX0) (T := TX0) (N := 5) hx hb hts (wi_uX0) tyX0 tyX0_ok nmX0 hown hK hP hD hS 0 rfl rfl 0 (by decide) (hts (.fieldLink RX0 9 "ToldScenes$Cast" "from" "[I") (wi 83 rfl)) (fun _ h9 => h9) rfl hin rfl (by decide +kernel) rfl rfl (Nat.le_of_ble_eq_true rfl) eX0_init_9 (fun H locs hP hD hS => ?_)
  have hP : va_P D vwCl [(h0, .inr (0, [.ref q1, .null, .null, .null, .int 0])), (q1, .inl (cI, 8, .inl fun _ => 0))] H := hP
  have hD : va_D A [(h0, .inr (0, [.ref q1, .null, .null, .null, .int 0])), (q1, .inl (cI, 8, .inl fun _ => 0))] := hD
  refine lv_aload_n hx hb eX0_init_12 rfl (lv_at hl 0 rfl) ?_
  refine lv_bipush (v := 8) hx hb eX0_init_13 (by decide) ?_
  refine in_newi (N := 8) hx hb (hts (.arrayClass .int) (wi 82 rfl)) hK hP hD hS hA (by decide) (by decide) (Nat.le_of_ble_eq_true rfl) (Nat.le_of_ble_eq_true rfl) (Nat.le_of_ble_eq_true rfl) eX0_init_15 (fun q2 H hP hD hS => ?_)
  have hP : va_P D vwCl [(h0, .inr (0, [.ref q1, .null, .null, .null, .int 0])), (q1, .inl (cI, 8, .inl fun _ => 0)), (q2, .inl (cI, 8, .inl fun _ => 0))] H := hP
  have hD : va_D A [(h0, .inr (0, [.ref q1, .null, .null, .null, .int 0])), (q1, .inl (cI, 8, .inl fun _ => 0)), (q2, .inl (cI, 8, .inl fun _ => 0))] := hD
  refine va_putF (D := D) (ci := 0) (v := .ref q2) (ty := .array .int) (C := RX0) (T := TX0) (N := 5) hx hb hts (wi_uX0) tyX0 tyX0_ok nmX0 hown hK hP hD hS 0 rfl rfl 1 (by decide) (hts (.fieldLink RX0 15 "ToldScenes$Cast" "length" "[I") (wi 84 rfl)) (fun _ h9 => h9) rfl hin rfl (by decide +kernel) rfl rfl (Nat.le_of_ble_eq_true rfl) eX0_init_17 (fun H locs hP hD hS => ?_)
  have hP : va_P D vwCl [(h0, .inr (0, [.ref q1, .ref q2, .null, .null, .int 0])), (q1, .inl (cI, 8, .inl fun _ => 0)), (q2, .inl (cI, 8, .inl fun _ => 0))] H := hP
  have hD : va_D A [(h0, .inr (0, [.ref q1, .ref q2, .null, .null, .int 0])), (q1, .inl (cI, 8, .inl fun _ => 0)), (q2, .inl (cI, 8, .inl fun _ => 0))] := hD
  refine lv_aload_n hx hb eX0_init_20 rfl (lv_at hl 0 rfl) ?_
  refine lv_bipush (v := 8) hx hb eX0_init_21 (by decide) ?_
  refine in_newi (N := 8) hx hb (hts (.arrayClass .int) (wi 82 rfl)) hK hP hD hS hA (by decide) (by decide) (Nat.le_of_ble_eq_true rfl) (Nat.le_of_ble_eq_true rfl) (Nat.le_of_ble_eq_true rfl) eX0_init_23 (fun q3 H hP hD hS => ?_)
  have hP : va_P D vwCl [(h0, .inr (0, [.ref q1, .ref q2, .null, .null, .int 0])), (q1, .inl (cI, 8, .inl fun _ => 0)), (q2, .inl (cI, 8, .inl fun _ => 0)), (q3, .inl (cI, 8, .inl fun _ => 0))] H := hP
  have hD : va_D A [(h0, .inr (0, [.ref q1, .ref q2, .null, .null, .int 0])), (q1, .inl (cI, 8, .inl fun _ => 0)), (q2, .inl (cI, 8, .inl fun _ => 0)), (q3, .inl (cI, 8, .inl fun _ => 0))] := hD
  refine va_putF (D := D) (ci := 0) (v := .ref q3) (ty := .array .int) (C := RX0) (T := TX0) (N := 5) hx hb hts (wi_uX0) tyX0 tyX0_ok nmX0 hown hK hP hD hS 0 rfl rfl 2 (by decide) (hts (.fieldLink RX0 18 "ToldScenes$Cast" "gives" "[I") (wi 85 rfl)) (fun _ h9 => h9) rfl hin rfl (by decide +kernel) rfl rfl (Nat.le_of_ble_eq_true rfl) eX0_init_25 (fun H locs hP hD hS => ?_)
  have hP : va_P D vwCl [(h0, .inr (0, [.ref q1, .ref q2, .ref q3, .null, .int 0])), (q1, .inl (cI, 8, .inl fun _ => 0)), (q2, .inl (cI, 8, .inl fun _ => 0)), (q3, .inl (cI, 8, .inl fun _ => 0))] H := hP
  have hD : va_D A [(h0, .inr (0, [.ref q1, .ref q2, .ref q3, .null, .int 0])), (q1, .inl (cI, 8, .inl fun _ => 0)), (q2, .inl (cI, 8, .inl fun _ => 0)), (q3, .inl (cI, 8, .inl fun _ => 0))] := hD
  refine lv_aload_n hx hb eX0_init_28 rfl (lv_at hl 0 rfl) ?_
  refine lv_bipush (v := 8) hx hb eX0_init_29 (by decide) ?_
  refine in_newi (N := 8) hx hb (hts (.arrayClass .int) (wi 82 rfl)) hK hP hD hS hA (by decide) (by decide) (Nat.le_of_ble_eq_true rfl) (Nat.le_of_ble_eq_true rfl) (Nat.le_of_ble_eq_true rfl) eX0_init_31 (fun q4 H hP hD hS => ?_)
  have hP : va_P D vwCl [(h0, .inr (0, [.ref q1, .ref q2, .ref q3, .null, .int 0])), (q1, .inl (cI, 8, .inl fun _ => 0)), (q2, .inl (cI, 8, .inl fun _ => 0)), (q3, .inl (cI, 8, .inl fun _ => 0)), (q4, .inl (cI, 8, .inl fun _ => 0))] H := hP
  have hD : va_D A [(h0, .inr (0, [.ref q1, .ref q2, .ref q3, .null, .int 0])), (q1, .inl (cI, 8, .inl fun _ => 0)), (q2, .inl (cI, 8, .inl fun _ => 0)), (q3, .inl (cI, 8, .inl fun _ => 0)), (q4, .inl (cI, 8, .inl fun _ => 0))] := hD
  refine va_putF (D := D) (ci := 0) (v := .ref q4) (ty := .array .int) (C := RX0) (T := TX0) (N := 5) hx hb hts (wi_uX0) tyX0 tyX0_ok nmX0 hown hK hP hD hS 0 rfl rfl 3 (by decide) (hts (.fieldLink RX0 21 "ToldScenes$Cast" "needs" "[I") (wi 86 rfl)) (fun _ h9 => h9) rfl hin rfl (by decide +kernel) rfl rfl (Nat.le_of_ble_eq_true rfl) eX0_init_33 (fun H locs hP hD hS => ?_)
  have hP : va_P D vwCl [(h0, .inr (0, [.ref q1, .ref q2, .ref q3, .ref q4, .int 0])), (q1, .inl (cI, 8, .inl fun _ => 0)), (q2, .inl (cI, 8, .inl fun _ => 0)), (q3, .inl (cI, 8, .inl fun _ => 0)), (q4, .inl (cI, 8, .inl fun _ => 0))] H := hP
  have hD : va_D A [(h0, .inr (0, [.ref q1, .ref q2, .ref q3, .ref q4, .int 0])), (q1, .inl (cI, 8, .inl fun _ => 0)), (q2, .inl (cI, 8, .inl fun _ => 0)), (q3, .inl (cI, 8, .inl fun _ => 0)), (q4, .inl (cI, 8, .inl fun _ => 0))] := hD
  refine lv_aload_n hx hb eX0_init_36 rfl (lv_at hl 0 rfl) ?_
  refine lv_iconst (v := 0) hx hb eX0_init_37 (by decide) ?_
  refine va_put (D := D) (ci := 0) (v := .int 0) (ty := .int) (C := RX0) (T := TX0) (N := 5) hx hb hts (wi_uX0) tyX0 tyX0_ok nmX0 hown hK hP hD hS 0 rfl rfl 4 (by decide) (hts (.fieldLink RX0 24 "ToldScenes$Cast" "count" "I") (wi 87 rfl)) (fun _ h9 => h9) rfl (by decide +kernel) rfl rfl (Nat.le_of_ble_eq_true rfl) eX0_init_38 (fun H locs hP hD hS => ?_)
  have hP : va_P D vwCl [(h0, .inr (0, [.ref q1, .ref q2, .ref q3, .ref q4, .int 0])), (q1, .inl (cI, 8, .inl fun _ => 0)), (q2, .inl (cI, 8, .inl fun _ => 0)), (q3, .inl (cI, 8, .inl fun _ => 0)), (q4, .inl (cI, 8, .inl fun _ => 0))] H := hP
  have hD : va_D A [(h0, .inr (0, [.ref q1, .ref q2, .ref q3, .ref q4, .int 0])), (q1, .inl (cI, 8, .inl fun _ => 0)), (q2, .inl (cI, 8, .inl fun _ => 0)), (q3, .inl (cI, 8, .inl fun _ => 0)), (q4, .inl (cI, 8, .inl fun _ => 0))] := hD
  exact W.vret hx hb hr (fun t ht hW => ⟨⟨(), rfl, trivial, q1, q2, q3, q4, by rw [ht]; exact hP, va_K.moved hW.alike hK, hD⟩, hS.F ht⟩) hS.2.2 eX0_init_41
theorem eX3_init_0 : decode cX3_init 0 = .ok (.aload_n 0, 1) := by decide +kernel
theorem eX3_init_1 : decode cX3_init 1 = .ok (.invokespecial 3, 3) := by decide +kernel
theorem eX3_init_4 : decode cX3_init 4 = .ok (.aload_n 0, 1) := by decide +kernel
theorem eX3_init_5 : decode cX3_init 5 = .ok (.bipush 8, 2) := by decide +kernel
theorem eX3_init_7 : decode cX3_init 7 = .ok (.newarray .int, 2) := by decide +kernel
theorem eX3_init_9 : decode cX3_init 9 = .ok (.putfield 9, 3) := by decide +kernel
theorem eX3_init_12 : decode cX3_init 12 = .ok (.aload_n 0, 1) := by decide +kernel
theorem eX3_init_13 : decode cX3_init 13 = .ok (.bipush 8, 2) := by decide +kernel
theorem eX3_init_15 : decode cX3_init 15 = .ok (.newarray .int, 2) := by decide +kernel
theorem eX3_init_17 : decode cX3_init 17 = .ok (.putfield 15, 3) := by decide +kernel
theorem eX3_init_20 : decode cX3_init 20 = .ok (.aload_n 0, 1) := by decide +kernel
theorem eX3_init_21 : decode cX3_init 21 = .ok (.bipush 8, 2) := by decide +kernel
theorem eX3_init_23 : decode cX3_init 23 = .ok (.newarray .int, 2) := by decide +kernel
theorem eX3_init_25 : decode cX3_init 25 = .ok (.putfield 18, 3) := by decide +kernel
theorem eX3_init_28 : decode cX3_init 28 = .ok (.aload_n 0, 1) := by decide +kernel
theorem eX3_init_29 : decode cX3_init 29 = .ok (.bipush 8, 2) := by decide +kernel
theorem eX3_init_31 : decode cX3_init 31 = .ok (.newarray .int, 2) := by decide +kernel
theorem eX3_init_33 : decode cX3_init 33 = .ok (.putfield 21, 3) := by decide +kernel
theorem eX3_init_36 : decode cX3_init 36 = .ok (.return_, 1) := by decide +kernel
set_option maxHeartbeats 4000000 in
set_option maxRecDepth 100000 in
theorem n_X3 (l : Launch) (D : va_G) (cI cJ : ClassId) (h0 sz : Nat) : Met l yX3_init (wi_w yX3_init cX3_init) ({ frames := 1, cells := 4, slots := 32, locals := 12 }) (va_Pc [.ref h0] (fun U => U.heap.size = sz ∧ va_P D vwCl [(h0, .inr (3, [.null, .null, .null, .null, .int 0, .int 0, .int 0, .int 0, .int 0, .int 0, .long 0, .int 0, .int 0, .int 0, .int 0]))] U.heap ∧ va_K D vwCl (mm_tys cI cJ) U ∧ va_D (fun _ => True) [(h0, .inr (3, [.null, .null, .null, .null, .int 0, .int 0, .int 0, .int 0, .int 0, .int 0, .long 0, .int 0, .int 0, .int 0, .int 0]))] ∧ True)) (va_Qv (S := Unit) (fun _ => True) (fun (_ : Unit) t => ∃ q1 q2 q3 q4 : Nat, va_P D vwCl [(h0, .inr (3, [.ref q1, .ref q2, .ref q3, .ref q4, .int 0, .int 0, .int 0, .int 0, .int 0, .int 0, .long 0, .int 0, .int 0, .int 0, .int 0])), (q1, .inl (cI, 8, .inl fun _ => 0)), (q2, .inl (cI, 8, .inl fun _ => 0)), (q3, .inl (cI, 8, .inl fun _ => 0)), (q4, .inl (cI, 8, .inl fun _ => 0))] t.heap ∧ va_K D vwCl (mm_tys cI cJ) t ∧ va_D (va_A [(h0, .inr (3, [.null, .null, .null, .null, .int 0, .int 0, .int 0, .int 0, .int 0, .int 0, .long 0, .int 0, .int 0, .int 0, .int 0]))] sz) [(h0, .inr (3, [.ref q1, .ref q2, .ref q3, .ref q4, .int 0, .int 0, .int 0, .int 0, .int 0, .int 0, .long 0, .int 0, .int 0, .int 0, .int 0])), (q1, .inl (cI, 8, .inl fun _ => 0)), (q2, .inl (cI, 8, .inl fun _ => 0)), (q3, .inl (cI, 8, .inl fun _ => 0)), (q4, .inl (cI, 8, .inl fun _ => 0))]) (va_A [(h0, .inr (3, [.null, .null, .null, .null, .int 0, .int 0, .int 0, .int 0, .int 0, .int 0, .long 0, .int 0, .int 0, .int 0, .int 0]))] sz)) 4 32 (va_A [(h0, .inr (3, [.null, .null, .null, .null, .int 0, .int 0, .int 0, .int 0, .int 0, .int 0, .long 0, .int 0, .int 0, .int 0, .int 0]))] sz) := by
  refine Met.ofW (cc := cX3_init) (maxL := 1) (ret := none) (by decide) rfl ?_
  intro p e s m args below meth c s₁ B hml hv
  obtain ⟨rfl, hsz, hP, hK, hD0, -⟩ := hv
  have hx := B.exec
  have hb := B.bytes
  have hr := B.returns
  have hts := atoms_spec (ws := wi_w yX3_init cX3_init) B.pre
  have hown : s.vm.findClass RX3 = some m.cls := findClass_of_methodNamed B.named
  have hlocks := B.notSynchronized
  have hin : meth.name = "<init>" := (name_of_methodNamed B.named B.method).1
  subst hsz
  have hD := hD0.self (sz := s.heap.size)
  generalize hAe : va_A [(h0, .inr (3, [.null, .null, .null, .null, .int 0, .int 0, .int 0, .int 0, .int 0, .int 0, .long 0, .int 0, .int 0, .int 0, .int 0]))] s.heap.size = A at hD ⊢
  have hA : ∀ q : Nat, s.heap.size ≤ q → A q := fun q h => by rw [← hAe]; exact Or.inr h
  have hS : va_S A s.heap s.heap [] := va_S.rf
  have hl := lv_entry ([.ref h0]) (n := 1) (Nat.le_of_ble_eq_true rfl)
  rw [lg_entry_eq]
  generalize (lg_sl ([.ref h0]) ++ List.replicate (1 - (lg_sl ([.ref h0])).length) Slot.unset).toArray = ls at hl ⊢
  have hl : lv_has ls 1 [(0, .ref h0)] := hl
  refine lv_aload_n hx hb eX3_init_0 rfl (lv_at hl 0 rfl) ?_
  refine W.objInit hx hb hown (hts (.methodLink RX3 3 objectInit) (wi 89 rfl)) (hts (.instanceMethod objectInit) (wi 80 rfl)) (hts (.code objectInit ⟨#[0xb1]⟩ 1 none) (wi 81 rfl)) rfl (by rw [hml]; exact hl.1) rfl eX3_init_1 (Nat.le_of_ble_eq_true rfl) (Nat.le_of_ble_eq_true rfl) ?_
  refine W.eq (g2 := F0 m 4 ls []) rfl ?_
  refine lv_aload_n hx hb eX3_init_4 rfl (lv_at hl 0 rfl) ?_
  refine lv_bipush (v := 8) hx hb eX3_init_5 (by decide) ?_
  refine in_newi (N := 8) hx hb (hts (.arrayClass .int) (wi 82 rfl)) hK hP hD hS hA (by decide) (by decide) (Nat.le_of_ble_eq_true rfl) (Nat.le_of_ble_eq_true rfl) (Nat.le_of_ble_eq_true rfl) eX3_init_7 (fun q1 H hP hD hS => ?_)
  have hP : va_P D vwCl [(h0, .inr (3, [.null, .null, .null, .null, .int 0, .int 0, .int 0, .int 0, .int 0, .int 0, .long 0, .int 0, .int 0, .int 0, .int 0])), (q1, .inl (cI, 8, .inl fun _ => 0))] H := hP
  have hD : va_D A [(h0, .inr (3, [.null, .null, .null, .null, .int 0, .int 0, .int 0, .int 0, .int 0, .int 0, .long 0, .int 0, .int 0, .int 0, .int 0])), (q1, .inl (cI, 8, .inl fun _ => 0))] := hD
  refine va_putF (D := D) (ci := 3) (v := .ref q1) (ty := .array .int) (C := RX3) (T := TX3) (N := 15) hx hb hts (wi_uX3) tyX3 tyX3_ok nmX3 hown hK hP hD hS 0 rfl rfl 0 (by decide) (hts (.fieldLink RX3 9 "ToldScenes$Look" "turnOf" "[I") (wi 90 rfl)) (fun _ h9 => h9) rfl hin rfl (by decide +kernel) rfl rfl (Nat.le_of_ble_eq_true rfl) eX3_init_9 (fun H locs hP hD hS => ?_)
  have hP : va_P D vwCl [(h0, .inr (3, [.ref q1, .null, .null, .null, .int 0, .int 0, .int 0, .int 0, .int 0, .int 0, .long 0, .int 0, .int 0, .int 0, .int 0])), (q1, .inl (cI, 8, .inl fun _ => 0))] H := hP
  have hD : va_D A [(h0, .inr (3, [.ref q1, .null, .null, .null, .int 0, .int 0, .int 0, .int 0, .int 0, .int 0, .long 0, .int 0, .int 0, .int 0, .int 0])), (q1, .inl (cI, 8, .inl fun _ => 0))] := hD
  refine lv_aload_n hx hb eX3_init_12 rfl (lv_at hl 0 rfl) ?_
  refine lv_bipush (v := 8) hx hb eX3_init_13 (by decide) ?_
  refine in_newi (N := 8) hx hb (hts (.arrayClass .int) (wi 82 rfl)) hK hP hD hS hA (by decide) (by decide) (Nat.le_of_ble_eq_true rfl) (Nat.le_of_ble_eq_true rfl) (Nat.le_of_ble_eq_true rfl) eX3_init_15 (fun q2 H hP hD hS => ?_)
  have hP : va_P D vwCl [(h0, .inr (3, [.ref q1, .null, .null, .null, .int 0, .int 0, .int 0, .int 0, .int 0, .int 0, .long 0, .int 0, .int 0, .int 0, .int 0])), (q1, .inl (cI, 8, .inl fun _ => 0)), (q2, .inl (cI, 8, .inl fun _ => 0))] H := hP
  have hD : va_D A [(h0, .inr (3, [.ref q1, .null, .null, .null, .int 0, .int 0, .int 0, .int 0, .int 0, .int 0, .long 0, .int 0, .int 0, .int 0, .int 0])), (q1, .inl (cI, 8, .inl fun _ => 0)), (q2, .inl (cI, 8, .inl fun _ => 0))] := hD
  refine va_putF (D := D) (ci := 3) (v := .ref q2) (ty := .array .int) (C := RX3) (T := TX3) (N := 15) hx hb hts (wi_uX3) tyX3 tyX3_ok nmX3 hown hK hP hD hS 0 rfl rfl 1 (by decide) (hts (.fieldLink RX3 15 "ToldScenes$Look" "depthOf" "[I") (wi 91 rfl)) (fun _ h9 => h9) rfl hin rfl (by decide +kernel) rfl rfl (Nat.le_of_ble_eq_true rfl) eX3_init_17 (fun H locs hP hD hS => ?_)
  have hP : va_P D vwCl [(h0, .inr (3, [.ref q1, .ref q2, .null, .null, .int 0, .int 0, .int 0, .int 0, .int 0, .int 0, .long 0, .int 0, .int 0, .int 0, .int 0])), (q1, .inl (cI, 8, .inl fun _ => 0)), (q2, .inl (cI, 8, .inl fun _ => 0))] H := hP
  have hD : va_D A [(h0, .inr (3, [.ref q1, .ref q2, .null, .null, .int 0, .int 0, .int 0, .int 0, .int 0, .int 0, .long 0, .int 0, .int 0, .int 0, .int 0])), (q1, .inl (cI, 8, .inl fun _ => 0)), (q2, .inl (cI, 8, .inl fun _ => 0))] := hD
  refine lv_aload_n hx hb eX3_init_20 rfl (lv_at hl 0 rfl) ?_
  refine lv_bipush (v := 8) hx hb eX3_init_21 (by decide) ?_
  refine in_newi (N := 8) hx hb (hts (.arrayClass .int) (wi 82 rfl)) hK hP hD hS hA (by decide) (by decide) (Nat.le_of_ble_eq_true rfl) (Nat.le_of_ble_eq_true rfl) (Nat.le_of_ble_eq_true rfl) eX3_init_23 (fun q3 H hP hD hS => ?_)
  have hP : va_P D vwCl [(h0, .inr (3, [.ref q1, .ref q2, .null, .null, .int 0, .int 0, .int 0, .int 0, .int 0, .int 0, .long 0, .int 0, .int 0, .int 0, .int 0])), (q1, .inl (cI, 8, .inl fun _ => 0)), (q2, .inl (cI, 8, .inl fun _ => 0)), (q3, .inl (cI, 8, .inl fun _ => 0))] H := hP
  have hD : va_D A [(h0, .inr (3, [.ref q1, .ref q2, .null, .null, .int 0, .int 0, .int 0, .int 0, .int 0, .int 0, .long 0, .int 0, .int 0, .int 0, .int 0])), (q1, .inl (cI, 8, .inl fun _ => 0)), (q2, .inl (cI, 8, .inl fun _ => 0)), (q3, .inl (cI, 8, .inl fun _ => 0))] := hD
  refine va_putF (D := D) (ci := 3) (v := .ref q3) (ty := .array .int) (C := RX3) (T := TX3) (N := 15) hx hb hts (wi_uX3) tyX3 tyX3_ok nmX3 hown hK hP hD hS 0 rfl rfl 2 (by decide) (hts (.fieldLink RX3 18 "ToldScenes$Look" "tellerOf" "[I") (wi 92 rfl)) (fun _ h9 => h9) rfl hin rfl (by decide +kernel) rfl rfl (Nat.le_of_ble_eq_true rfl) eX3_init_25 (fun H locs hP hD hS => ?_)
  have hP : va_P D vwCl [(h0, .inr (3, [.ref q1, .ref q2, .ref q3, .null, .int 0, .int 0, .int 0, .int 0, .int 0, .int 0, .long 0, .int 0, .int 0, .int 0, .int 0])), (q1, .inl (cI, 8, .inl fun _ => 0)), (q2, .inl (cI, 8, .inl fun _ => 0)), (q3, .inl (cI, 8, .inl fun _ => 0))] H := hP
  have hD : va_D A [(h0, .inr (3, [.ref q1, .ref q2, .ref q3, .null, .int 0, .int 0, .int 0, .int 0, .int 0, .int 0, .long 0, .int 0, .int 0, .int 0, .int 0])), (q1, .inl (cI, 8, .inl fun _ => 0)), (q2, .inl (cI, 8, .inl fun _ => 0)), (q3, .inl (cI, 8, .inl fun _ => 0))] := hD
  refine lv_aload_n hx hb eX3_init_28 rfl (lv_at hl 0 rfl) ?_
  refine lv_bipush (v := 8) hx hb eX3_init_29 (by decide) ?_
  refine in_newi (N := 8) hx hb (hts (.arrayClass .int) (wi 82 rfl)) hK hP hD hS hA (by decide) (by decide) (Nat.le_of_ble_eq_true rfl) (Nat.le_of_ble_eq_true rfl) (Nat.le_of_ble_eq_true rfl) eX3_init_31 (fun q4 H hP hD hS => ?_)
  have hP : va_P D vwCl [(h0, .inr (3, [.ref q1, .ref q2, .ref q3, .null, .int 0, .int 0, .int 0, .int 0, .int 0, .int 0, .long 0, .int 0, .int 0, .int 0, .int 0])), (q1, .inl (cI, 8, .inl fun _ => 0)), (q2, .inl (cI, 8, .inl fun _ => 0)), (q3, .inl (cI, 8, .inl fun _ => 0)), (q4, .inl (cI, 8, .inl fun _ => 0))] H := hP
  have hD : va_D A [(h0, .inr (3, [.ref q1, .ref q2, .ref q3, .null, .int 0, .int 0, .int 0, .int 0, .int 0, .int 0, .long 0, .int 0, .int 0, .int 0, .int 0])), (q1, .inl (cI, 8, .inl fun _ => 0)), (q2, .inl (cI, 8, .inl fun _ => 0)), (q3, .inl (cI, 8, .inl fun _ => 0)), (q4, .inl (cI, 8, .inl fun _ => 0))] := hD
  refine va_putF (D := D) (ci := 3) (v := .ref q4) (ty := .array .int) (C := RX3) (T := TX3) (N := 15) hx hb hts (wi_uX3) tyX3 tyX3_ok nmX3 hown hK hP hD hS 0 rfl rfl 3 (by decide) (hts (.fieldLink RX3 21 "ToldScenes$Look" "sideOf" "[I") (wi 93 rfl)) (fun _ h9 => h9) rfl hin rfl (by decide +kernel) rfl rfl (Nat.le_of_ble_eq_true rfl) eX3_init_33 (fun H locs hP hD hS => ?_)
  have hP : va_P D vwCl [(h0, .inr (3, [.ref q1, .ref q2, .ref q3, .ref q4, .int 0, .int 0, .int 0, .int 0, .int 0, .int 0, .long 0, .int 0, .int 0, .int 0, .int 0])), (q1, .inl (cI, 8, .inl fun _ => 0)), (q2, .inl (cI, 8, .inl fun _ => 0)), (q3, .inl (cI, 8, .inl fun _ => 0)), (q4, .inl (cI, 8, .inl fun _ => 0))] H := hP
  have hD : va_D A [(h0, .inr (3, [.ref q1, .ref q2, .ref q3, .ref q4, .int 0, .int 0, .int 0, .int 0, .int 0, .int 0, .long 0, .int 0, .int 0, .int 0, .int 0])), (q1, .inl (cI, 8, .inl fun _ => 0)), (q2, .inl (cI, 8, .inl fun _ => 0)), (q3, .inl (cI, 8, .inl fun _ => 0)), (q4, .inl (cI, 8, .inl fun _ => 0))] := hD
  exact W.vret hx hb hr (fun t ht hW => ⟨⟨(), rfl, trivial, q1, q2, q3, q4, by rw [ht]; exact hP, va_K.moved hW.alike hK, hD⟩, hS.F ht⟩) hS.2.2 eX3_init_36
theorem eX2_init_0 : decode cX2_init 0 = .ok (.aload_n 0, 1) := by decide +kernel
theorem eX2_init_1 : decode cX2_init 1 = .ok (.invokespecial 3, 3) := by decide +kernel
theorem eX2_init_4 : decode cX2_init 4 = .ok (.aload_n 0, 1) := by decide +kernel
theorem eX2_init_5 : decode cX2_init 5 = .ok (.sipush 2048, 3) := by decide +kernel
theorem eX2_init_8 : decode cX2_init 8 = .ok (.newarray .long, 2) := by decide +kernel
theorem eX2_init_10 : decode cX2_init 10 = .ok (.putfield 11, 3) := by decide +kernel
theorem eX2_init_13 : decode cX2_init 13 = .ok (.aload_n 0, 1) := by decide +kernel
theorem eX2_init_14 : decode cX2_init 14 = .ok (.bipush 8, 2) := by decide +kernel
theorem eX2_init_16 : decode cX2_init 16 = .ok (.newarray .int, 2) := by decide +kernel
theorem eX2_init_18 : decode cX2_init 18 = .ok (.putfield 15, 3) := by decide +kernel
theorem eX2_init_21 : decode cX2_init 21 = .ok (.aload_n 0, 1) := by decide +kernel
theorem eX2_init_22 : decode cX2_init 22 = .ok (.iconst 0, 1) := by decide +kernel
theorem eX2_init_23 : decode cX2_init 23 = .ok (.putfield 19, 3) := by decide +kernel
theorem eX2_init_26 : decode cX2_init 26 = .ok (.aload_n 0, 1) := by decide +kernel
theorem eX2_init_27 : decode cX2_init 27 = .ok (.lconst 0, 1) := by decide +kernel
theorem eX2_init_28 : decode cX2_init 28 = .ok (.putfield 23, 3) := by decide +kernel
theorem eX2_init_31 : decode cX2_init 31 = .ok (.aload_n 0, 1) := by decide +kernel
theorem eX2_init_32 : decode cX2_init 32 = .ok (.iconst 0, 1) := by decide +kernel
theorem eX2_init_33 : decode cX2_init 33 = .ok (.putfield 27, 3) := by decide +kernel
theorem eX2_init_36 : decode cX2_init 36 = .ok (.return_, 1) := by decide +kernel
set_option maxHeartbeats 4000000 in
set_option maxRecDepth 100000 in
theorem n_X2 (l : Launch) (D : va_G) (cI cJ : ClassId) (h0 sz : Nat) : Met l yX2_init (wi_w yX2_init cX2_init) ({ frames := 1, cells := 2, slots := 2056, locals := 12 }) (va_Pc [.ref h0] (fun U => U.heap.size = sz ∧ va_P D vwCl [(h0, .inr (2, [.null, .null, .int 0, .long 0, .int 0]))] U.heap ∧ va_K D vwCl (mm_tys cI cJ) U ∧ va_D (fun _ => True) [(h0, .inr (2, [.null, .null, .int 0, .long 0, .int 0]))] ∧ True)) (va_Qv (S := Unit) (fun _ => True) (fun (_ : Unit) t => ∃ q1 q2 : Nat, va_P D vwCl [(h0, .inr (2, [.ref q1, .ref q2, .int 0, .long 0, .int 0])), (q1, .inl (cJ, 2048, .inr (.inl fun _ => 0))), (q2, .inl (cI, 8, .inl fun _ => 0))] t.heap ∧ va_K D vwCl (mm_tys cI cJ) t ∧ va_D (va_A [(h0, .inr (2, [.null, .null, .int 0, .long 0, .int 0]))] sz) [(h0, .inr (2, [.ref q1, .ref q2, .int 0, .long 0, .int 0])), (q1, .inl (cJ, 2048, .inr (.inl fun _ => 0))), (q2, .inl (cI, 8, .inl fun _ => 0))]) (va_A [(h0, .inr (2, [.null, .null, .int 0, .long 0, .int 0]))] sz)) 2 2056 (va_A [(h0, .inr (2, [.null, .null, .int 0, .long 0, .int 0]))] sz) := by
  refine Met.ofW (cc := cX2_init) (maxL := 1) (ret := none) (by decide) rfl ?_
  intro p e s m args below meth c s₁ B hml hv
  obtain ⟨rfl, hsz, hP, hK, hD0, -⟩ := hv
  have hx := B.exec
  have hb := B.bytes
  have hr := B.returns
  have hts := atoms_spec (ws := wi_w yX2_init cX2_init) B.pre
  have hown : s.vm.findClass RX2 = some m.cls := findClass_of_methodNamed B.named
  have hlocks := B.notSynchronized
  have hin : meth.name = "<init>" := (name_of_methodNamed B.named B.method).1
  subst hsz
  have hD := hD0.self (sz := s.heap.size)
  generalize hAe : va_A [(h0, .inr (2, [.null, .null, .int 0, .long 0, .int 0]))] s.heap.size = A at hD ⊢
  have hA : ∀ q : Nat, s.heap.size ≤ q → A q := fun q h => by rw [← hAe]; exact Or.inr h
  have hS : va_S A s.heap s.heap [] := va_S.rf
  have hl := lv_entry ([.ref h0]) (n := 1) (Nat.le_of_ble_eq_true rfl)
  rw [lg_entry_eq]
  generalize (lg_sl ([.ref h0]) ++ List.replicate (1 - (lg_sl ([.ref h0])).length) Slot.unset).toArray = ls at hl ⊢
  have hl : lv_has ls 1 [(0, .ref h0)] := hl
  refine lv_aload_n hx hb eX2_init_0 rfl (lv_at hl 0 rfl) ?_
  refine W.objInit hx hb hown (hts (.methodLink RX2 3 objectInit) (wi 95 rfl)) (hts (.instanceMethod objectInit) (wi 80 rfl)) (hts (.code objectInit ⟨#[0xb1]⟩ 1 none) (wi 81 rfl)) rfl (by rw [hml]; exact hl.1) rfl eX2_init_1 (Nat.le_of_ble_eq_true rfl) (Nat.le_of_ble_eq_true rfl) ?_
  refine W.eq (g2 := F0 m 4 ls []) rfl ?_
  refine lv_aload_n hx hb eX2_init_4 rfl (lv_at hl 0 rfl) ?_
  refine lv_sipush (v := 2048) hx hb eX2_init_5 (by decide) ?_
  refine in_newl (N := 2048) hx hb (hts (.arrayClass .long) (wi 96 rfl)) hK hP hD hS hA (by decide) (by decide) (Nat.le_of_ble_eq_true rfl) (Nat.le_of_ble_eq_true rfl) (Nat.le_of_ble_eq_true rfl) eX2_init_8 (fun q1 H hP hD hS => ?_)
  have hP : va_P D vwCl [(h0, .inr (2, [.null, .null, .int 0, .long 0, .int 0])), (q1, .inl (cJ, 2048, .inr (.inl fun _ => 0)))] H := hP
  have hD : va_D A [(h0, .inr (2, [.null, .null, .int 0, .long 0, .int 0])), (q1, .inl (cJ, 2048, .inr (.inl fun _ => 0)))] := hD
  refine va_putF (D := D) (ci := 2) (v := .ref q1) (ty := .array .long) (C := RX2) (T := TX2) (N := 5) hx hb hts (wi_uX2) tyX2 tyX2_ok nmX2 hown hK hP hD hS 0 rfl rfl 0 (by decide) (hts (.fieldLink RX2 11 "ToldScenes$LeastOrder" "rest" "[J") (wi 97 rfl)) (fun _ h9 => h9) rfl hin rfl (by decide +kernel) rfl rfl (Nat.le_of_ble_eq_true rfl) eX2_init_10 (fun H locs hP hD hS => ?_)
  have hP : va_P D vwCl [(h0, .inr (2, [.ref q1, .null, .int 0, .long 0, .int 0])), (q1, .inl (cJ, 2048, .inr (.inl fun _ => 0)))] H := hP
  have hD : va_D A [(h0, .inr (2, [.ref q1, .null, .int 0, .long 0, .int 0])), (q1, .inl (cJ, 2048, .inr (.inl fun _ => 0)))] := hD
  refine lv_aload_n hx hb eX2_init_13 rfl (lv_at hl 0 rfl) ?_
  refine lv_bipush (v := 8) hx hb eX2_init_14 (by decide) ?_
  refine in_newi (N := 8) hx hb (hts (.arrayClass .int) (wi 82 rfl)) hK hP hD hS hA (by decide) (by decide) (Nat.le_of_ble_eq_true rfl) (Nat.le_of_ble_eq_true rfl) (Nat.le_of_ble_eq_true rfl) eX2_init_16 (fun q2 H hP hD hS => ?_)
  have hP : va_P D vwCl [(h0, .inr (2, [.ref q1, .null, .int 0, .long 0, .int 0])), (q1, .inl (cJ, 2048, .inr (.inl fun _ => 0))), (q2, .inl (cI, 8, .inl fun _ => 0))] H := hP
  have hD : va_D A [(h0, .inr (2, [.ref q1, .null, .int 0, .long 0, .int 0])), (q1, .inl (cJ, 2048, .inr (.inl fun _ => 0))), (q2, .inl (cI, 8, .inl fun _ => 0))] := hD
  refine va_putF (D := D) (ci := 2) (v := .ref q2) (ty := .array .int) (C := RX2) (T := TX2) (N := 5) hx hb hts (wi_uX2) tyX2 tyX2_ok nmX2 hown hK hP hD hS 0 rfl rfl 1 (by decide) (hts (.fieldLink RX2 15 "ToldScenes$LeastOrder" "scenes" "[I") (wi 98 rfl)) (fun _ h9 => h9) rfl hin rfl (by decide +kernel) rfl rfl (Nat.le_of_ble_eq_true rfl) eX2_init_18 (fun H locs hP hD hS => ?_)
  have hP : va_P D vwCl [(h0, .inr (2, [.ref q1, .ref q2, .int 0, .long 0, .int 0])), (q1, .inl (cJ, 2048, .inr (.inl fun _ => 0))), (q2, .inl (cI, 8, .inl fun _ => 0))] H := hP
  have hD : va_D A [(h0, .inr (2, [.ref q1, .ref q2, .int 0, .long 0, .int 0])), (q1, .inl (cJ, 2048, .inr (.inl fun _ => 0))), (q2, .inl (cI, 8, .inl fun _ => 0))] := hD
  refine lv_aload_n hx hb eX2_init_21 rfl (lv_at hl 0 rfl) ?_
  refine lv_iconst (v := 0) hx hb eX2_init_22 (by decide) ?_
  refine va_put (D := D) (ci := 2) (v := .int 0) (ty := .int) (C := RX2) (T := TX2) (N := 5) hx hb hts (wi_uX2) tyX2 tyX2_ok nmX2 hown hK hP hD hS 0 rfl rfl 2 (by decide) (hts (.fieldLink RX2 19 "ToldScenes$LeastOrder" "count" "I") (wi 99 rfl)) (fun _ h9 => h9) rfl (by decide +kernel) rfl rfl (Nat.le_of_ble_eq_true rfl) eX2_init_23 (fun H locs hP hD hS => ?_)
  have hP : va_P D vwCl [(h0, .inr (2, [.ref q1, .ref q2, .int 0, .long 0, .int 0])), (q1, .inl (cJ, 2048, .inr (.inl fun _ => 0))), (q2, .inl (cI, 8, .inl fun _ => 0))] H := hP
  have hD : va_D A [(h0, .inr (2, [.ref q1, .ref q2, .int 0, .long 0, .int 0])), (q1, .inl (cJ, 2048, .inr (.inl fun _ => 0))), (q2, .inl (cI, 8, .inl fun _ => 0))] := hD
  refine lv_aload_n hx hb eX2_init_26 rfl (lv_at hl 0 rfl) ?_
  refine lv_lconst (v := 0) hx hb eX2_init_27 (by decide) ?_
  refine va_put (D := D) (ci := 2) (v := .long 0) (ty := .long) (C := RX2) (T := TX2) (N := 5) hx hb hts (wi_uX2) tyX2 tyX2_ok nmX2 hown hK hP hD hS 0 rfl rfl 3 (by decide) (hts (.fieldLink RX2 23 "ToldScenes$LeastOrder" "jumpSum" "J") (wi 100 rfl)) (fun _ h9 => h9) rfl (by decide +kernel) rfl rfl (Nat.le_of_ble_eq_true rfl) eX2_init_28 (fun H locs hP hD hS => ?_)
  have hP : va_P D vwCl [(h0, .inr (2, [.ref q1, .ref q2, .int 0, .long 0, .int 0])), (q1, .inl (cJ, 2048, .inr (.inl fun _ => 0))), (q2, .inl (cI, 8, .inl fun _ => 0))] H := hP
  have hD : va_D A [(h0, .inr (2, [.ref q1, .ref q2, .int 0, .long 0, .int 0])), (q1, .inl (cJ, 2048, .inr (.inl fun _ => 0))), (q2, .inl (cI, 8, .inl fun _ => 0))] := hD
  refine lv_aload_n hx hb eX2_init_31 rfl (lv_at hl 0 rfl) ?_
  refine lv_iconst (v := 0) hx hb eX2_init_32 (by decide) ?_
  refine va_put (D := D) (ci := 2) (v := .int 0) (ty := .boolean) (C := RX2) (T := TX2) (N := 5) hx hb hts (wi_uX2) tyX2 tyX2_ok nmX2 hown hK hP hD hS 0 rfl rfl 4 (by decide) (hts (.fieldLink RX2 27 "ToldScenes$LeastOrder" "stands" "Z") (wi 101 rfl)) (fun _ h9 => h9) rfl (by decide +kernel) rfl rfl (Nat.le_of_ble_eq_true rfl) eX2_init_33 (fun H locs hP hD hS => ?_)
  have hP : va_P D vwCl [(h0, .inr (2, [.ref q1, .ref q2, .int 0, .long 0, .int 0])), (q1, .inl (cJ, 2048, .inr (.inl fun _ => 0))), (q2, .inl (cI, 8, .inl fun _ => 0))] H := hP
  have hD : va_D A [(h0, .inr (2, [.ref q1, .ref q2, .int 0, .long 0, .int 0])), (q1, .inl (cJ, 2048, .inr (.inl fun _ => 0))), (q2, .inl (cI, 8, .inl fun _ => 0))] := hD
  exact W.vret hx hb hr (fun t ht hW => ⟨⟨(), rfl, trivial, q1, q2, by rw [ht]; exact hP, va_K.moved hW.alike hK, hD⟩, hS.F ht⟩) hS.2.2 eX2_init_36
theorem eX1_init_0 : decode cX1_init 0 = .ok (.aload_n 0, 1) := by decide +kernel
theorem eX1_init_1 : decode cX1_init 1 = .ok (.invokespecial 3, 3) := by decide +kernel
theorem eX1_init_4 : decode cX1_init 4 = .ok (.aload_n 0, 1) := by decide +kernel
theorem eX1_init_5 : decode cX1_init 5 = .ok (.bipush 8, 2) := by decide +kernel
theorem eX1_init_7 : decode cX1_init 7 = .ok (.newarray .int, 2) := by decide +kernel
theorem eX1_init_9 : decode cX1_init 9 = .ok (.putfield 9, 3) := by decide +kernel
theorem eX1_init_12 : decode cX1_init 12 = .ok (.aload_n 0, 1) := by decide +kernel
theorem eX1_init_13 : decode cX1_init 13 = .ok (.iconst 0, 1) := by decide +kernel
theorem eX1_init_14 : decode cX1_init 14 = .ok (.putfield 15, 3) := by decide +kernel
theorem eX1_init_17 : decode cX1_init 17 = .ok (.aload_n 0, 1) := by decide +kernel
theorem eX1_init_18 : decode cX1_init 18 = .ok (.bipush 8, 2) := by decide +kernel
theorem eX1_init_20 : decode cX1_init 20 = .ok (.newarray .int, 2) := by decide +kernel
theorem eX1_init_22 : decode cX1_init 22 = .ok (.putfield 19, 3) := by decide +kernel
theorem eX1_init_25 : decode cX1_init 25 = .ok (.aload_n 0, 1) := by decide +kernel
theorem eX1_init_26 : decode cX1_init 26 = .ok (.bipush 8, 2) := by decide +kernel
theorem eX1_init_28 : decode cX1_init 28 = .ok (.newarray .int, 2) := by decide +kernel
theorem eX1_init_30 : decode cX1_init 30 = .ok (.putfield 22, 3) := by decide +kernel
theorem eX1_init_33 : decode cX1_init 33 = .ok (.aload_n 0, 1) := by decide +kernel
theorem eX1_init_34 : decode cX1_init 34 = .ok (.bipush 40, 2) := by decide +kernel
theorem eX1_init_36 : decode cX1_init 36 = .ok (.newarray .int, 2) := by decide +kernel
theorem eX1_init_38 : decode cX1_init 38 = .ok (.putfield 25, 3) := by decide +kernel
theorem eX1_init_41 : decode cX1_init 41 = .ok (.aload_n 0, 1) := by decide +kernel
theorem eX1_init_42 : decode cX1_init 42 = .ok (.iconst 0, 1) := by decide +kernel
theorem eX1_init_43 : decode cX1_init 43 = .ok (.putfield 28, 3) := by decide +kernel
theorem eX1_init_46 : decode cX1_init 46 = .ok (.aload_n 0, 1) := by decide +kernel
theorem eX1_init_47 : decode cX1_init 47 = .ok (.iconst 0, 1) := by decide +kernel
theorem eX1_init_48 : decode cX1_init 48 = .ok (.putfield 31, 3) := by decide +kernel
theorem eX1_init_51 : decode cX1_init 51 = .ok (.aload_n 0, 1) := by decide +kernel
theorem eX1_init_52 : decode cX1_init 52 = .ok (.bipush 40, 2) := by decide +kernel
theorem eX1_init_54 : decode cX1_init 54 = .ok (.newarray .int, 2) := by decide +kernel
theorem eX1_init_56 : decode cX1_init 56 = .ok (.putfield 34, 3) := by decide +kernel
theorem eX1_init_59 : decode cX1_init 59 = .ok (.aload_n 0, 1) := by decide +kernel
theorem eX1_init_60 : decode cX1_init 60 = .ok (.iconst 0, 1) := by decide +kernel
theorem eX1_init_61 : decode cX1_init 61 = .ok (.putfield 37, 3) := by decide +kernel
theorem eX1_init_64 : decode cX1_init 64 = .ok (.aload_n 0, 1) := by decide +kernel
theorem eX1_init_65 : decode cX1_init 65 = .ok (.lconst 0, 1) := by decide +kernel
theorem eX1_init_66 : decode cX1_init 66 = .ok (.putfield 40, 3) := by decide +kernel
theorem eX1_init_69 : decode cX1_init 69 = .ok (.aload_n 0, 1) := by decide +kernel
theorem eX1_init_70 : decode cX1_init 70 = .ok (.iconst 0, 1) := by decide +kernel
theorem eX1_init_71 : decode cX1_init 71 = .ok (.putfield 44, 3) := by decide +kernel
theorem eX1_init_74 : decode cX1_init 74 = .ok (.return_, 1) := by decide +kernel
set_option maxHeartbeats 4000000 in
set_option maxRecDepth 100000 in
theorem n_X1 (l : Launch) (D : va_G) (cI cJ : ClassId) (h0 sz : Nat) : Met l yX1_init (wi_w yX1_init cX1_init) ({ frames := 1, cells := 5, slots := 104, locals := 12 }) (va_Pc [.ref h0] (fun U => U.heap.size = sz ∧ va_P D vwCl [(h0, .inr (1, [.null, .int 0, .null, .null, .null, .int 0, .int 0, .null, .int 0, .long 0, .int 0]))] U.heap ∧ va_K D vwCl (mm_tys cI cJ) U ∧ va_D (fun _ => True) [(h0, .inr (1, [.null, .int 0, .null, .null, .null, .int 0, .int 0, .null, .int 0, .long 0, .int 0]))] ∧ True)) (va_Qv (S := Unit) (fun _ => True) (fun (_ : Unit) t => ∃ q1 q2 q3 q4 q5 : Nat, va_P D vwCl [(h0, .inr (1, [.ref q1, .int 0, .ref q2, .ref q3, .ref q4, .int 0, .int 0, .ref q5, .int 0, .long 0, .int 0])), (q1, .inl (cI, 8, .inl fun _ => 0)), (q2, .inl (cI, 8, .inl fun _ => 0)), (q3, .inl (cI, 8, .inl fun _ => 0)), (q4, .inl (cI, 40, .inl fun _ => 0)), (q5, .inl (cI, 40, .inl fun _ => 0))] t.heap ∧ va_K D vwCl (mm_tys cI cJ) t ∧ va_D (va_A [(h0, .inr (1, [.null, .int 0, .null, .null, .null, .int 0, .int 0, .null, .int 0, .long 0, .int 0]))] sz) [(h0, .inr (1, [.ref q1, .int 0, .ref q2, .ref q3, .ref q4, .int 0, .int 0, .ref q5, .int 0, .long 0, .int 0])), (q1, .inl (cI, 8, .inl fun _ => 0)), (q2, .inl (cI, 8, .inl fun _ => 0)), (q3, .inl (cI, 8, .inl fun _ => 0)), (q4, .inl (cI, 40, .inl fun _ => 0)), (q5, .inl (cI, 40, .inl fun _ => 0))]) (va_A [(h0, .inr (1, [.null, .int 0, .null, .null, .null, .int 0, .int 0, .null, .int 0, .long 0, .int 0]))] sz)) 5 104 (va_A [(h0, .inr (1, [.null, .int 0, .null, .null, .null, .int 0, .int 0, .null, .int 0, .long 0, .int 0]))] sz) := by
  refine Met.ofW (cc := cX1_init) (maxL := 1) (ret := none) (by decide) rfl ?_
  intro p e s m args below meth c s₁ B hml hv
  obtain ⟨rfl, hsz, hP, hK, hD0, -⟩ := hv
  have hx := B.exec
  have hb := B.bytes
  have hr := B.returns
  have hts := atoms_spec (ws := wi_w yX1_init cX1_init) B.pre
  have hown : s.vm.findClass RX1 = some m.cls := findClass_of_methodNamed B.named
  have hlocks := B.notSynchronized
  have hin : meth.name = "<init>" := (name_of_methodNamed B.named B.method).1
  subst hsz
  have hD := hD0.self (sz := s.heap.size)
  generalize hAe : va_A [(h0, .inr (1, [.null, .int 0, .null, .null, .null, .int 0, .int 0, .null, .int 0, .long 0, .int 0]))] s.heap.size = A at hD ⊢
  have hA : ∀ q : Nat, s.heap.size ≤ q → A q := fun q h => by rw [← hAe]; exact Or.inr h
  have hS : va_S A s.heap s.heap [] := va_S.rf
  have hl := lv_entry ([.ref h0]) (n := 1) (Nat.le_of_ble_eq_true rfl)
  rw [lg_entry_eq]
  generalize (lg_sl ([.ref h0]) ++ List.replicate (1 - (lg_sl ([.ref h0])).length) Slot.unset).toArray = ls at hl ⊢
  have hl : lv_has ls 1 [(0, .ref h0)] := hl
  refine lv_aload_n hx hb eX1_init_0 rfl (lv_at hl 0 rfl) ?_
  refine W.objInit hx hb hown (hts (.methodLink RX1 3 objectInit) (wi 103 rfl)) (hts (.instanceMethod objectInit) (wi 80 rfl)) (hts (.code objectInit ⟨#[0xb1]⟩ 1 none) (wi 81 rfl)) rfl (by rw [hml]; exact hl.1) rfl eX1_init_1 (Nat.le_of_ble_eq_true rfl) (Nat.le_of_ble_eq_true rfl) ?_
  refine W.eq (g2 := F0 m 4 ls []) rfl ?_
  refine lv_aload_n hx hb eX1_init_4 rfl (lv_at hl 0 rfl) ?_
  refine lv_bipush (v := 8) hx hb eX1_init_5 (by decide) ?_
  refine in_newi (N := 8) hx hb (hts (.arrayClass .int) (wi 82 rfl)) hK hP hD hS hA (by decide) (by decide) (Nat.le_of_ble_eq_true rfl) (Nat.le_of_ble_eq_true rfl) (Nat.le_of_ble_eq_true rfl) eX1_init_7 (fun q1 H hP hD hS => ?_)
  have hP : va_P D vwCl [(h0, .inr (1, [.null, .int 0, .null, .null, .null, .int 0, .int 0, .null, .int 0, .long 0, .int 0])), (q1, .inl (cI, 8, .inl fun _ => 0))] H := hP
  have hD : va_D A [(h0, .inr (1, [.null, .int 0, .null, .null, .null, .int 0, .int 0, .null, .int 0, .long 0, .int 0])), (q1, .inl (cI, 8, .inl fun _ => 0))] := hD
  refine va_putF (D := D) (ci := 1) (v := .ref q1) (ty := .array .int) (C := RX1) (T := TX1) (N := 11) hx hb hts (wi_uX1) tyX1 tyX1_ok nmX1 hown hK hP hD hS 0 rfl rfl 0 (by decide) (hts (.fieldLink RX1 9 "ToldScenes$LeastFrames" "row" "[I") (wi 104 rfl)) (fun _ h9 => h9) rfl hin rfl (by decide +kernel) rfl rfl (Nat.le_of_ble_eq_true rfl) eX1_init_9 (fun H locs hP hD hS => ?_)
  have hP : va_P D vwCl [(h0, .inr (1, [.ref q1, .int 0, .null, .null, .null, .int 0, .int 0, .null, .int 0, .long 0, .int 0])), (q1, .inl (cI, 8, .inl fun _ => 0))] H := hP
  have hD : va_D A [(h0, .inr (1, [.ref q1, .int 0, .null, .null, .null, .int 0, .int 0, .null, .int 0, .long 0, .int 0])), (q1, .inl (cI, 8, .inl fun _ => 0))] := hD
  refine lv_aload_n hx hb eX1_init_12 rfl (lv_at hl 0 rfl) ?_
  refine lv_iconst (v := 0) hx hb eX1_init_13 (by decide) ?_
  refine va_put (D := D) (ci := 1) (v := .int 0) (ty := .int) (C := RX1) (T := TX1) (N := 11) hx hb hts (wi_uX1) tyX1 tyX1_ok nmX1 hown hK hP hD hS 0 rfl rfl 1 (by decide) (hts (.fieldLink RX1 15 "ToldScenes$LeastFrames" "rowCount" "I") (wi 105 rfl)) (fun _ h9 => h9) rfl (by decide +kernel) rfl rfl (Nat.le_of_ble_eq_true rfl) eX1_init_14 (fun H locs hP hD hS => ?_)
  have hP : va_P D vwCl [(h0, .inr (1, [.ref q1, .int 0, .null, .null, .null, .int 0, .int 0, .null, .int 0, .long 0, .int 0])), (q1, .inl (cI, 8, .inl fun _ => 0))] H := hP
  have hD : va_D A [(h0, .inr (1, [.ref q1, .int 0, .null, .null, .null, .int 0, .int 0, .null, .int 0, .long 0, .int 0])), (q1, .inl (cI, 8, .inl fun _ => 0))] := hD
  refine lv_aload_n hx hb eX1_init_17 rfl (lv_at hl 0 rfl) ?_
  refine lv_bipush (v := 8) hx hb eX1_init_18 (by decide) ?_
  refine in_newi (N := 8) hx hb (hts (.arrayClass .int) (wi 82 rfl)) hK hP hD hS hA (by decide) (by decide) (Nat.le_of_ble_eq_true rfl) (Nat.le_of_ble_eq_true rfl) (Nat.le_of_ble_eq_true rfl) eX1_init_20 (fun q2 H hP hD hS => ?_)
  have hP : va_P D vwCl [(h0, .inr (1, [.ref q1, .int 0, .null, .null, .null, .int 0, .int 0, .null, .int 0, .long 0, .int 0])), (q1, .inl (cI, 8, .inl fun _ => 0)), (q2, .inl (cI, 8, .inl fun _ => 0))] H := hP
  have hD : va_D A [(h0, .inr (1, [.ref q1, .int 0, .null, .null, .null, .int 0, .int 0, .null, .int 0, .long 0, .int 0])), (q1, .inl (cI, 8, .inl fun _ => 0)), (q2, .inl (cI, 8, .inl fun _ => 0))] := hD
  refine va_putF (D := D) (ci := 1) (v := .ref q2) (ty := .array .int) (C := RX1) (T := TX1) (N := 11) hx hb hts (wi_uX1) tyX1 tyX1_ok nmX1 hown hK hP hD hS 0 rfl rfl 2 (by decide) (hts (.fieldLink RX1 19 "ToldScenes$LeastFrames" "tellerOf" "[I") (wi 106 rfl)) (fun _ h9 => h9) rfl hin rfl (by decide +kernel) rfl rfl (Nat.le_of_ble_eq_true rfl) eX1_init_22 (fun H locs hP hD hS => ?_)
  have hP : va_P D vwCl [(h0, .inr (1, [.ref q1, .int 0, .ref q2, .null, .null, .int 0, .int 0, .null, .int 0, .long 0, .int 0])), (q1, .inl (cI, 8, .inl fun _ => 0)), (q2, .inl (cI, 8, .inl fun _ => 0))] H := hP
  have hD : va_D A [(h0, .inr (1, [.ref q1, .int 0, .ref q2, .null, .null, .int 0, .int 0, .null, .int 0, .long 0, .int 0])), (q1, .inl (cI, 8, .inl fun _ => 0)), (q2, .inl (cI, 8, .inl fun _ => 0))] := hD
  refine lv_aload_n hx hb eX1_init_25 rfl (lv_at hl 0 rfl) ?_
  refine lv_bipush (v := 8) hx hb eX1_init_26 (by decide) ?_
  refine in_newi (N := 8) hx hb (hts (.arrayClass .int) (wi 82 rfl)) hK hP hD hS hA (by decide) (by decide) (Nat.le_of_ble_eq_true rfl) (Nat.le_of_ble_eq_true rfl) (Nat.le_of_ble_eq_true rfl) eX1_init_28 (fun q3 H hP hD hS => ?_)
  have hP : va_P D vwCl [(h0, .inr (1, [.ref q1, .int 0, .ref q2, .null, .null, .int 0, .int 0, .null, .int 0, .long 0, .int 0])), (q1, .inl (cI, 8, .inl fun _ => 0)), (q2, .inl (cI, 8, .inl fun _ => 0)), (q3, .inl (cI, 8, .inl fun _ => 0))] H := hP
  have hD : va_D A [(h0, .inr (1, [.ref q1, .int 0, .ref q2, .null, .null, .int 0, .int 0, .null, .int 0, .long 0, .int 0])), (q1, .inl (cI, 8, .inl fun _ => 0)), (q2, .inl (cI, 8, .inl fun _ => 0)), (q3, .inl (cI, 8, .inl fun _ => 0))] := hD
  refine va_putF (D := D) (ci := 1) (v := .ref q3) (ty := .array .int) (C := RX1) (T := TX1) (N := 11) hx hb hts (wi_uX1) tyX1 tyX1_ok nmX1 hown hK hP hD hS 0 rfl rfl 3 (by decide) (hts (.fieldLink RX1 22 "ToldScenes$LeastFrames" "sideOf" "[I") (wi 107 rfl)) (fun _ h9 => h9) rfl hin rfl (by decide +kernel) rfl rfl (Nat.le_of_ble_eq_true rfl) eX1_init_30 (fun H locs hP hD hS => ?_)
  have hP : va_P D vwCl [(h0, .inr (1, [.ref q1, .int 0, .ref q2, .ref q3, .null, .int 0, .int 0, .null, .int 0, .long 0, .int 0])), (q1, .inl (cI, 8, .inl fun _ => 0)), (q2, .inl (cI, 8, .inl fun _ => 0)), (q3, .inl (cI, 8, .inl fun _ => 0))] H := hP
  have hD : va_D A [(h0, .inr (1, [.ref q1, .int 0, .ref q2, .ref q3, .null, .int 0, .int 0, .null, .int 0, .long 0, .int 0])), (q1, .inl (cI, 8, .inl fun _ => 0)), (q2, .inl (cI, 8, .inl fun _ => 0)), (q3, .inl (cI, 8, .inl fun _ => 0))] := hD
  refine lv_aload_n hx hb eX1_init_33 rfl (lv_at hl 0 rfl) ?_
  refine lv_bipush (v := 40) hx hb eX1_init_34 (by decide) ?_
  refine in_newi (N := 40) hx hb (hts (.arrayClass .int) (wi 82 rfl)) hK hP hD hS hA (by decide) (by decide) (Nat.le_of_ble_eq_true rfl) (Nat.le_of_ble_eq_true rfl) (Nat.le_of_ble_eq_true rfl) eX1_init_36 (fun q4 H hP hD hS => ?_)
  have hP : va_P D vwCl [(h0, .inr (1, [.ref q1, .int 0, .ref q2, .ref q3, .null, .int 0, .int 0, .null, .int 0, .long 0, .int 0])), (q1, .inl (cI, 8, .inl fun _ => 0)), (q2, .inl (cI, 8, .inl fun _ => 0)), (q3, .inl (cI, 8, .inl fun _ => 0)), (q4, .inl (cI, 40, .inl fun _ => 0))] H := hP
  have hD : va_D A [(h0, .inr (1, [.ref q1, .int 0, .ref q2, .ref q3, .null, .int 0, .int 0, .null, .int 0, .long 0, .int 0])), (q1, .inl (cI, 8, .inl fun _ => 0)), (q2, .inl (cI, 8, .inl fun _ => 0)), (q3, .inl (cI, 8, .inl fun _ => 0)), (q4, .inl (cI, 40, .inl fun _ => 0))] := hD
  refine va_putF (D := D) (ci := 1) (v := .ref q4) (ty := .array .int) (C := RX1) (T := TX1) (N := 11) hx hb hts (wi_uX1) tyX1 tyX1_ok nmX1 hown hK hP hD hS 0 rfl rfl 4 (by decide) (hts (.fieldLink RX1 25 "ToldScenes$LeastFrames" "trial" "[I") (wi 108 rfl)) (fun _ h9 => h9) rfl hin rfl (by decide +kernel) rfl rfl (Nat.le_of_ble_eq_true rfl) eX1_init_38 (fun H locs hP hD hS => ?_)
  have hP : va_P D vwCl [(h0, .inr (1, [.ref q1, .int 0, .ref q2, .ref q3, .ref q4, .int 0, .int 0, .null, .int 0, .long 0, .int 0])), (q1, .inl (cI, 8, .inl fun _ => 0)), (q2, .inl (cI, 8, .inl fun _ => 0)), (q3, .inl (cI, 8, .inl fun _ => 0)), (q4, .inl (cI, 40, .inl fun _ => 0))] H := hP
  have hD : va_D A [(h0, .inr (1, [.ref q1, .int 0, .ref q2, .ref q3, .ref q4, .int 0, .int 0, .null, .int 0, .long 0, .int 0])), (q1, .inl (cI, 8, .inl fun _ => 0)), (q2, .inl (cI, 8, .inl fun _ => 0)), (q3, .inl (cI, 8, .inl fun _ => 0)), (q4, .inl (cI, 40, .inl fun _ => 0))] := hD
  refine lv_aload_n hx hb eX1_init_41 rfl (lv_at hl 0 rfl) ?_
  refine lv_iconst (v := 0) hx hb eX1_init_42 (by decide) ?_
  refine va_put (D := D) (ci := 1) (v := .int 0) (ty := .int) (C := RX1) (T := TX1) (N := 11) hx hb hts (wi_uX1) tyX1 tyX1_ok nmX1 hown hK hP hD hS 0 rfl rfl 5 (by decide) (hts (.fieldLink RX1 28 "ToldScenes$LeastFrames" "feeOfOne" "I") (wi 109 rfl)) (fun _ h9 => h9) rfl (by decide +kernel) rfl rfl (Nat.le_of_ble_eq_true rfl) eX1_init_43 (fun H locs hP hD hS => ?_)
  have hP : va_P D vwCl [(h0, .inr (1, [.ref q1, .int 0, .ref q2, .ref q3, .ref q4, .int 0, .int 0, .null, .int 0, .long 0, .int 0])), (q1, .inl (cI, 8, .inl fun _ => 0)), (q2, .inl (cI, 8, .inl fun _ => 0)), (q3, .inl (cI, 8, .inl fun _ => 0)), (q4, .inl (cI, 40, .inl fun _ => 0))] H := hP
  have hD : va_D A [(h0, .inr (1, [.ref q1, .int 0, .ref q2, .ref q3, .ref q4, .int 0, .int 0, .null, .int 0, .long 0, .int 0])), (q1, .inl (cI, 8, .inl fun _ => 0)), (q2, .inl (cI, 8, .inl fun _ => 0)), (q3, .inl (cI, 8, .inl fun _ => 0)), (q4, .inl (cI, 40, .inl fun _ => 0))] := hD
  refine lv_aload_n hx hb eX1_init_46 rfl (lv_at hl 0 rfl) ?_
  refine lv_iconst (v := 0) hx hb eX1_init_47 (by decide) ?_
  refine va_put (D := D) (ci := 1) (v := .int 0) (ty := .int) (C := RX1) (T := TX1) (N := 11) hx hb hts (wi_uX1) tyX1 tyX1_ok nmX1 hown hK hP hD hS 0 rfl rfl 6 (by decide) (hts (.fieldLink RX1 31 "ToldScenes$LeastFrames" "frameCount" "I") (wi 110 rfl)) (fun _ h9 => h9) rfl (by decide +kernel) rfl rfl (Nat.le_of_ble_eq_true rfl) eX1_init_48 (fun H locs hP hD hS => ?_)
  have hP : va_P D vwCl [(h0, .inr (1, [.ref q1, .int 0, .ref q2, .ref q3, .ref q4, .int 0, .int 0, .null, .int 0, .long 0, .int 0])), (q1, .inl (cI, 8, .inl fun _ => 0)), (q2, .inl (cI, 8, .inl fun _ => 0)), (q3, .inl (cI, 8, .inl fun _ => 0)), (q4, .inl (cI, 40, .inl fun _ => 0))] H := hP
  have hD : va_D A [(h0, .inr (1, [.ref q1, .int 0, .ref q2, .ref q3, .ref q4, .int 0, .int 0, .null, .int 0, .long 0, .int 0])), (q1, .inl (cI, 8, .inl fun _ => 0)), (q2, .inl (cI, 8, .inl fun _ => 0)), (q3, .inl (cI, 8, .inl fun _ => 0)), (q4, .inl (cI, 40, .inl fun _ => 0))] := hD
  refine lv_aload_n hx hb eX1_init_51 rfl (lv_at hl 0 rfl) ?_
  refine lv_bipush (v := 40) hx hb eX1_init_52 (by decide) ?_
  refine in_newi (N := 40) hx hb (hts (.arrayClass .int) (wi 82 rfl)) hK hP hD hS hA (by decide) (by decide) (Nat.le_of_ble_eq_true rfl) (Nat.le_of_ble_eq_true rfl) (Nat.le_of_ble_eq_true rfl) eX1_init_54 (fun q5 H hP hD hS => ?_)
  have hP : va_P D vwCl [(h0, .inr (1, [.ref q1, .int 0, .ref q2, .ref q3, .ref q4, .int 0, .int 0, .null, .int 0, .long 0, .int 0])), (q1, .inl (cI, 8, .inl fun _ => 0)), (q2, .inl (cI, 8, .inl fun _ => 0)), (q3, .inl (cI, 8, .inl fun _ => 0)), (q4, .inl (cI, 40, .inl fun _ => 0)), (q5, .inl (cI, 40, .inl fun _ => 0))] H := hP
  have hD : va_D A [(h0, .inr (1, [.ref q1, .int 0, .ref q2, .ref q3, .ref q4, .int 0, .int 0, .null, .int 0, .long 0, .int 0])), (q1, .inl (cI, 8, .inl fun _ => 0)), (q2, .inl (cI, 8, .inl fun _ => 0)), (q3, .inl (cI, 8, .inl fun _ => 0)), (q4, .inl (cI, 40, .inl fun _ => 0)), (q5, .inl (cI, 40, .inl fun _ => 0))] := hD
  refine va_putF (D := D) (ci := 1) (v := .ref q5) (ty := .array .int) (C := RX1) (T := TX1) (N := 11) hx hb hts (wi_uX1) tyX1 tyX1_ok nmX1 hown hK hP hD hS 0 rfl rfl 7 (by decide) (hts (.fieldLink RX1 34 "ToldScenes$LeastFrames" "signs" "[I") (wi 111 rfl)) (fun _ h9 => h9) rfl hin rfl (by decide +kernel) rfl rfl (Nat.le_of_ble_eq_true rfl) eX1_init_56 (fun H locs hP hD hS => ?_)
  have hP : va_P D vwCl [(h0, .inr (1, [.ref q1, .int 0, .ref q2, .ref q3, .ref q4, .int 0, .int 0, .ref q5, .int 0, .long 0, .int 0])), (q1, .inl (cI, 8, .inl fun _ => 0)), (q2, .inl (cI, 8, .inl fun _ => 0)), (q3, .inl (cI, 8, .inl fun _ => 0)), (q4, .inl (cI, 40, .inl fun _ => 0)), (q5, .inl (cI, 40, .inl fun _ => 0))] H := hP
  have hD : va_D A [(h0, .inr (1, [.ref q1, .int 0, .ref q2, .ref q3, .ref q4, .int 0, .int 0, .ref q5, .int 0, .long 0, .int 0])), (q1, .inl (cI, 8, .inl fun _ => 0)), (q2, .inl (cI, 8, .inl fun _ => 0)), (q3, .inl (cI, 8, .inl fun _ => 0)), (q4, .inl (cI, 40, .inl fun _ => 0)), (q5, .inl (cI, 40, .inl fun _ => 0))] := hD
  refine lv_aload_n hx hb eX1_init_59 rfl (lv_at hl 0 rfl) ?_
  refine lv_iconst (v := 0) hx hb eX1_init_60 (by decide) ?_
  refine va_put (D := D) (ci := 1) (v := .int 0) (ty := .int) (C := RX1) (T := TX1) (N := 11) hx hb hts (wi_uX1) tyX1 tyX1_ok nmX1 hown hK hP hD hS 0 rfl rfl 8 (by decide) (hts (.fieldLink RX1 37 "ToldScenes$LeastFrames" "count" "I") (wi 112 rfl)) (fun _ h9 => h9) rfl (by decide +kernel) rfl rfl (Nat.le_of_ble_eq_true rfl) eX1_init_61 (fun H locs hP hD hS => ?_)
  have hP : va_P D vwCl [(h0, .inr (1, [.ref q1, .int 0, .ref q2, .ref q3, .ref q4, .int 0, .int 0, .ref q5, .int 0, .long 0, .int 0])), (q1, .inl (cI, 8, .inl fun _ => 0)), (q2, .inl (cI, 8, .inl fun _ => 0)), (q3, .inl (cI, 8, .inl fun _ => 0)), (q4, .inl (cI, 40, .inl fun _ => 0)), (q5, .inl (cI, 40, .inl fun _ => 0))] H := hP
  have hD : va_D A [(h0, .inr (1, [.ref q1, .int 0, .ref q2, .ref q3, .ref q4, .int 0, .int 0, .ref q5, .int 0, .long 0, .int 0])), (q1, .inl (cI, 8, .inl fun _ => 0)), (q2, .inl (cI, 8, .inl fun _ => 0)), (q3, .inl (cI, 8, .inl fun _ => 0)), (q4, .inl (cI, 40, .inl fun _ => 0)), (q5, .inl (cI, 40, .inl fun _ => 0))] := hD
  refine lv_aload_n hx hb eX1_init_64 rfl (lv_at hl 0 rfl) ?_
  refine lv_lconst (v := 0) hx hb eX1_init_65 (by decide) ?_
  refine va_put (D := D) (ci := 1) (v := .long 0) (ty := .long) (C := RX1) (T := TX1) (N := 11) hx hb hts (wi_uX1) tyX1 tyX1_ok nmX1 hown hK hP hD hS 0 rfl rfl 9 (by decide) (hts (.fieldLink RX1 40 "ToldScenes$LeastFrames" "jumpSum" "J") (wi 113 rfl)) (fun _ h9 => h9) rfl (by decide +kernel) rfl rfl (Nat.le_of_ble_eq_true rfl) eX1_init_66 (fun H locs hP hD hS => ?_)
  have hP : va_P D vwCl [(h0, .inr (1, [.ref q1, .int 0, .ref q2, .ref q3, .ref q4, .int 0, .int 0, .ref q5, .int 0, .long 0, .int 0])), (q1, .inl (cI, 8, .inl fun _ => 0)), (q2, .inl (cI, 8, .inl fun _ => 0)), (q3, .inl (cI, 8, .inl fun _ => 0)), (q4, .inl (cI, 40, .inl fun _ => 0)), (q5, .inl (cI, 40, .inl fun _ => 0))] H := hP
  have hD : va_D A [(h0, .inr (1, [.ref q1, .int 0, .ref q2, .ref q3, .ref q4, .int 0, .int 0, .ref q5, .int 0, .long 0, .int 0])), (q1, .inl (cI, 8, .inl fun _ => 0)), (q2, .inl (cI, 8, .inl fun _ => 0)), (q3, .inl (cI, 8, .inl fun _ => 0)), (q4, .inl (cI, 40, .inl fun _ => 0)), (q5, .inl (cI, 40, .inl fun _ => 0))] := hD
  refine lv_aload_n hx hb eX1_init_69 rfl (lv_at hl 0 rfl) ?_
  refine lv_iconst (v := 0) hx hb eX1_init_70 (by decide) ?_
  refine va_put (D := D) (ci := 1) (v := .int 0) (ty := .boolean) (C := RX1) (T := TX1) (N := 11) hx hb hts (wi_uX1) tyX1 tyX1_ok nmX1 hown hK hP hD hS 0 rfl rfl 10 (by decide) (hts (.fieldLink RX1 44 "ToldScenes$LeastFrames" "stands" "Z") (wi 114 rfl)) (fun _ h9 => h9) rfl (by decide +kernel) rfl rfl (Nat.le_of_ble_eq_true rfl) eX1_init_71 (fun H locs hP hD hS => ?_)
  have hP : va_P D vwCl [(h0, .inr (1, [.ref q1, .int 0, .ref q2, .ref q3, .ref q4, .int 0, .int 0, .ref q5, .int 0, .long 0, .int 0])), (q1, .inl (cI, 8, .inl fun _ => 0)), (q2, .inl (cI, 8, .inl fun _ => 0)), (q3, .inl (cI, 8, .inl fun _ => 0)), (q4, .inl (cI, 40, .inl fun _ => 0)), (q5, .inl (cI, 40, .inl fun _ => 0))] H := hP
  have hD : va_D A [(h0, .inr (1, [.ref q1, .int 0, .ref q2, .ref q3, .ref q4, .int 0, .int 0, .ref q5, .int 0, .long 0, .int 0])), (q1, .inl (cI, 8, .inl fun _ => 0)), (q2, .inl (cI, 8, .inl fun _ => 0)), (q3, .inl (cI, 8, .inl fun _ => 0)), (q4, .inl (cI, 40, .inl fun _ => 0)), (q5, .inl (cI, 40, .inl fun _ => 0))] := hD
  exact W.vret hx hb hr (fun t ht hW => ⟨⟨(), rfl, trivial, q1, q2, q3, q4, q5, by rw [ht]; exact hP, va_K.moved hW.alike hK, hD⟩, hS.F ht⟩) hS.2.2 eX1_init_74
theorem eX4_init_0 : decode cX4_init 0 = .ok (.aload_n 0, 1) := by decide +kernel
theorem eX4_init_1 : decode cX4_init 1 = .ok (.invokespecial 3, 3) := by decide +kernel
theorem eX4_init_4 : decode cX4_init 4 = .ok (.aload_n 0, 1) := by decide +kernel
theorem eX4_init_5 : decode cX4_init 5 = .ok (.new 9, 3) := by decide +kernel
theorem eX4_init_8 : decode cX4_init 8 = .ok (.dup, 1) := by decide +kernel
theorem eX4_init_9 : decode cX4_init 9 = .ok (.invokespecial 11, 3) := by decide +kernel
theorem eX4_init_12 : decode cX4_init 12 = .ok (.putfield 12, 3) := by decide +kernel
theorem eX4_init_15 : decode cX4_init 15 = .ok (.aload_n 0, 1) := by decide +kernel
theorem eX4_init_16 : decode cX4_init 16 = .ok (.bipush 40, 2) := by decide +kernel
theorem eX4_init_18 : decode cX4_init 18 = .ok (.newarray .int, 2) := by decide +kernel
theorem eX4_init_20 : decode cX4_init 20 = .ok (.putfield 18, 3) := by decide +kernel
theorem eX4_init_23 : decode cX4_init 23 = .ok (.aload_n 0, 1) := by decide +kernel
theorem eX4_init_24 : decode cX4_init 24 = .ok (.iconst 0, 1) := by decide +kernel
theorem eX4_init_25 : decode cX4_init 25 = .ok (.putfield 22, 3) := by decide +kernel
theorem eX4_init_28 : decode cX4_init 28 = .ok (.aload_n 0, 1) := by decide +kernel
theorem eX4_init_29 : decode cX4_init 29 = .ok (.bipush 100, 2) := by decide +kernel
theorem eX4_init_31 : decode cX4_init 31 = .ok (.putfield 26, 3) := by decide +kernel
theorem eX4_init_34 : decode cX4_init 34 = .ok (.aload_n 0, 1) := by decide +kernel
theorem eX4_init_35 : decode cX4_init 35 = .ok (.iconst 0, 1) := by decide +kernel
theorem eX4_init_36 : decode cX4_init 36 = .ok (.putfield 29, 3) := by decide +kernel
theorem eX4_init_39 : decode cX4_init 39 = .ok (.aload_n 0, 1) := by decide +kernel
theorem eX4_init_40 : decode cX4_init 40 = .ok (.new 32, 3) := by decide +kernel
theorem eX4_init_43 : decode cX4_init 43 = .ok (.dup, 1) := by decide +kernel
theorem eX4_init_44 : decode cX4_init 44 = .ok (.invokespecial 34, 3) := by decide +kernel
theorem eX4_init_47 : decode cX4_init 47 = .ok (.putfield 35, 3) := by decide +kernel
theorem eX4_init_50 : decode cX4_init 50 = .ok (.aload_n 0, 1) := by decide +kernel
theorem eX4_init_51 : decode cX4_init 51 = .ok (.bipush 40, 2) := by decide +kernel
theorem eX4_init_53 : decode cX4_init 53 = .ok (.newarray .int, 2) := by decide +kernel
theorem eX4_init_55 : decode cX4_init 55 = .ok (.putfield 39, 3) := by decide +kernel
theorem eX4_init_58 : decode cX4_init 58 = .ok (.aload_n 0, 1) := by decide +kernel
theorem eX4_init_59 : decode cX4_init 59 = .ok (.new 42, 3) := by decide +kernel
theorem eX4_init_62 : decode cX4_init 62 = .ok (.dup, 1) := by decide +kernel
theorem eX4_init_63 : decode cX4_init 63 = .ok (.invokespecial 44, 3) := by decide +kernel
theorem eX4_init_66 : decode cX4_init 66 = .ok (.putfield 45, 3) := by decide +kernel
theorem eX4_init_69 : decode cX4_init 69 = .ok (.aload_n 0, 1) := by decide +kernel
theorem eX4_init_70 : decode cX4_init 70 = .ok (.new 49, 3) := by decide +kernel
theorem eX4_init_73 : decode cX4_init 73 = .ok (.dup, 1) := by decide +kernel
theorem eX4_init_74 : decode cX4_init 74 = .ok (.invokespecial 51, 3) := by decide +kernel
theorem eX4_init_77 : decode cX4_init 77 = .ok (.putfield 52, 3) := by decide +kernel
theorem eX4_init_80 : decode cX4_init 80 = .ok (.return_, 1) := by decide +kernel
set_option maxHeartbeats 4000000 in
set_option maxRecDepth 100000 in
theorem n_X4 (l : Launch) (D : va_G) (cI cJ : ClassId) (h0 sz : Nat) : Met l yX4_init (wi_w yX4_init cX4_init) ({ frames := 2, cells := 21, slots := 2340, locals := 40 }) (va_Pc [.ref h0] (fun U => U.heap.size = sz ∧ va_P D vwCl [(h0, .inr (4, [.null, .null, .int 0, .int 0, .int 0, .null, .null, .null, .null]))] U.heap ∧ va_K D vwCl (mm_tys cI cJ) U ∧ va_D (fun _ => True) [(h0, .inr (4, [.null, .null, .int 0, .int 0, .int 0, .null, .null, .null, .null]))] ∧ (va_Nw (.methodLinkNest RX4 11 yX0_init "ToldScenes") U ∧ va_Nw (.methodLinkNest RX4 34 yX3_init "ToldScenes") U ∧ va_Nw (.methodLinkNest RX4 44 yX2_init "ToldScenes") U ∧ va_Nw (.methodLinkNest RX4 51 yX1_init "ToldScenes") U))) (va_Qv (S := Unit) (fun _ => True) (fun (_ : Unit) t => ∃ q1 q2 q3 q4 q5 q6 q7 q8 q9 q10 q11 q12 q13 q14 q15 q16 q17 q18 q19 q20 q21 : Nat, va_P D vwCl [(h0, .inr (4, [.ref q1, .ref q6, .int 0, .int 100, .int 0, .ref q7, .ref q12, .ref q13, .ref q16])), (q1, .inr (0, [.ref q2, .ref q3, .ref q4, .ref q5, .int 0])), (q2, .inl (cI, 8, .inl fun _ => 0)), (q3, .inl (cI, 8, .inl fun _ => 0)), (q4, .inl (cI, 8, .inl fun _ => 0)), (q5, .inl (cI, 8, .inl fun _ => 0)), (q6, .inl (cI, 40, .inl fun _ => 0)), (q7, .inr (3, [.ref q8, .ref q9, .ref q10, .ref q11, .int 0, .int 0, .int 0, .int 0, .int 0, .int 0, .long 0, .int 0, .int 0, .int 0, .int 0])), (q8, .inl (cI, 8, .inl fun _ => 0)), (q9, .inl (cI, 8, .inl fun _ => 0)), (q10, .inl (cI, 8, .inl fun _ => 0)), (q11, .inl (cI, 8, .inl fun _ => 0)), (q12, .inl (cI, 40, .inl fun _ => 0)), (q13, .inr (2, [.ref q14, .ref q15, .int 0, .long 0, .int 0])), (q14, .inl (cJ, 2048, .inr (.inl fun _ => 0))), (q15, .inl (cI, 8, .inl fun _ => 0)), (q16, .inr (1, [.ref q17, .int 0, .ref q18, .ref q19, .ref q20, .int 0, .int 0, .ref q21, .int 0, .long 0, .int 0])), (q17, .inl (cI, 8, .inl fun _ => 0)), (q18, .inl (cI, 8, .inl fun _ => 0)), (q19, .inl (cI, 8, .inl fun _ => 0)), (q20, .inl (cI, 40, .inl fun _ => 0)), (q21, .inl (cI, 40, .inl fun _ => 0))] t.heap ∧ va_K D vwCl (mm_tys cI cJ) t ∧ va_D (va_A [(h0, .inr (4, [.null, .null, .int 0, .int 0, .int 0, .null, .null, .null, .null]))] sz) [(h0, .inr (4, [.ref q1, .ref q6, .int 0, .int 100, .int 0, .ref q7, .ref q12, .ref q13, .ref q16])), (q1, .inr (0, [.ref q2, .ref q3, .ref q4, .ref q5, .int 0])), (q2, .inl (cI, 8, .inl fun _ => 0)), (q3, .inl (cI, 8, .inl fun _ => 0)), (q4, .inl (cI, 8, .inl fun _ => 0)), (q5, .inl (cI, 8, .inl fun _ => 0)), (q6, .inl (cI, 40, .inl fun _ => 0)), (q7, .inr (3, [.ref q8, .ref q9, .ref q10, .ref q11, .int 0, .int 0, .int 0, .int 0, .int 0, .int 0, .long 0, .int 0, .int 0, .int 0, .int 0])), (q8, .inl (cI, 8, .inl fun _ => 0)), (q9, .inl (cI, 8, .inl fun _ => 0)), (q10, .inl (cI, 8, .inl fun _ => 0)), (q11, .inl (cI, 8, .inl fun _ => 0)), (q12, .inl (cI, 40, .inl fun _ => 0)), (q13, .inr (2, [.ref q14, .ref q15, .int 0, .long 0, .int 0])), (q14, .inl (cJ, 2048, .inr (.inl fun _ => 0))), (q15, .inl (cI, 8, .inl fun _ => 0)), (q16, .inr (1, [.ref q17, .int 0, .ref q18, .ref q19, .ref q20, .int 0, .int 0, .ref q21, .int 0, .long 0, .int 0])), (q17, .inl (cI, 8, .inl fun _ => 0)), (q18, .inl (cI, 8, .inl fun _ => 0)), (q19, .inl (cI, 8, .inl fun _ => 0)), (q20, .inl (cI, 40, .inl fun _ => 0)), (q21, .inl (cI, 40, .inl fun _ => 0))]) (va_A [(h0, .inr (4, [.null, .null, .int 0, .int 0, .int 0, .null, .null, .null, .null]))] sz)) 21 2340 (va_A [(h0, .inr (4, [.null, .null, .int 0, .int 0, .int 0, .null, .null, .null, .null]))] sz) := by
  refine Met.ofW (cc := cX4_init) (maxL := 1) (ret := none) (by decide) rfl ?_
  intro p e s m args below meth c s₁ B hml hv
  obtain ⟨rfl, hsz, hP, hK, hD0, hN11, hN34, hN44, hN51⟩ := hv
  have hx := B.exec
  have hb := B.bytes
  have hr := B.returns
  have hts := atoms_spec (ws := wi_w yX4_init cX4_init) B.pre
  have hown : s.vm.findClass RX4 = some m.cls := findClass_of_methodNamed B.named
  have hlocks := B.notSynchronized
  have hin : meth.name = "<init>" := (name_of_methodNamed B.named B.method).1
  subst hsz
  have hD := hD0.self (sz := s.heap.size)
  generalize hAe : va_A [(h0, .inr (4, [.null, .null, .int 0, .int 0, .int 0, .null, .null, .null, .null]))] s.heap.size = A at hD ⊢
  have hA : ∀ q : Nat, s.heap.size ≤ q → A q := fun q h => by rw [← hAe]; exact Or.inr h
  have hS : va_S A s.heap s.heap [] := va_S.rf
  have hl := lv_entry ([.ref h0]) (n := 1) (Nat.le_of_ble_eq_true rfl)
  rw [lg_entry_eq]
  generalize (lg_sl ([.ref h0]) ++ List.replicate (1 - (lg_sl ([.ref h0])).length) Slot.unset).toArray = ls at hl ⊢
  have hl : lv_has ls 1 [(0, .ref h0)] := hl
  refine lv_aload_n hx hb eX4_init_0 rfl (lv_at hl 0 rfl) ?_
  refine W.objInit hx hb hown (hts (.methodLink RX4 3 objectInit) (wi 116 rfl)) (hts (.instanceMethod objectInit) (wi 80 rfl)) (hts (.code objectInit ⟨#[0xb1]⟩ 1 none) (wi 81 rfl)) rfl (by rw [hml]; exact hl.1) rfl eX4_init_1 (Nat.le_of_ble_eq_true rfl) (Nat.le_of_ble_eq_true rfl) ?_
  refine W.eq (g2 := F0 m 4 ls []) rfl ?_
  refine lv_aload_n hx hb eX4_init_4 rfl (lv_at hl 0 rfl) ?_
  refine va_new (ci := 0) (fs := [.null, .null, .null, .null, .int 0]) (C := RX0) (T := TX0) (N := 5) hx hb hts (wi_uX0) tyX0 tyX0_ok hown (hts (.classLink RX4 9 RX0) (wi 117 rfl)) (hts (.instantiable RX0 5) (wi 118 rfl)) (hts (.initialized RX0) (wi 119 rfl)) hK hP hD hS hA rfl (fun j hj => by revert j; decide +kernel) (Nat.le_of_ble_eq_true rfl) (Nat.le_of_ble_eq_true rfl) eX4_init_5 (fun q1 H hP hD hS => ?_)
  have hP : va_P D vwCl [(h0, .inr (4, [.null, .null, .int 0, .int 0, .int 0, .null, .null, .null, .null])), (q1, .inr (0, [.null, .null, .null, .null, .int 0]))] H := hP
  have hD : va_D A [(h0, .inr (4, [.null, .null, .int 0, .int 0, .int 0, .null, .null, .null, .null])), (q1, .inr (0, [.null, .null, .null, .null, .int 0]))] := hD
  refine lv_dup hx hb eX4_init_8 rfl ?_
  have hPc := hP.sub (ws' := [(q1, .inr (0, [.null, .null, .null, .null, .int 0]))]) [1] rfl
  have hDc := hD.sub (ws' := [(q1, .inr (0, [.null, .null, .null, .null, .int 0]))]) [1] (by decide) rfl
  have hFc := va_free (wc := [(q1, .inr (0, [.null, .null, .null, .null, .int 0]))]) hD hS hA [1] rfl
  refine va_callv (va_runIN (As := []) (rest := [.ref q1, .ref h0]) ⟨hx, hb, hml, hown, hts⟩ (n_X0 l D cI cJ q1 H.size) ⟨va_cnB 0 hts (wi_g 88 rfl) rfl rfl rfl hN11 (hts (.initialized RX0) (wi 119 rfl)) (by decide +kernel) ⟨Nat.le_of_ble_eq_true rfl, Nat.le_of_ble_eq_true rfl⟩, rfl, (hts (.instanceMethod yX0_init) (wi 120 rfl))⟩ ⟨in_blind, fun U hU hW => ⟨rfl, by rw [hU], by rw [hU]; exact hPc, va_K.moved hW.alike hK, hDc.weaken (fun _ _ _ _ => trivial), trivial⟩⟩ rfl rfl hl.1 rfl (lv_room (Nat.le_of_ble_eq_true rfl)) eX4_init_9 ⟨Nat.le_of_ble_eq_true rfl, Nat.le_of_ble_eq_true rfl⟩) hS (fun q _ h => hFc q h) hFc (fun u t H1 locs ht hvm hw hB hz1 hk1 hS => ?_)
  obtain ⟨q2, q3, q4, q5, hP1, hK1, hD1⟩ := hB
  rw [ht] at hP1
  obtain ⟨hP, hD⟩ := va_join (wr := [(h0, .inr (4, [.null, .null, .int 0, .int 0, .int 0, .null, .null, .null, .null]))]) (w1 := [(q1, .inr (0, [.ref q2, .ref q3, .ref q4, .ref q5, .int 0])), (q2, .inl (cI, 8, .inl fun _ => 0)), (q3, .inl (cI, 8, .inl fun _ => 0)), (q4, .inl (cI, 8, .inl fun _ => 0)), (q5, .inl (cI, 8, .inl fun _ => 0))]) hP hD [1] [0] rfl rfl (by decide) (by decide) hk1 hFc hP1 hD1
  generalize H1 = H at hP hS ⊢
  have hP : va_P D vwCl [(h0, .inr (4, [.null, .null, .int 0, .int 0, .int 0, .null, .null, .null, .null])), (q1, .inr (0, [.ref q2, .ref q3, .ref q4, .ref q5, .int 0])), (q2, .inl (cI, 8, .inl fun _ => 0)), (q3, .inl (cI, 8, .inl fun _ => 0)), (q4, .inl (cI, 8, .inl fun _ => 0)), (q5, .inl (cI, 8, .inl fun _ => 0))] H := hP
  have hD : va_D A [(h0, .inr (4, [.null, .null, .int 0, .int 0, .int 0, .null, .null, .null, .null])), (q1, .inr (0, [.ref q2, .ref q3, .ref q4, .ref q5, .int 0])), (q2, .inl (cI, 8, .inl fun _ => 0)), (q3, .inl (cI, 8, .inl fun _ => 0)), (q4, .inl (cI, 8, .inl fun _ => 0)), (q5, .inl (cI, 8, .inl fun _ => 0))] := hD
  refine va_putF (D := D) (ci := 4) (v := .ref q1) (ty := .object "ToldScenes$Cast") (C := RX4) (T := TX4) (N := 9) hx hb hts (wi_uX4) tyX4 tyX4_ok nmX4 hown hK hP hD hS 0 rfl rfl 0 (by decide) (hts (.fieldLink RX4 12 "ToldScenes" "cast" "LToldScenes$Cast;") (wi 121 rfl)) (fun _ h9 => h9) rfl hin rfl (by decide +kernel) rfl rfl (Nat.le_of_ble_eq_true rfl) eX4_init_12 (fun H locs hP hD hS => ?_)
  have hP : va_P D vwCl [(h0, .inr (4, [.ref q1, .null, .int 0, .int 0, .int 0, .null, .null, .null, .null])), (q1, .inr (0, [.ref q2, .ref q3, .ref q4, .ref q5, .int 0])), (q2, .inl (cI, 8, .inl fun _ => 0)), (q3, .inl (cI, 8, .inl fun _ => 0)), (q4, .inl (cI, 8, .inl fun _ => 0)), (q5, .inl (cI, 8, .inl fun _ => 0))] H := hP
  have hD : va_D A [(h0, .inr (4, [.ref q1, .null, .int 0, .int 0, .int 0, .null, .null, .null, .null])), (q1, .inr (0, [.ref q2, .ref q3, .ref q4, .ref q5, .int 0])), (q2, .inl (cI, 8, .inl fun _ => 0)), (q3, .inl (cI, 8, .inl fun _ => 0)), (q4, .inl (cI, 8, .inl fun _ => 0)), (q5, .inl (cI, 8, .inl fun _ => 0))] := hD
  refine lv_aload_n hx hb eX4_init_15 rfl (lv_at hl 0 rfl) ?_
  refine lv_bipush (v := 40) hx hb eX4_init_16 (by decide) ?_
  refine in_newi (N := 40) hx hb (hts (.arrayClass .int) (wi 82 rfl)) hK hP hD hS hA (by decide) (by decide) (Nat.le_of_ble_eq_true rfl) (Nat.le_of_ble_eq_true rfl) (Nat.le_of_ble_eq_true rfl) eX4_init_18 (fun q6 H hP hD hS => ?_)
  have hP : va_P D vwCl [(h0, .inr (4, [.ref q1, .null, .int 0, .int 0, .int 0, .null, .null, .null, .null])), (q1, .inr (0, [.ref q2, .ref q3, .ref q4, .ref q5, .int 0])), (q2, .inl (cI, 8, .inl fun _ => 0)), (q3, .inl (cI, 8, .inl fun _ => 0)), (q4, .inl (cI, 8, .inl fun _ => 0)), (q5, .inl (cI, 8, .inl fun _ => 0)), (q6, .inl (cI, 40, .inl fun _ => 0))] H := hP
  have hD : va_D A [(h0, .inr (4, [.ref q1, .null, .int 0, .int 0, .int 0, .null, .null, .null, .null])), (q1, .inr (0, [.ref q2, .ref q3, .ref q4, .ref q5, .int 0])), (q2, .inl (cI, 8, .inl fun _ => 0)), (q3, .inl (cI, 8, .inl fun _ => 0)), (q4, .inl (cI, 8, .inl fun _ => 0)), (q5, .inl (cI, 8, .inl fun _ => 0)), (q6, .inl (cI, 40, .inl fun _ => 0))] := hD
  refine va_putF (D := D) (ci := 4) (v := .ref q6) (ty := .array .int) (C := RX4) (T := TX4) (N := 9) hx hb hts (wi_uX4) tyX4 tyX4_ok nmX4 hown hK hP hD hS 0 rfl rfl 1 (by decide) (hts (.fieldLink RX4 18 "ToldScenes" "signs" "[I") (wi 122 rfl)) (fun _ h9 => h9) rfl hin rfl (by decide +kernel) rfl rfl (Nat.le_of_ble_eq_true rfl) eX4_init_20 (fun H locs hP hD hS => ?_)
  have hP : va_P D vwCl [(h0, .inr (4, [.ref q1, .ref q6, .int 0, .int 0, .int 0, .null, .null, .null, .null])), (q1, .inr (0, [.ref q2, .ref q3, .ref q4, .ref q5, .int 0])), (q2, .inl (cI, 8, .inl fun _ => 0)), (q3, .inl (cI, 8, .inl fun _ => 0)), (q4, .inl (cI, 8, .inl fun _ => 0)), (q5, .inl (cI, 8, .inl fun _ => 0)), (q6, .inl (cI, 40, .inl fun _ => 0))] H := hP
  have hD : va_D A [(h0, .inr (4, [.ref q1, .ref q6, .int 0, .int 0, .int 0, .null, .null, .null, .null])), (q1, .inr (0, [.ref q2, .ref q3, .ref q4, .ref q5, .int 0])), (q2, .inl (cI, 8, .inl fun _ => 0)), (q3, .inl (cI, 8, .inl fun _ => 0)), (q4, .inl (cI, 8, .inl fun _ => 0)), (q5, .inl (cI, 8, .inl fun _ => 0)), (q6, .inl (cI, 40, .inl fun _ => 0))] := hD
  refine lv_aload_n hx hb eX4_init_23 rfl (lv_at hl 0 rfl) ?_
  refine lv_iconst (v := 0) hx hb eX4_init_24 (by decide) ?_
  refine va_put (D := D) (ci := 4) (v := .int 0) (ty := .int) (C := RX4) (T := TX4) (N := 9) hx hb hts (wi_uX4) tyX4 tyX4_ok nmX4 hown hK hP hD hS 0 rfl rfl 2 (by decide) (hts (.fieldLink RX4 22 "ToldScenes" "signCount" "I") (wi 123 rfl)) (fun _ h9 => h9) rfl (by decide +kernel) rfl rfl (Nat.le_of_ble_eq_true rfl) eX4_init_25 (fun H locs hP hD hS => ?_)
  have hP : va_P D vwCl [(h0, .inr (4, [.ref q1, .ref q6, .int 0, .int 0, .int 0, .null, .null, .null, .null])), (q1, .inr (0, [.ref q2, .ref q3, .ref q4, .ref q5, .int 0])), (q2, .inl (cI, 8, .inl fun _ => 0)), (q3, .inl (cI, 8, .inl fun _ => 0)), (q4, .inl (cI, 8, .inl fun _ => 0)), (q5, .inl (cI, 8, .inl fun _ => 0)), (q6, .inl (cI, 40, .inl fun _ => 0))] H := hP
  have hD : va_D A [(h0, .inr (4, [.ref q1, .ref q6, .int 0, .int 0, .int 0, .null, .null, .null, .null])), (q1, .inr (0, [.ref q2, .ref q3, .ref q4, .ref q5, .int 0])), (q2, .inl (cI, 8, .inl fun _ => 0)), (q3, .inl (cI, 8, .inl fun _ => 0)), (q4, .inl (cI, 8, .inl fun _ => 0)), (q5, .inl (cI, 8, .inl fun _ => 0)), (q6, .inl (cI, 40, .inl fun _ => 0))] := hD
  refine lv_aload_n hx hb eX4_init_28 rfl (lv_at hl 0 rfl) ?_
  refine lv_bipush (v := 100) hx hb eX4_init_29 (by decide) ?_
  refine va_put (D := D) (ci := 4) (v := .int 100) (ty := .int) (C := RX4) (T := TX4) (N := 9) hx hb hts (wi_uX4) tyX4 tyX4_ok nmX4 hown hK hP hD hS 0 rfl rfl 3 (by decide) (hts (.fieldLink RX4 26 "ToldScenes" "feeNow" "I") (wi 124 rfl)) (fun _ h9 => h9) rfl (by decide +kernel) rfl rfl (Nat.le_of_ble_eq_true rfl) eX4_init_31 (fun H locs hP hD hS => ?_)
  have hP : va_P D vwCl [(h0, .inr (4, [.ref q1, .ref q6, .int 0, .int 100, .int 0, .null, .null, .null, .null])), (q1, .inr (0, [.ref q2, .ref q3, .ref q4, .ref q5, .int 0])), (q2, .inl (cI, 8, .inl fun _ => 0)), (q3, .inl (cI, 8, .inl fun _ => 0)), (q4, .inl (cI, 8, .inl fun _ => 0)), (q5, .inl (cI, 8, .inl fun _ => 0)), (q6, .inl (cI, 40, .inl fun _ => 0))] H := hP
  have hD : va_D A [(h0, .inr (4, [.ref q1, .ref q6, .int 0, .int 100, .int 0, .null, .null, .null, .null])), (q1, .inr (0, [.ref q2, .ref q3, .ref q4, .ref q5, .int 0])), (q2, .inl (cI, 8, .inl fun _ => 0)), (q3, .inl (cI, 8, .inl fun _ => 0)), (q4, .inl (cI, 8, .inl fun _ => 0)), (q5, .inl (cI, 8, .inl fun _ => 0)), (q6, .inl (cI, 40, .inl fun _ => 0))] := hD
  refine lv_aload_n hx hb eX4_init_34 rfl (lv_at hl 0 rfl) ?_
  refine lv_iconst (v := 0) hx hb eX4_init_35 (by decide) ?_
  refine va_put (D := D) (ci := 4) (v := .int 0) (ty := .int) (C := RX4) (T := TX4) (N := 9) hx hb hts (wi_uX4) tyX4 tyX4_ok nmX4 hown hK hP hD hS 0 rfl rfl 4 (by decide) (hts (.fieldLink RX4 29 "ToldScenes" "lookCount" "I") (wi 125 rfl)) (fun _ h9 => h9) rfl (by decide +kernel) rfl rfl (Nat.le_of_ble_eq_true rfl) eX4_init_36 (fun H locs hP hD hS => ?_)
  have hP : va_P D vwCl [(h0, .inr (4, [.ref q1, .ref q6, .int 0, .int 100, .int 0, .null, .null, .null, .null])), (q1, .inr (0, [.ref q2, .ref q3, .ref q4, .ref q5, .int 0])), (q2, .inl (cI, 8, .inl fun _ => 0)), (q3, .inl (cI, 8, .inl fun _ => 0)), (q4, .inl (cI, 8, .inl fun _ => 0)), (q5, .inl (cI, 8, .inl fun _ => 0)), (q6, .inl (cI, 40, .inl fun _ => 0))] H := hP
  have hD : va_D A [(h0, .inr (4, [.ref q1, .ref q6, .int 0, .int 100, .int 0, .null, .null, .null, .null])), (q1, .inr (0, [.ref q2, .ref q3, .ref q4, .ref q5, .int 0])), (q2, .inl (cI, 8, .inl fun _ => 0)), (q3, .inl (cI, 8, .inl fun _ => 0)), (q4, .inl (cI, 8, .inl fun _ => 0)), (q5, .inl (cI, 8, .inl fun _ => 0)), (q6, .inl (cI, 40, .inl fun _ => 0))] := hD
  refine lv_aload_n hx hb eX4_init_39 rfl (lv_at hl 0 rfl) ?_
  refine va_new (ci := 3) (fs := [.null, .null, .null, .null, .int 0, .int 0, .int 0, .int 0, .int 0, .int 0, .long 0, .int 0, .int 0, .int 0, .int 0]) (C := RX3) (T := TX3) (N := 15) hx hb hts (wi_uX3) tyX3 tyX3_ok hown (hts (.classLink RX4 32 RX3) (wi 126 rfl)) (hts (.instantiable RX3 15) (wi 127 rfl)) (hts (.initialized RX3) (wi 128 rfl)) hK hP hD hS hA rfl (fun j hj => by revert j; decide +kernel) (Nat.le_of_ble_eq_true rfl) (Nat.le_of_ble_eq_true rfl) eX4_init_40 (fun q7 H hP hD hS => ?_)
  have hP : va_P D vwCl [(h0, .inr (4, [.ref q1, .ref q6, .int 0, .int 100, .int 0, .null, .null, .null, .null])), (q1, .inr (0, [.ref q2, .ref q3, .ref q4, .ref q5, .int 0])), (q2, .inl (cI, 8, .inl fun _ => 0)), (q3, .inl (cI, 8, .inl fun _ => 0)), (q4, .inl (cI, 8, .inl fun _ => 0)), (q5, .inl (cI, 8, .inl fun _ => 0)), (q6, .inl (cI, 40, .inl fun _ => 0)), (q7, .inr (3, [.null, .null, .null, .null, .int 0, .int 0, .int 0, .int 0, .int 0, .int 0, .long 0, .int 0, .int 0, .int 0, .int 0]))] H := hP
  have hD : va_D A [(h0, .inr (4, [.ref q1, .ref q6, .int 0, .int 100, .int 0, .null, .null, .null, .null])), (q1, .inr (0, [.ref q2, .ref q3, .ref q4, .ref q5, .int 0])), (q2, .inl (cI, 8, .inl fun _ => 0)), (q3, .inl (cI, 8, .inl fun _ => 0)), (q4, .inl (cI, 8, .inl fun _ => 0)), (q5, .inl (cI, 8, .inl fun _ => 0)), (q6, .inl (cI, 40, .inl fun _ => 0)), (q7, .inr (3, [.null, .null, .null, .null, .int 0, .int 0, .int 0, .int 0, .int 0, .int 0, .long 0, .int 0, .int 0, .int 0, .int 0]))] := hD
  refine lv_dup hx hb eX4_init_43 rfl ?_
  have hPc := hP.sub (ws' := [(q7, .inr (3, [.null, .null, .null, .null, .int 0, .int 0, .int 0, .int 0, .int 0, .int 0, .long 0, .int 0, .int 0, .int 0, .int 0]))]) [7] rfl
  have hDc := hD.sub (ws' := [(q7, .inr (3, [.null, .null, .null, .null, .int 0, .int 0, .int 0, .int 0, .int 0, .int 0, .long 0, .int 0, .int 0, .int 0, .int 0]))]) [7] (by decide) rfl
  have hFc := va_free (wc := [(q7, .inr (3, [.null, .null, .null, .null, .int 0, .int 0, .int 0, .int 0, .int 0, .int 0, .long 0, .int 0, .int 0, .int 0, .int 0]))]) hD hS hA [7] rfl
  refine va_callv (va_runIN (As := []) (rest := [.ref q7, .ref h0]) ⟨hx, hb, hml, hown, hts⟩ (n_X3 l D cI cJ q7 H.size) ⟨va_cnB 0 hts (wi_g 94 rfl) rfl rfl rfl hN34 (hts (.initialized RX3) (wi 128 rfl)) (by decide +kernel) ⟨Nat.le_of_ble_eq_true rfl, Nat.le_of_ble_eq_true rfl⟩, rfl, (hts (.instanceMethod yX3_init) (wi 129 rfl))⟩ ⟨in_blind, fun U hU hW => ⟨rfl, by rw [hU], by rw [hU]; exact hPc, va_K.moved hW.alike hK, hDc.weaken (fun _ _ _ _ => trivial), trivial⟩⟩ rfl rfl hl.1 rfl (lv_room (Nat.le_of_ble_eq_true rfl)) eX4_init_44 ⟨Nat.le_of_ble_eq_true rfl, Nat.le_of_ble_eq_true rfl⟩) hS (fun q _ h => hFc q h) hFc (fun u t H1 locs ht hvm hw hB hz1 hk1 hS => ?_)
  obtain ⟨q8, q9, q10, q11, hP1, hK1, hD1⟩ := hB
  rw [ht] at hP1
  obtain ⟨hP, hD⟩ := va_join (wr := [(h0, .inr (4, [.ref q1, .ref q6, .int 0, .int 100, .int 0, .null, .null, .null, .null])), (q1, .inr (0, [.ref q2, .ref q3, .ref q4, .ref q5, .int 0])), (q2, .inl (cI, 8, .inl fun _ => 0)), (q3, .inl (cI, 8, .inl fun _ => 0)), (q4, .inl (cI, 8, .inl fun _ => 0)), (q5, .inl (cI, 8, .inl fun _ => 0)), (q6, .inl (cI, 40, .inl fun _ => 0))]) (w1 := [(q7, .inr (3, [.ref q8, .ref q9, .ref q10, .ref q11, .int 0, .int 0, .int 0, .int 0, .int 0, .int 0, .long 0, .int 0, .int 0, .int 0, .int 0])), (q8, .inl (cI, 8, .inl fun _ => 0)), (q9, .inl (cI, 8, .inl fun _ => 0)), (q10, .inl (cI, 8, .inl fun _ => 0)), (q11, .inl (cI, 8, .inl fun _ => 0))]) hP hD [7] [0, 1, 2, 3, 4, 5, 6] rfl rfl (by decide) (by decide) hk1 hFc hP1 hD1
  generalize H1 = H at hP hS ⊢
  have hP : va_P D vwCl [(h0, .inr (4, [.ref q1, .ref q6, .int 0, .int 100, .int 0, .null, .null, .null, .null])), (q1, .inr (0, [.ref q2, .ref q3, .ref q4, .ref q5, .int 0])), (q2, .inl (cI, 8, .inl fun _ => 0)), (q3, .inl (cI, 8, .inl fun _ => 0)), (q4, .inl (cI, 8, .inl fun _ => 0)), (q5, .inl (cI, 8, .inl fun _ => 0)), (q6, .inl (cI, 40, .inl fun _ => 0)), (q7, .inr (3, [.ref q8, .ref q9, .ref q10, .ref q11, .int 0, .int 0, .int 0, .int 0, .int 0, .int 0, .long 0, .int 0, .int 0, .int 0, .int 0])), (q8, .inl (cI, 8, .inl fun _ => 0)), (q9, .inl (cI, 8, .inl fun _ => 0)), (q10, .inl (cI, 8, .inl fun _ => 0)), (q11, .inl (cI, 8, .inl fun _ => 0))] H := hP
  have hD : va_D A [(h0, .inr (4, [.ref q1, .ref q6, .int 0, .int 100, .int 0, .null, .null, .null, .null])), (q1, .inr (0, [.ref q2, .ref q3, .ref q4, .ref q5, .int 0])), (q2, .inl (cI, 8, .inl fun _ => 0)), (q3, .inl (cI, 8, .inl fun _ => 0)), (q4, .inl (cI, 8, .inl fun _ => 0)), (q5, .inl (cI, 8, .inl fun _ => 0)), (q6, .inl (cI, 40, .inl fun _ => 0)), (q7, .inr (3, [.ref q8, .ref q9, .ref q10, .ref q11, .int 0, .int 0, .int 0, .int 0, .int 0, .int 0, .long 0, .int 0, .int 0, .int 0, .int 0])), (q8, .inl (cI, 8, .inl fun _ => 0)), (q9, .inl (cI, 8, .inl fun _ => 0)), (q10, .inl (cI, 8, .inl fun _ => 0)), (q11, .inl (cI, 8, .inl fun _ => 0))] := hD
  refine va_putF (D := D) (ci := 4) (v := .ref q7) (ty := .object "ToldScenes$Look") (C := RX4) (T := TX4) (N := 9) hx hb hts (wi_uX4) tyX4 tyX4_ok nmX4 hown hK hP hD hS 0 rfl rfl 5 (by decide) (hts (.fieldLink RX4 35 "ToldScenes" "look" "LToldScenes$Look;") (wi 130 rfl)) (fun _ h9 => h9) rfl hin rfl (by decide +kernel) rfl rfl (Nat.le_of_ble_eq_true rfl) eX4_init_47 (fun H locs hP hD hS => ?_)
  have hP : va_P D vwCl [(h0, .inr (4, [.ref q1, .ref q6, .int 0, .int 100, .int 0, .ref q7, .null, .null, .null])), (q1, .inr (0, [.ref q2, .ref q3, .ref q4, .ref q5, .int 0])), (q2, .inl (cI, 8, .inl fun _ => 0)), (q3, .inl (cI, 8, .inl fun _ => 0)), (q4, .inl (cI, 8, .inl fun _ => 0)), (q5, .inl (cI, 8, .inl fun _ => 0)), (q6, .inl (cI, 40, .inl fun _ => 0)), (q7, .inr (3, [.ref q8, .ref q9, .ref q10, .ref q11, .int 0, .int 0, .int 0, .int 0, .int 0, .int 0, .long 0, .int 0, .int 0, .int 0, .int 0])), (q8, .inl (cI, 8, .inl fun _ => 0)), (q9, .inl (cI, 8, .inl fun _ => 0)), (q10, .inl (cI, 8, .inl fun _ => 0)), (q11, .inl (cI, 8, .inl fun _ => 0))] H := hP
  have hD : va_D A [(h0, .inr (4, [.ref q1, .ref q6, .int 0, .int 100, .int 0, .ref q7, .null, .null, .null])), (q1, .inr (0, [.ref q2, .ref q3, .ref q4, .ref q5, .int 0])), (q2, .inl (cI, 8, .inl fun _ => 0)), (q3, .inl (cI, 8, .inl fun _ => 0)), (q4, .inl (cI, 8, .inl fun _ => 0)), (q5, .inl (cI, 8, .inl fun _ => 0)), (q6, .inl (cI, 40, .inl fun _ => 0)), (q7, .inr (3, [.ref q8, .ref q9, .ref q10, .ref q11, .int 0, .int 0, .int 0, .int 0, .int 0, .int 0, .long 0, .int 0, .int 0, .int 0, .int 0])), (q8, .inl (cI, 8, .inl fun _ => 0)), (q9, .inl (cI, 8, .inl fun _ => 0)), (q10, .inl (cI, 8, .inl fun _ => 0)), (q11, .inl (cI, 8, .inl fun _ => 0))] := hD
  refine lv_aload_n hx hb eX4_init_50 rfl (lv_at hl 0 rfl) ?_
  refine lv_bipush (v := 40) hx hb eX4_init_51 (by decide) ?_
  refine in_newi (N := 40) hx hb (hts (.arrayClass .int) (wi 82 rfl)) hK hP hD hS hA (by decide) (by decide) (Nat.le_of_ble_eq_true rfl) (Nat.le_of_ble_eq_true rfl) (Nat.le_of_ble_eq_true rfl) eX4_init_53 (fun q12 H hP hD hS => ?_)
  have hP : va_P D vwCl [(h0, .inr (4, [.ref q1, .ref q6, .int 0, .int 100, .int 0, .ref q7, .null, .null, .null])), (q1, .inr (0, [.ref q2, .ref q3, .ref q4, .ref q5, .int 0])), (q2, .inl (cI, 8, .inl fun _ => 0)), (q3, .inl (cI, 8, .inl fun _ => 0)), (q4, .inl (cI, 8, .inl fun _ => 0)), (q5, .inl (cI, 8, .inl fun _ => 0)), (q6, .inl (cI, 40, .inl fun _ => 0)), (q7, .inr (3, [.ref q8, .ref q9, .ref q10, .ref q11, .int 0, .int 0, .int 0, .int 0, .int 0, .int 0, .long 0, .int 0, .int 0, .int 0, .int 0])), (q8, .inl (cI, 8, .inl fun _ => 0)), (q9, .inl (cI, 8, .inl fun _ => 0)), (q10, .inl (cI, 8, .inl fun _ => 0)), (q11, .inl (cI, 8, .inl fun _ => 0)), (q12, .inl (cI, 40, .inl fun _ => 0))] H := hP
  have hD : va_D A [(h0, .inr (4, [.ref q1, .ref q6, .int 0, .int 100, .int 0, .ref q7, .null, .null, .null])), (q1, .inr (0, [.ref q2, .ref q3, .ref q4, .ref q5, .int 0])), (q2, .inl (cI, 8, .inl fun _ => 0)), (q3, .inl (cI, 8, .inl fun _ => 0)), (q4, .inl (cI, 8, .inl fun _ => 0)), (q5, .inl (cI, 8, .inl fun _ => 0)), (q6, .inl (cI, 40, .inl fun _ => 0)), (q7, .inr (3, [.ref q8, .ref q9, .ref q10, .ref q11, .int 0, .int 0, .int 0, .int 0, .int 0, .int 0, .long 0, .int 0, .int 0, .int 0, .int 0])), (q8, .inl (cI, 8, .inl fun _ => 0)), (q9, .inl (cI, 8, .inl fun _ => 0)), (q10, .inl (cI, 8, .inl fun _ => 0)), (q11, .inl (cI, 8, .inl fun _ => 0)), (q12, .inl (cI, 40, .inl fun _ => 0))] := hD
  refine va_putF (D := D) (ci := 4) (v := .ref q12) (ty := .array .int) (C := RX4) (T := TX4) (N := 9) hx hb hts (wi_uX4) tyX4 tyX4_ok nmX4 hown hK hP hD hS 0 rfl rfl 6 (by decide) (hts (.fieldLink RX4 39 "ToldScenes" "row" "[I") (wi 131 rfl)) (fun _ h9 => h9) rfl hin rfl (by decide +kernel) rfl rfl (Nat.le_of_ble_eq_true rfl) eX4_init_55 (fun H locs hP hD hS => ?_)
  have hP : va_P D vwCl [(h0, .inr (4, [.ref q1, .ref q6, .int 0, .int 100, .int 0, .ref q7, .ref q12, .null, .null])), (q1, .inr (0, [.ref q2, .ref q3, .ref q4, .ref q5, .int 0])), (q2, .inl (cI, 8, .inl fun _ => 0)), (q3, .inl (cI, 8, .inl fun _ => 0)), (q4, .inl (cI, 8, .inl fun _ => 0)), (q5, .inl (cI, 8, .inl fun _ => 0)), (q6, .inl (cI, 40, .inl fun _ => 0)), (q7, .inr (3, [.ref q8, .ref q9, .ref q10, .ref q11, .int 0, .int 0, .int 0, .int 0, .int 0, .int 0, .long 0, .int 0, .int 0, .int 0, .int 0])), (q8, .inl (cI, 8, .inl fun _ => 0)), (q9, .inl (cI, 8, .inl fun _ => 0)), (q10, .inl (cI, 8, .inl fun _ => 0)), (q11, .inl (cI, 8, .inl fun _ => 0)), (q12, .inl (cI, 40, .inl fun _ => 0))] H := hP
  have hD : va_D A [(h0, .inr (4, [.ref q1, .ref q6, .int 0, .int 100, .int 0, .ref q7, .ref q12, .null, .null])), (q1, .inr (0, [.ref q2, .ref q3, .ref q4, .ref q5, .int 0])), (q2, .inl (cI, 8, .inl fun _ => 0)), (q3, .inl (cI, 8, .inl fun _ => 0)), (q4, .inl (cI, 8, .inl fun _ => 0)), (q5, .inl (cI, 8, .inl fun _ => 0)), (q6, .inl (cI, 40, .inl fun _ => 0)), (q7, .inr (3, [.ref q8, .ref q9, .ref q10, .ref q11, .int 0, .int 0, .int 0, .int 0, .int 0, .int 0, .long 0, .int 0, .int 0, .int 0, .int 0])), (q8, .inl (cI, 8, .inl fun _ => 0)), (q9, .inl (cI, 8, .inl fun _ => 0)), (q10, .inl (cI, 8, .inl fun _ => 0)), (q11, .inl (cI, 8, .inl fun _ => 0)), (q12, .inl (cI, 40, .inl fun _ => 0))] := hD
  refine lv_aload_n hx hb eX4_init_58 rfl (lv_at hl 0 rfl) ?_
  refine va_new (ci := 2) (fs := [.null, .null, .int 0, .long 0, .int 0]) (C := RX2) (T := TX2) (N := 5) hx hb hts (wi_uX2) tyX2 tyX2_ok hown (hts (.classLink RX4 42 RX2) (wi 132 rfl)) (hts (.instantiable RX2 5) (wi 133 rfl)) (hts (.initialized RX2) (wi 134 rfl)) hK hP hD hS hA rfl (fun j hj => by revert j; decide +kernel) (Nat.le_of_ble_eq_true rfl) (Nat.le_of_ble_eq_true rfl) eX4_init_59 (fun q13 H hP hD hS => ?_)
  have hP : va_P D vwCl [(h0, .inr (4, [.ref q1, .ref q6, .int 0, .int 100, .int 0, .ref q7, .ref q12, .null, .null])), (q1, .inr (0, [.ref q2, .ref q3, .ref q4, .ref q5, .int 0])), (q2, .inl (cI, 8, .inl fun _ => 0)), (q3, .inl (cI, 8, .inl fun _ => 0)), (q4, .inl (cI, 8, .inl fun _ => 0)), (q5, .inl (cI, 8, .inl fun _ => 0)), (q6, .inl (cI, 40, .inl fun _ => 0)), (q7, .inr (3, [.ref q8, .ref q9, .ref q10, .ref q11, .int 0, .int 0, .int 0, .int 0, .int 0, .int 0, .long 0, .int 0, .int 0, .int 0, .int 0])), (q8, .inl (cI, 8, .inl fun _ => 0)), (q9, .inl (cI, 8, .inl fun _ => 0)), (q10, .inl (cI, 8, .inl fun _ => 0)), (q11, .inl (cI, 8, .inl fun _ => 0)), (q12, .inl (cI, 40, .inl fun _ => 0)), (q13, .inr (2, [.null, .null, .int 0, .long 0, .int 0]))] H := hP
  have hD : va_D A [(h0, .inr (4, [.ref q1, .ref q6, .int 0, .int 100, .int 0, .ref q7, .ref q12, .null, .null])), (q1, .inr (0, [.ref q2, .ref q3, .ref q4, .ref q5, .int 0])), (q2, .inl (cI, 8, .inl fun _ => 0)), (q3, .inl (cI, 8, .inl fun _ => 0)), (q4, .inl (cI, 8, .inl fun _ => 0)), (q5, .inl (cI, 8, .inl fun _ => 0)), (q6, .inl (cI, 40, .inl fun _ => 0)), (q7, .inr (3, [.ref q8, .ref q9, .ref q10, .ref q11, .int 0, .int 0, .int 0, .int 0, .int 0, .int 0, .long 0, .int 0, .int 0, .int 0, .int 0])), (q8, .inl (cI, 8, .inl fun _ => 0)), (q9, .inl (cI, 8, .inl fun _ => 0)), (q10, .inl (cI, 8, .inl fun _ => 0)), (q11, .inl (cI, 8, .inl fun _ => 0)), (q12, .inl (cI, 40, .inl fun _ => 0)), (q13, .inr (2, [.null, .null, .int 0, .long 0, .int 0]))] := hD
  refine lv_dup hx hb eX4_init_62 rfl ?_
  have hPc := hP.sub (ws' := [(q13, .inr (2, [.null, .null, .int 0, .long 0, .int 0]))]) [13] rfl
  have hDc := hD.sub (ws' := [(q13, .inr (2, [.null, .null, .int 0, .long 0, .int 0]))]) [13] (by decide) rfl
  have hFc := va_free (wc := [(q13, .inr (2, [.null, .null, .int 0, .long 0, .int 0]))]) hD hS hA [13] rfl
  refine va_callv (va_runIN (As := []) (rest := [.ref q13, .ref h0]) ⟨hx, hb, hml, hown, hts⟩ (n_X2 l D cI cJ q13 H.size) ⟨va_cnB 0 hts (wi_g 102 rfl) rfl rfl rfl hN44 (hts (.initialized RX2) (wi 134 rfl)) (by decide +kernel) ⟨Nat.le_of_ble_eq_true rfl, Nat.le_of_ble_eq_true rfl⟩, rfl, (hts (.instanceMethod yX2_init) (wi 135 rfl))⟩ ⟨in_blind, fun U hU hW => ⟨rfl, by rw [hU], by rw [hU]; exact hPc, va_K.moved hW.alike hK, hDc.weaken (fun _ _ _ _ => trivial), trivial⟩⟩ rfl rfl hl.1 rfl (lv_room (Nat.le_of_ble_eq_true rfl)) eX4_init_63 ⟨Nat.le_of_ble_eq_true rfl, Nat.le_of_ble_eq_true rfl⟩) hS (fun q _ h => hFc q h) hFc (fun u t H1 locs ht hvm hw hB hz1 hk1 hS => ?_)
  obtain ⟨q14, q15, hP1, hK1, hD1⟩ := hB
  rw [ht] at hP1
  obtain ⟨hP, hD⟩ := va_join (wr := [(h0, .inr (4, [.ref q1, .ref q6, .int 0, .int 100, .int 0, .ref q7, .ref q12, .null, .null])), (q1, .inr (0, [.ref q2, .ref q3, .ref q4, .ref q5, .int 0])), (q2, .inl (cI, 8, .inl fun _ => 0)), (q3, .inl (cI, 8, .inl fun _ => 0)), (q4, .inl (cI, 8, .inl fun _ => 0)), (q5, .inl (cI, 8, .inl fun _ => 0)), (q6, .inl (cI, 40, .inl fun _ => 0)), (q7, .inr (3, [.ref q8, .ref q9, .ref q10, .ref q11, .int 0, .int 0, .int 0, .int 0, .int 0, .int 0, .long 0, .int 0, .int 0, .int 0, .int 0])), (q8, .inl (cI, 8, .inl fun _ => 0)), (q9, .inl (cI, 8, .inl fun _ => 0)), (q10, .inl (cI, 8, .inl fun _ => 0)), (q11, .inl (cI, 8, .inl fun _ => 0)), (q12, .inl (cI, 40, .inl fun _ => 0))]) (w1 := [(q13, .inr (2, [.ref q14, .ref q15, .int 0, .long 0, .int 0])), (q14, .inl (cJ, 2048, .inr (.inl fun _ => 0))), (q15, .inl (cI, 8, .inl fun _ => 0))]) hP hD [13] [0, 1, 2, 3, 4, 5, 6, 7, 8, 9, 10, 11, 12] rfl rfl (by decide) (by decide) hk1 hFc hP1 hD1
  generalize H1 = H at hP hS ⊢
  have hP : va_P D vwCl [(h0, .inr (4, [.ref q1, .ref q6, .int 0, .int 100, .int 0, .ref q7, .ref q12, .null, .null])), (q1, .inr (0, [.ref q2, .ref q3, .ref q4, .ref q5, .int 0])), (q2, .inl (cI, 8, .inl fun _ => 0)), (q3, .inl (cI, 8, .inl fun _ => 0)), (q4, .inl (cI, 8, .inl fun _ => 0)), (q5, .inl (cI, 8, .inl fun _ => 0)), (q6, .inl (cI, 40, .inl fun _ => 0)), (q7, .inr (3, [.ref q8, .ref q9, .ref q10, .ref q11, .int 0, .int 0, .int 0, .int 0, .int 0, .int 0, .long 0, .int 0, .int 0, .int 0, .int 0])), (q8, .inl (cI, 8, .inl fun _ => 0)), (q9, .inl (cI, 8, .inl fun _ => 0)), (q10, .inl (cI, 8, .inl fun _ => 0)), (q11, .inl (cI, 8, .inl fun _ => 0)), (q12, .inl (cI, 40, .inl fun _ => 0)), (q13, .inr (2, [.ref q14, .ref q15, .int 0, .long 0, .int 0])), (q14, .inl (cJ, 2048, .inr (.inl fun _ => 0))), (q15, .inl (cI, 8, .inl fun _ => 0))] H := hP
  have hD : va_D A [(h0, .inr (4, [.ref q1, .ref q6, .int 0, .int 100, .int 0, .ref q7, .ref q12, .null, .null])), (q1, .inr (0, [.ref q2, .ref q3, .ref q4, .ref q5, .int 0])), (q2, .inl (cI, 8, .inl fun _ => 0)), (q3, .inl (cI, 8, .inl fun _ => 0)), (q4, .inl (cI, 8, .inl fun _ => 0)), (q5, .inl (cI, 8, .inl fun _ => 0)), (q6, .inl (cI, 40, .inl fun _ => 0)), (q7, .inr (3, [.ref q8, .ref q9, .ref q10, .ref q11, .int 0, .int 0, .int 0, .int 0, .int 0, .int 0, .long 0, .int 0, .int 0, .int 0, .int 0])), (q8, .inl (cI, 8, .inl fun _ => 0)), (q9, .inl (cI, 8, .inl fun _ => 0)), (q10, .inl (cI, 8, .inl fun _ => 0)), (q11, .inl (cI, 8, .inl fun _ => 0)), (q12, .inl (cI, 40, .inl fun _ => 0)), (q13, .inr (2, [.ref q14, .ref q15, .int 0, .long 0, .int 0])), (q14, .inl (cJ, 2048, .inr (.inl fun _ => 0))), (q15, .inl (cI, 8, .inl fun _ => 0))] := hD
  refine va_putF (D := D) (ci := 4) (v := .ref q13) (ty := .object "ToldScenes$LeastOrder") (C := RX4) (T := TX4) (N := 9) hx hb hts (wi_uX4) tyX4 tyX4_ok nmX4 hown hK hP hD hS 0 rfl rfl 7 (by decide) (hts (.fieldLink RX4 45 "ToldScenes" "leastOrder" "LToldScenes$LeastOrder;") (wi 136 rfl)) (fun _ h9 => h9) rfl hin rfl (by decide +kernel) rfl rfl (Nat.le_of_ble_eq_true rfl) eX4_init_66 (fun H locs hP hD hS => ?_)
  have hP : va_P D vwCl [(h0, .inr (4, [.ref q1, .ref q6, .int 0, .int 100, .int 0, .ref q7, .ref q12, .ref q13, .null])), (q1, .inr (0, [.ref q2, .ref q3, .ref q4, .ref q5, .int 0])), (q2, .inl (cI, 8, .inl fun _ => 0)), (q3, .inl (cI, 8, .inl fun _ => 0)), (q4, .inl (cI, 8, .inl fun _ => 0)), (q5, .inl (cI, 8, .inl fun _ => 0)), (q6, .inl (cI, 40, .inl fun _ => 0)), (q7, .inr (3, [.ref q8, .ref q9, .ref q10, .ref q11, .int 0, .int 0, .int 0, .int 0, .int 0, .int 0, .long 0, .int 0, .int 0, .int 0, .int 0])), (q8, .inl (cI, 8, .inl fun _ => 0)), (q9, .inl (cI, 8, .inl fun _ => 0)), (q10, .inl (cI, 8, .inl fun _ => 0)), (q11, .inl (cI, 8, .inl fun _ => 0)), (q12, .inl (cI, 40, .inl fun _ => 0)), (q13, .inr (2, [.ref q14, .ref q15, .int 0, .long 0, .int 0])), (q14, .inl (cJ, 2048, .inr (.inl fun _ => 0))), (q15, .inl (cI, 8, .inl fun _ => 0))] H := hP
  have hD : va_D A [(h0, .inr (4, [.ref q1, .ref q6, .int 0, .int 100, .int 0, .ref q7, .ref q12, .ref q13, .null])), (q1, .inr (0, [.ref q2, .ref q3, .ref q4, .ref q5, .int 0])), (q2, .inl (cI, 8, .inl fun _ => 0)), (q3, .inl (cI, 8, .inl fun _ => 0)), (q4, .inl (cI, 8, .inl fun _ => 0)), (q5, .inl (cI, 8, .inl fun _ => 0)), (q6, .inl (cI, 40, .inl fun _ => 0)), (q7, .inr (3, [.ref q8, .ref q9, .ref q10, .ref q11, .int 0, .int 0, .int 0, .int 0, .int 0, .int 0, .long 0, .int 0, .int 0, .int 0, .int 0])), (q8, .inl (cI, 8, .inl fun _ => 0)), (q9, .inl (cI, 8, .inl fun _ => 0)), (q10, .inl (cI, 8, .inl fun _ => 0)), (q11, .inl (cI, 8, .inl fun _ => 0)), (q12, .inl (cI, 40, .inl fun _ => 0)), (q13, .inr (2, [.ref q14, .ref q15, .int 0, .long 0, .int 0])), (q14, .inl (cJ, 2048, .inr (.inl fun _ => 0))), (q15, .inl (cI, 8, .inl fun _ => 0))] := hD
  refine lv_aload_n hx hb eX4_init_69 rfl (lv_at hl 0 rfl) ?_
  refine va_new (ci := 1) (fs := [.null, .int 0, .null, .null, .null, .int 0, .int 0, .null, .int 0, .long 0, .int 0]) (C := RX1) (T := TX1) (N := 11) hx hb hts (wi_uX1) tyX1 tyX1_ok hown (hts (.classLink RX4 49 RX1) (wi 137 rfl)) (hts (.instantiable RX1 11) (wi 138 rfl)) (hts (.initialized RX1) (wi 139 rfl)) hK hP hD hS hA rfl (fun j hj => by revert j; decide +kernel) (Nat.le_of_ble_eq_true rfl) (Nat.le_of_ble_eq_true rfl) eX4_init_70 (fun q16 H hP hD hS => ?_)
  have hP : va_P D vwCl [(h0, .inr (4, [.ref q1, .ref q6, .int 0, .int 100, .int 0, .ref q7, .ref q12, .ref q13, .null])), (q1, .inr (0, [.ref q2, .ref q3, .ref q4, .ref q5, .int 0])), (q2, .inl (cI, 8, .inl fun _ => 0)), (q3, .inl (cI, 8, .inl fun _ => 0)), (q4, .inl (cI, 8, .inl fun _ => 0)), (q5, .inl (cI, 8, .inl fun _ => 0)), (q6, .inl (cI, 40, .inl fun _ => 0)), (q7, .inr (3, [.ref q8, .ref q9, .ref q10, .ref q11, .int 0, .int 0, .int 0, .int 0, .int 0, .int 0, .long 0, .int 0, .int 0, .int 0, .int 0])), (q8, .inl (cI, 8, .inl fun _ => 0)), (q9, .inl (cI, 8, .inl fun _ => 0)), (q10, .inl (cI, 8, .inl fun _ => 0)), (q11, .inl (cI, 8, .inl fun _ => 0)), (q12, .inl (cI, 40, .inl fun _ => 0)), (q13, .inr (2, [.ref q14, .ref q15, .int 0, .long 0, .int 0])), (q14, .inl (cJ, 2048, .inr (.inl fun _ => 0))), (q15, .inl (cI, 8, .inl fun _ => 0)), (q16, .inr (1, [.null, .int 0, .null, .null, .null, .int 0, .int 0, .null, .int 0, .long 0, .int 0]))] H := hP
  have hD : va_D A [(h0, .inr (4, [.ref q1, .ref q6, .int 0, .int 100, .int 0, .ref q7, .ref q12, .ref q13, .null])), (q1, .inr (0, [.ref q2, .ref q3, .ref q4, .ref q5, .int 0])), (q2, .inl (cI, 8, .inl fun _ => 0)), (q3, .inl (cI, 8, .inl fun _ => 0)), (q4, .inl (cI, 8, .inl fun _ => 0)), (q5, .inl (cI, 8, .inl fun _ => 0)), (q6, .inl (cI, 40, .inl fun _ => 0)), (q7, .inr (3, [.ref q8, .ref q9, .ref q10, .ref q11, .int 0, .int 0, .int 0, .int 0, .int 0, .int 0, .long 0, .int 0, .int 0, .int 0, .int 0])), (q8, .inl (cI, 8, .inl fun _ => 0)), (q9, .inl (cI, 8, .inl fun _ => 0)), (q10, .inl (cI, 8, .inl fun _ => 0)), (q11, .inl (cI, 8, .inl fun _ => 0)), (q12, .inl (cI, 40, .inl fun _ => 0)), (q13, .inr (2, [.ref q14, .ref q15, .int 0, .long 0, .int 0])), (q14, .inl (cJ, 2048, .inr (.inl fun _ => 0))), (q15, .inl (cI, 8, .inl fun _ => 0)), (q16, .inr (1, [.null, .int 0, .null, .null, .null, .int 0, .int 0, .null, .int 0, .long 0, .int 0]))] := hD
  refine lv_dup hx hb eX4_init_73 rfl ?_
  have hPc := hP.sub (ws' := [(q16, .inr (1, [.null, .int 0, .null, .null, .null, .int 0, .int 0, .null, .int 0, .long 0, .int 0]))]) [16] rfl
  have hDc := hD.sub (ws' := [(q16, .inr (1, [.null, .int 0, .null, .null, .null, .int 0, .int 0, .null, .int 0, .long 0, .int 0]))]) [16] (by decide) rfl
  have hFc := va_free (wc := [(q16, .inr (1, [.null, .int 0, .null, .null, .null, .int 0, .int 0, .null, .int 0, .long 0, .int 0]))]) hD hS hA [16] rfl
  refine va_callv (va_runIN (As := []) (rest := [.ref q16, .ref h0]) ⟨hx, hb, hml, hown, hts⟩ (n_X1 l D cI cJ q16 H.size) ⟨va_cnB 0 hts (wi_g 115 rfl) rfl rfl rfl hN51 (hts (.initialized RX1) (wi 139 rfl)) (by decide +kernel) ⟨Nat.le_of_ble_eq_true rfl, Nat.le_of_ble_eq_true rfl⟩, rfl, (hts (.instanceMethod yX1_init) (wi 140 rfl))⟩ ⟨in_blind, fun U hU hW => ⟨rfl, by rw [hU], by rw [hU]; exact hPc, va_K.moved hW.alike hK, hDc.weaken (fun _ _ _ _ => trivial), trivial⟩⟩ rfl rfl hl.1 rfl (lv_room (Nat.le_of_ble_eq_true rfl)) eX4_init_74 ⟨Nat.le_of_ble_eq_true rfl, Nat.le_of_ble_eq_true rfl⟩) hS (fun q _ h => hFc q h) hFc (fun u t H1 locs ht hvm hw hB hz1 hk1 hS => ?_)
  obtain ⟨q17, q18, q19, q20, q21, hP1, hK1, hD1⟩ := hB
  rw [ht] at hP1
  obtain ⟨hP, hD⟩ := va_join (wr := [(h0, .inr (4, [.ref q1, .ref q6, .int 0, .int 100, .int 0, .ref q7, .ref q12, .ref q13, .null])), (q1, .inr (0, [.ref q2, .ref q3, .ref q4, .ref q5, .int 0])), (q2, .inl (cI, 8, .inl fun _ => 0)), (q3, .inl (cI, 8, .inl fun _ => 0)), (q4, .inl (cI, 8, .inl fun _ => 0)), (q5, .inl (cI, 8, .inl fun _ => 0)), (q6, .inl (cI, 40, .inl fun _ => 0)), (q7, .inr (3, [.ref q8, .ref q9, .ref q10, .ref q11, .int 0, .int 0, .int 0, .int 0, .int 0, .int 0, .long 0, .int 0, .int 0, .int 0, .int 0])), (q8, .inl (cI, 8, .inl fun _ => 0)), (q9, .inl (cI, 8, .inl fun _ => 0)), (q10, .inl (cI, 8, .inl fun _ => 0)), (q11, .inl (cI, 8, .inl fun _ => 0)), (q12, .inl (cI, 40, .inl fun _ => 0)), (q13, .inr (2, [.ref q14, .ref q15, .int 0, .long 0, .int 0])), (q14, .inl (cJ, 2048, .inr (.inl fun _ => 0))), (q15, .inl (cI, 8, .inl fun _ => 0))]) (w1 := [(q16, .inr (1, [.ref q17, .int 0, .ref q18, .ref q19, .ref q20, .int 0, .int 0, .ref q21, .int 0, .long 0, .int 0])), (q17, .inl (cI, 8, .inl fun _ => 0)), (q18, .inl (cI, 8, .inl fun _ => 0)), (q19, .inl (cI, 8, .inl fun _ => 0)), (q20, .inl (cI, 40, .inl fun _ => 0)), (q21, .inl (cI, 40, .inl fun _ => 0))]) hP hD [16] [0, 1, 2, 3, 4, 5, 6, 7, 8, 9, 10, 11, 12, 13, 14, 15] rfl rfl (by decide) (by decide) hk1 hFc hP1 hD1
  generalize H1 = H at hP hS ⊢
  have hP : va_P D vwCl [(h0, .inr (4, [.ref q1, .ref q6, .int 0, .int 100, .int 0, .ref q7, .ref q12, .ref q13, .null])), (q1, .inr (0, [.ref q2, .ref q3, .ref q4, .ref q5, .int 0])), (q2, .inl (cI, 8, .inl fun _ => 0)), (q3, .inl (cI, 8, .inl fun _ => 0)), (q4, .inl (cI, 8, .inl fun _ => 0)), (q5, .inl (cI, 8, .inl fun _ => 0)), (q6, .inl (cI, 40, .inl fun _ => 0)), (q7, .inr (3, [.ref q8, .ref q9, .ref q10, .ref q11, .int 0, .int 0, .int 0, .int 0, .int 0, .int 0, .long 0, .int 0, .int 0, .int 0, .int 0])), (q8, .inl (cI, 8, .inl fun _ => 0)), (q9, .inl (cI, 8, .inl fun _ => 0)), (q10, .inl (cI, 8, .inl fun _ => 0)), (q11, .inl (cI, 8, .inl fun _ => 0)), (q12, .inl (cI, 40, .inl fun _ => 0)), (q13, .inr (2, [.ref q14, .ref q15, .int 0, .long 0, .int 0])), (q14, .inl (cJ, 2048, .inr (.inl fun _ => 0))), (q15, .inl (cI, 8, .inl fun _ => 0)), (q16, .inr (1, [.ref q17, .int 0, .ref q18, .ref q19, .ref q20, .int 0, .int 0, .ref q21, .int 0, .long 0, .int 0])), (q17, .inl (cI, 8, .inl fun _ => 0)), (q18, .inl (cI, 8, .inl fun _ => 0)), (q19, .inl (cI, 8, .inl fun _ => 0)), (q20, .inl (cI, 40, .inl fun _ => 0)), (q21, .inl (cI, 40, .inl fun _ => 0))] H := hP
  have hD : va_D A [(h0, .inr (4, [.ref q1, .ref q6, .int 0, .int 100, .int 0, .ref q7, .ref q12, .ref q13, .null])), (q1, .inr (0, [.ref q2, .ref q3, .ref q4, .ref q5, .int 0])), (q2, .inl (cI, 8, .inl fun _ => 0)), (q3, .inl (cI, 8, .inl fun _ => 0)), (q4, .inl (cI, 8, .inl fun _ => 0)), (q5, .inl (cI, 8, .inl fun _ => 0)), (q6, .inl (cI, 40, .inl fun _ => 0)), (q7, .inr (3, [.ref q8, .ref q9, .ref q10, .ref q11, .int 0, .int 0, .int 0, .int 0, .int 0, .int 0, .long 0, .int 0, .int 0, .int 0, .int 0])), (q8, .inl (cI, 8, .inl fun _ => 0)), (q9, .inl (cI, 8, .inl fun _ => 0)), (q10, .inl (cI, 8, .inl fun _ => 0)), (q11, .inl (cI, 8, .inl fun _ => 0)), (q12, .inl (cI, 40, .inl fun _ => 0)), (q13, .inr (2, [.ref q14, .ref q15, .int 0, .long 0, .int 0])), (q14, .inl (cJ, 2048, .inr (.inl fun _ => 0))), (q15, .inl (cI, 8, .inl fun _ => 0)), (q16, .inr (1, [.ref q17, .int 0, .ref q18, .ref q19, .ref q20, .int 0, .int 0, .ref q21, .int 0, .long 0, .int 0])), (q17, .inl (cI, 8, .inl fun _ => 0)), (q18, .inl (cI, 8, .inl fun _ => 0)), (q19, .inl (cI, 8, .inl fun _ => 0)), (q20, .inl (cI, 40, .inl fun _ => 0)), (q21, .inl (cI, 40, .inl fun _ => 0))] := hD
  refine va_putF (D := D) (ci := 4) (v := .ref q16) (ty := .object "ToldScenes$LeastFrames") (C := RX4) (T := TX4) (N := 9) hx hb hts (wi_uX4) tyX4 tyX4_ok nmX4 hown hK hP hD hS 0 rfl rfl 8 (by decide) (hts (.fieldLink RX4 52 "ToldScenes" "leastFrames" "LToldScenes$LeastFrames;") (wi 141 rfl)) (fun _ h9 => h9) rfl hin rfl (by decide +kernel) rfl rfl (Nat.le_of_ble_eq_true rfl) eX4_init_77 (fun H locs hP hD hS => ?_)
  have hP : va_P D vwCl [(h0, .inr (4, [.ref q1, .ref q6, .int 0, .int 100, .int 0, .ref q7, .ref q12, .ref q13, .ref q16])), (q1, .inr (0, [.ref q2, .ref q3, .ref q4, .ref q5, .int 0])), (q2, .inl (cI, 8, .inl fun _ => 0)), (q3, .inl (cI, 8, .inl fun _ => 0)), (q4, .inl (cI, 8, .inl fun _ => 0)), (q5, .inl (cI, 8, .inl fun _ => 0)), (q6, .inl (cI, 40, .inl fun _ => 0)), (q7, .inr (3, [.ref q8, .ref q9, .ref q10, .ref q11, .int 0, .int 0, .int 0, .int 0, .int 0, .int 0, .long 0, .int 0, .int 0, .int 0, .int 0])), (q8, .inl (cI, 8, .inl fun _ => 0)), (q9, .inl (cI, 8, .inl fun _ => 0)), (q10, .inl (cI, 8, .inl fun _ => 0)), (q11, .inl (cI, 8, .inl fun _ => 0)), (q12, .inl (cI, 40, .inl fun _ => 0)), (q13, .inr (2, [.ref q14, .ref q15, .int 0, .long 0, .int 0])), (q14, .inl (cJ, 2048, .inr (.inl fun _ => 0))), (q15, .inl (cI, 8, .inl fun _ => 0)), (q16, .inr (1, [.ref q17, .int 0, .ref q18, .ref q19, .ref q20, .int 0, .int 0, .ref q21, .int 0, .long 0, .int 0])), (q17, .inl (cI, 8, .inl fun _ => 0)), (q18, .inl (cI, 8, .inl fun _ => 0)), (q19, .inl (cI, 8, .inl fun _ => 0)), (q20, .inl (cI, 40, .inl fun _ => 0)), (q21, .inl (cI, 40, .inl fun _ => 0))] H := hP
  have hD : va_D A [(h0, .inr (4, [.ref q1, .ref q6, .int 0, .int 100, .int 0, .ref q7, .ref q12, .ref q13, .ref q16])), (q1, .inr (0, [.ref q2, .ref q3, .ref q4, .ref q5, .int 0])), (q2, .inl (cI, 8, .inl fun _ => 0)), (q3, .inl (cI, 8, .inl fun _ => 0)), (q4, .inl (cI, 8, .inl fun _ => 0)), (q5, .inl (cI, 8, .inl fun _ => 0)), (q6, .inl (cI, 40, .inl fun _ => 0)), (q7, .inr (3, [.ref q8, .ref q9, .ref q10, .ref q11, .int 0, .int 0, .int 0, .int 0, .int 0, .int 0, .long 0, .int 0, .int 0, .int 0, .int 0])), (q8, .inl (cI, 8, .inl fun _ => 0)), (q9, .inl (cI, 8, .inl fun _ => 0)), (q10, .inl (cI, 8, .inl fun _ => 0)), (q11, .inl (cI, 8, .inl fun _ => 0)), (q12, .inl (cI, 40, .inl fun _ => 0)), (q13, .inr (2, [.ref q14, .ref q15, .int 0, .long 0, .int 0])), (q14, .inl (cJ, 2048, .inr (.inl fun _ => 0))), (q15, .inl (cI, 8, .inl fun _ => 0)), (q16, .inr (1, [.ref q17, .int 0, .ref q18, .ref q19, .ref q20, .int 0, .int 0, .ref q21, .int 0, .long 0, .int 0])), (q17, .inl (cI, 8, .inl fun _ => 0)), (q18, .inl (cI, 8, .inl fun _ => 0)), (q19, .inl (cI, 8, .inl fun _ => 0)), (q20, .inl (cI, 40, .inl fun _ => 0)), (q21, .inl (cI, 40, .inl fun _ => 0))] := hD
  exact W.vret hx hb hr (fun t ht hW => ⟨⟨(), rfl, trivial, q1, q2, q3, q4, q5, q6, q7, q8, q9, q10, q11, q12, q13, q14, q15, q16, q17, q18, q19, q20, q21, by rw [ht]; exact hP, va_K.moved hW.alike hK, hD⟩, hS.F ht⟩) hS.2.2 eX4_init_80
theorem eX5_init_0 : decode cX5_init 0 = .ok (.aload_n 0, 1) := by decide +kernel
theorem eX5_init_1 : decode cX5_init 1 = .ok (.invokespecial 1, 3) := by decide +kernel
theorem eX5_init_4 : decode cX5_init 4 = .ok (.aload_n 0, 1) := by decide +kernel
theorem eX5_init_5 : decode cX5_init 5 = .ok (.bipush 8, 2) := by decide +kernel
theorem eX5_init_7 : decode cX5_init 7 = .ok (.newarray .int, 2) := by decide +kernel
theorem eX5_init_9 : decode cX5_init 9 = .ok (.putfield 7, 3) := by decide +kernel
theorem eX5_init_12 : decode cX5_init 12 = .ok (.aload_n 0, 1) := by decide +kernel
theorem eX5_init_13 : decode cX5_init 13 = .ok (.bipush 8, 2) := by decide +kernel
theorem eX5_init_15 : decode cX5_init 15 = .ok (.newarray .int, 2) := by decide +kernel
theorem eX5_init_17 : decode cX5_init 17 = .ok (.putfield 13, 3) := by decide +kernel
theorem eX5_init_20 : decode cX5_init 20 = .ok (.aload_n 0, 1) := by decide +kernel
theorem eX5_init_21 : decode cX5_init 21 = .ok (.bipush 8, 2) := by decide +kernel
theorem eX5_init_23 : decode cX5_init 23 = .ok (.newarray .int, 2) := by decide +kernel
theorem eX5_init_25 : decode cX5_init 25 = .ok (.putfield 16, 3) := by decide +kernel
theorem eX5_init_28 : decode cX5_init 28 = .ok (.aload_n 0, 1) := by decide +kernel
theorem eX5_init_29 : decode cX5_init 29 = .ok (.bipush 8, 2) := by decide +kernel
theorem eX5_init_31 : decode cX5_init 31 = .ok (.newarray .int, 2) := by decide +kernel
theorem eX5_init_33 : decode cX5_init 33 = .ok (.putfield 19, 3) := by decide +kernel
theorem eX5_init_36 : decode cX5_init 36 = .ok (.aload_n 0, 1) := by decide +kernel
theorem eX5_init_37 : decode cX5_init 37 = .ok (.bipush 100, 2) := by decide +kernel
theorem eX5_init_39 : decode cX5_init 39 = .ok (.putfield 22, 3) := by decide +kernel
theorem eX5_init_42 : decode cX5_init 42 = .ok (.aload_n 0, 1) := by decide +kernel
theorem eX5_init_43 : decode cX5_init 43 = .ok (.bipush 40, 2) := by decide +kernel
theorem eX5_init_45 : decode cX5_init 45 = .ok (.newarray .int, 2) := by decide +kernel
theorem eX5_init_47 : decode cX5_init 47 = .ok (.putfield 26, 3) := by decide +kernel
theorem eX5_init_50 : decode cX5_init 50 = .ok (.aload_n 0, 1) := by decide +kernel
theorem eX5_init_51 : decode cX5_init 51 = .ok (.bipush 41, 2) := by decide +kernel
theorem eX5_init_53 : decode cX5_init 53 = .ok (.newarray .int, 2) := by decide +kernel
theorem eX5_init_55 : decode cX5_init 55 = .ok (.putfield 29, 3) := by decide +kernel
theorem eX5_init_58 : decode cX5_init 58 = .ok (.aload_n 0, 1) := by decide +kernel
theorem eX5_init_59 : decode cX5_init 59 = .ok (.bipush 41, 2) := by decide +kernel
theorem eX5_init_61 : decode cX5_init 61 = .ok (.newarray .int, 2) := by decide +kernel
theorem eX5_init_63 : decode cX5_init 63 = .ok (.putfield 32, 3) := by decide +kernel
theorem eX5_init_66 : decode cX5_init 66 = .ok (.aload_n 0, 1) := by decide +kernel
theorem eX5_init_67 : decode cX5_init 67 = .ok (.bipush 41, 2) := by decide +kernel
theorem eX5_init_69 : decode cX5_init 69 = .ok (.newarray .int, 2) := by decide +kernel
theorem eX5_init_71 : decode cX5_init 71 = .ok (.putfield 35, 3) := by decide +kernel
theorem eX5_init_74 : decode cX5_init 74 = .ok (.aload_n 0, 1) := by decide +kernel
theorem eX5_init_75 : decode cX5_init 75 = .ok (.bipush 8, 2) := by decide +kernel
theorem eX5_init_77 : decode cX5_init 77 = .ok (.newarray .int, 2) := by decide +kernel
theorem eX5_init_79 : decode cX5_init 79 = .ok (.putfield 38, 3) := by decide +kernel
theorem eX5_init_82 : decode cX5_init 82 = .ok (.aload_n 0, 1) := by decide +kernel
theorem eX5_init_83 : decode cX5_init 83 = .ok (.bipush 8, 2) := by decide +kernel
theorem eX5_init_85 : decode cX5_init 85 = .ok (.newarray .int, 2) := by decide +kernel
theorem eX5_init_87 : decode cX5_init 87 = .ok (.putfield 41, 3) := by decide +kernel
theorem eX5_init_90 : decode cX5_init 90 = .ok (.aload_n 0, 1) := by decide +kernel
theorem eX5_init_91 : decode cX5_init 91 = .ok (.bipush 8, 2) := by decide +kernel
theorem eX5_init_93 : decode cX5_init 93 = .ok (.newarray .int, 2) := by decide +kernel
theorem eX5_init_95 : decode cX5_init 95 = .ok (.putfield 44, 3) := by decide +kernel
theorem eX5_init_98 : decode cX5_init 98 = .ok (.aload_n 0, 1) := by decide +kernel
theorem eX5_init_99 : decode cX5_init 99 = .ok (.bipush 8, 2) := by decide +kernel
theorem eX5_init_101 : decode cX5_init 101 = .ok (.newarray .int, 2) := by decide +kernel
theorem eX5_init_103 : decode cX5_init 103 = .ok (.putfield 47, 3) := by decide +kernel
theorem eX5_init_106 : decode cX5_init 106 = .ok (.aload_n 0, 1) := by decide +kernel
theorem eX5_init_107 : decode cX5_init 107 = .ok (.sipush 2048, 3) := by decide +kernel
theorem eX5_init_110 : decode cX5_init 110 = .ok (.newarray .long, 2) := by decide +kernel
theorem eX5_init_112 : decode cX5_init 112 = .ok (.putfield 50, 3) := by decide +kernel
theorem eX5_init_115 : decode cX5_init 115 = .ok (.aload_n 0, 1) := by decide +kernel
theorem eX5_init_116 : decode cX5_init 116 = .ok (.bipush 8, 2) := by decide +kernel
theorem eX5_init_118 : decode cX5_init 118 = .ok (.newarray .int, 2) := by decide +kernel
theorem eX5_init_120 : decode cX5_init 120 = .ok (.putfield 54, 3) := by decide +kernel
theorem eX5_init_123 : decode cX5_init 123 = .ok (.aload_n 0, 1) := by decide +kernel
theorem eX5_init_124 : decode cX5_init 124 = .ok (.bipush 40, 2) := by decide +kernel
theorem eX5_init_126 : decode cX5_init 126 = .ok (.newarray .int, 2) := by decide +kernel
theorem eX5_init_128 : decode cX5_init 128 = .ok (.putfield 57, 3) := by decide +kernel
theorem eX5_init_131 : decode cX5_init 131 = .ok (.aload_n 0, 1) := by decide +kernel
theorem eX5_init_132 : decode cX5_init 132 = .ok (.bipush 8, 2) := by decide +kernel
theorem eX5_init_134 : decode cX5_init 134 = .ok (.newarray .int, 2) := by decide +kernel
theorem eX5_init_136 : decode cX5_init 136 = .ok (.putfield 60, 3) := by decide +kernel
theorem eX5_init_139 : decode cX5_init 139 = .ok (.aload_n 0, 1) := by decide +kernel
theorem eX5_init_140 : decode cX5_init 140 = .ok (.bipush 40, 2) := by decide +kernel
theorem eX5_init_142 : decode cX5_init 142 = .ok (.newarray .int, 2) := by decide +kernel
theorem eX5_init_144 : decode cX5_init 144 = .ok (.putfield 63, 3) := by decide +kernel
theorem eX5_init_147 : decode cX5_init 147 = .ok (.aload_n 0, 1) := by decide +kernel
theorem eX5_init_148 : decode cX5_init 148 = .ok (.bipush 40, 2) := by decide +kernel
theorem eX5_init_150 : decode cX5_init 150 = .ok (.newarray .int, 2) := by decide +kernel
theorem eX5_init_152 : decode cX5_init 152 = .ok (.putfield 66, 3) := by decide +kernel
theorem eX5_init_155 : decode cX5_init 155 = .ok (.return_, 1) := by decide +kernel
set_option maxHeartbeats 4000000 in
set_option maxRecDepth 100000 in
theorem n_X5 (l : Launch) (D : va_G) (cI cJ : ClassId) (h0 sz : Nat) : Met l yX5_init (wi_w yX5_init cX5_init) ({ frames := 1, cells := 18, slots := 2411, locals := 12 }) (va_Pc [.ref h0] (fun U => U.heap.size = sz ∧ va_P D vwCl [(h0, .inr (5, [.int 0, .null, .null, .null, .null, .int 0, .int 0, .null, .int 0, .int 0, .null, .null, .null, .int 0, .int 0, .int 0, .int 0, .int 0, .int 0, .int 0, .long 0, .null, .null, .null, .null, .null, .null, .int 0, .null, .null, .null, .int 0, .null, .int 0]))] U.heap ∧ va_K D vwCl (mm_tys cI cJ) U ∧ va_D (fun _ => True) [(h0, .inr (5, [.int 0, .null, .null, .null, .null, .int 0, .int 0, .null, .int 0, .int 0, .null, .null, .null, .int 0, .int 0, .int 0, .int 0, .int 0, .int 0, .int 0, .long 0, .null, .null, .null, .null, .null, .null, .int 0, .null, .null, .null, .int 0, .null, .int 0]))] ∧ True)) (va_Qv (S := Unit) (fun _ => True) (fun (_ : Unit) t => ∃ q1 q2 q3 q4 q5 q6 q7 q8 q9 q10 q11 q12 q13 q14 q15 q16 q17 q18 : Nat, va_P D vwCl [(h0, .inr (5, [.int 0, .ref q1, .ref q2, .ref q3, .ref q4, .int 100, .int 0, .ref q5, .int 0, .int 0, .ref q6, .ref q7, .ref q8, .int 0, .int 0, .int 0, .int 0, .int 0, .int 0, .int 0, .long 0, .ref q9, .ref q10, .ref q11, .ref q12, .ref q13, .ref q14, .int 0, .ref q15, .ref q16, .ref q17, .int 0, .ref q18, .int 0])), (q1, .inl (cI, 8, .inl fun _ => 0)), (q2, .inl (cI, 8, .inl fun _ => 0)), (q3, .inl (cI, 8, .inl fun _ => 0)), (q4, .inl (cI, 8, .inl fun _ => 0)), (q5, .inl (cI, 40, .inl fun _ => 0)), (q6, .inl (cI, 41, .inl fun _ => 0)), (q7, .inl (cI, 41, .inl fun _ => 0)), (q8, .inl (cI, 41, .inl fun _ => 0)), (q9, .inl (cI, 8, .inl fun _ => 0)), (q10, .inl (cI, 8, .inl fun _ => 0)), (q11, .inl (cI, 8, .inl fun _ => 0)), (q12, .inl (cI, 8, .inl fun _ => 0)), (q13, .inl (cJ, 2048, .inr (.inl fun _ => 0))), (q14, .inl (cI, 8, .inl fun _ => 0)), (q15, .inl (cI, 40, .inl fun _ => 0)), (q16, .inl (cI, 8, .inl fun _ => 0)), (q17, .inl (cI, 40, .inl fun _ => 0)), (q18, .inl (cI, 40, .inl fun _ => 0))] t.heap ∧ va_K D vwCl (mm_tys cI cJ) t ∧ va_D (va_A [(h0, .inr (5, [.int 0, .null, .null, .null, .null, .int 0, .int 0, .null, .int 0, .int 0, .null, .null, .null, .int 0, .int 0, .int 0, .int 0, .int 0, .int 0, .int 0, .long 0, .null, .null, .null, .null, .null, .null, .int 0, .null, .null, .null, .int 0, .null, .int 0]))] sz) [(h0, .inr (5, [.int 0, .ref q1, .ref q2, .ref q3, .ref q4, .int 100, .int 0, .ref q5, .int 0, .int 0, .ref q6, .ref q7, .ref q8, .int 0, .int 0, .int 0, .int 0, .int 0, .int 0, .int 0, .long 0, .ref q9, .ref q10, .ref q11, .ref q12, .ref q13, .ref q14, .int 0, .ref q15, .ref q16, .ref q17, .int 0, .ref q18, .int 0])), (q1, .inl (cI, 8, .inl fun _ => 0)), (q2, .inl (cI, 8, .inl fun _ => 0)), (q3, .inl (cI, 8, .inl fun _ => 0)), (q4, .inl (cI, 8, .inl fun _ => 0)), (q5, .inl (cI, 40, .inl fun _ => 0)), (q6, .inl (cI, 41, .inl fun _ => 0)), (q7, .inl (cI, 41, .inl fun _ => 0)), (q8, .inl (cI, 41, .inl fun _ => 0)), (q9, .inl (cI, 8, .inl fun _ => 0)), (q10, .inl (cI, 8, .inl fun _ => 0)), (q11, .inl (cI, 8, .inl fun _ => 0)), (q12, .inl (cI, 8, .inl fun _ => 0)), (q13, .inl (cJ, 2048, .inr (.inl fun _ => 0))), (q14, .inl (cI, 8, .inl fun _ => 0)), (q15, .inl (cI, 40, .inl fun _ => 0)), (q16, .inl (cI, 8, .inl fun _ => 0)), (q17, .inl (cI, 40, .inl fun _ => 0)), (q18, .inl (cI, 40, .inl fun _ => 0))]) (va_A [(h0, .inr (5, [.int 0, .null, .null, .null, .null, .int 0, .int 0, .null, .int 0, .int 0, .null, .null, .null, .int 0, .int 0, .int 0, .int 0, .int 0, .int 0, .int 0, .long 0, .null, .null, .null, .null, .null, .null, .int 0, .null, .null, .null, .int 0, .null, .int 0]))] sz)) 18 2411 (va_A [(h0, .inr (5, [.int 0, .null, .null, .null, .null, .int 0, .int 0, .null, .int 0, .int 0, .null, .null, .null, .int 0, .int 0, .int 0, .int 0, .int 0, .int 0, .int 0, .long 0, .null, .null, .null, .null, .null, .null, .int 0, .null, .null, .null, .int 0, .null, .int 0]))] sz) := by
  refine Met.ofW (cc := cX5_init) (maxL := 1) (ret := none) (by decide) rfl ?_
  intro p e s m args below meth c s₁ B hml hv
  obtain ⟨rfl, hsz, hP, hK, hD0, -⟩ := hv
  have hx := B.exec
  have hb := B.bytes
  have hr := B.returns
  have hts := atoms_spec (ws := wi_w yX5_init cX5_init) B.pre
  have hown : s.vm.findClass RX5 = some m.cls := findClass_of_methodNamed B.named
  have hlocks := B.notSynchronized
  have hin : meth.name = "<init>" := (name_of_methodNamed B.named B.method).1
  subst hsz
  have hD := hD0.self (sz := s.heap.size)
  generalize hAe : va_A [(h0, .inr (5, [.int 0, .null, .null, .null, .null, .int 0, .int 0, .null, .int 0, .int 0, .null, .null, .null, .int 0, .int 0, .int 0, .int 0, .int 0, .int 0, .int 0, .long 0, .null, .null, .null, .null, .null, .null, .int 0, .null, .null, .null, .int 0, .null, .int 0]))] s.heap.size = A at hD ⊢
  have hA : ∀ q : Nat, s.heap.size ≤ q → A q := fun q h => by rw [← hAe]; exact Or.inr h
  have hS : va_S A s.heap s.heap [] := va_S.rf
  have hl := lv_entry ([.ref h0]) (n := 1) (Nat.le_of_ble_eq_true rfl)
  rw [lg_entry_eq]
  generalize (lg_sl ([.ref h0]) ++ List.replicate (1 - (lg_sl ([.ref h0])).length) Slot.unset).toArray = ls at hl ⊢
  have hl : lv_has ls 1 [(0, .ref h0)] := hl
  refine lv_aload_n hx hb eX5_init_0 rfl (lv_at hl 0 rfl) ?_
  refine W.objInit hx hb hown (hts (.methodLink RX5 1 objectInit) (wi 143 rfl)) (hts (.instanceMethod objectInit) (wi 80 rfl)) (hts (.code objectInit ⟨#[0xb1]⟩ 1 none) (wi 81 rfl)) rfl (by rw [hml]; exact hl.1) rfl eX5_init_1 (Nat.le_of_ble_eq_true rfl) (Nat.le_of_ble_eq_true rfl) ?_
  refine W.eq (g2 := F0 m 4 ls []) rfl ?_
  refine lv_aload_n hx hb eX5_init_4 rfl (lv_at hl 0 rfl) ?_
  refine lv_bipush (v := 8) hx hb eX5_init_5 (by decide) ?_
  refine in_newi (N := 8) hx hb (hts (.arrayClass .int) (wi 82 rfl)) hK hP hD hS hA (by decide) (by decide) (Nat.le_of_ble_eq_true rfl) (Nat.le_of_ble_eq_true rfl) (Nat.le_of_ble_eq_true rfl) eX5_init_7 (fun q1 H hP hD hS => ?_)
  have hP : va_P D vwCl [(h0, .inr (5, [.int 0, .null, .null, .null, .null, .int 0, .int 0, .null, .int 0, .int 0, .null, .null, .null, .int 0, .int 0, .int 0, .int 0, .int 0, .int 0, .int 0, .long 0, .null, .null, .null, .null, .null, .null, .int 0, .null, .null, .null, .int 0, .null, .int 0])), (q1, .inl (cI, 8, .inl fun _ => 0))] H := hP
  have hD : va_D A [(h0, .inr (5, [.int 0, .null, .null, .null, .null, .int 0, .int 0, .null, .int 0, .int 0, .null, .null, .null, .int 0, .int 0, .int 0, .int 0, .int 0, .int 0, .int 0, .long 0, .null, .null, .null, .null, .null, .null, .int 0, .null, .null, .null, .int 0, .null, .int 0])), (q1, .inl (cI, 8, .inl fun _ => 0))] := hD
  refine va_putF (D := D) (ci := 5) (v := .ref q1) (ty := .array .int) (C := RX5) (T := TX5) (N := 34) hx hb hts (wi_uX5) tyX5 tyX5_ok nmX5 hown hK hP hD hS 0 rfl rfl 1 (by decide) (hts (.fieldLink RX5 7 "ToldScenesModel" "fromOf" "[I") (wi 144 rfl)) (fun _ h9 => h9) rfl hin rfl (by decide +kernel) rfl rfl (Nat.le_of_ble_eq_true rfl) eX5_init_9 (fun H locs hP hD hS => ?_)
  have hP : va_P D vwCl [(h0, .inr (5, [.int 0, .ref q1, .null, .null, .null, .int 0, .int 0, .null, .int 0, .int 0, .null, .null, .null, .int 0, .int 0, .int 0, .int 0, .int 0, .int 0, .int 0, .long 0, .null, .null, .null, .null, .null, .null, .int 0, .null, .null, .null, .int 0, .null, .int 0])), (q1, .inl (cI, 8, .inl fun _ => 0))] H := hP
  have hD : va_D A [(h0, .inr (5, [.int 0, .ref q1, .null, .null, .null, .int 0, .int 0, .null, .int 0, .int 0, .null, .null, .null, .int 0, .int 0, .int 0, .int 0, .int 0, .int 0, .int 0, .long 0, .null, .null, .null, .null, .null, .null, .int 0, .null, .null, .null, .int 0, .null, .int 0])), (q1, .inl (cI, 8, .inl fun _ => 0))] := hD
  refine lv_aload_n hx hb eX5_init_12 rfl (lv_at hl 0 rfl) ?_
  refine lv_bipush (v := 8) hx hb eX5_init_13 (by decide) ?_
  refine in_newi (N := 8) hx hb (hts (.arrayClass .int) (wi 82 rfl)) hK hP hD hS hA (by decide) (by decide) (Nat.le_of_ble_eq_true rfl) (Nat.le_of_ble_eq_true rfl) (Nat.le_of_ble_eq_true rfl) eX5_init_15 (fun q2 H hP hD hS => ?_)
  have hP : va_P D vwCl [(h0, .inr (5, [.int 0, .ref q1, .null, .null, .null, .int 0, .int 0, .null, .int 0, .int 0, .null, .null, .null, .int 0, .int 0, .int 0, .int 0, .int 0, .int 0, .int 0, .long 0, .null, .null, .null, .null, .null, .null, .int 0, .null, .null, .null, .int 0, .null, .int 0])), (q1, .inl (cI, 8, .inl fun _ => 0)), (q2, .inl (cI, 8, .inl fun _ => 0))] H := hP
  have hD : va_D A [(h0, .inr (5, [.int 0, .ref q1, .null, .null, .null, .int 0, .int 0, .null, .int 0, .int 0, .null, .null, .null, .int 0, .int 0, .int 0, .int 0, .int 0, .int 0, .int 0, .long 0, .null, .null, .null, .null, .null, .null, .int 0, .null, .null, .null, .int 0, .null, .int 0])), (q1, .inl (cI, 8, .inl fun _ => 0)), (q2, .inl (cI, 8, .inl fun _ => 0))] := hD
  refine va_putF (D := D) (ci := 5) (v := .ref q2) (ty := .array .int) (C := RX5) (T := TX5) (N := 34) hx hb hts (wi_uX5) tyX5 tyX5_ok nmX5 hown hK hP hD hS 0 rfl rfl 2 (by decide) (hts (.fieldLink RX5 13 "ToldScenesModel" "longOf" "[I") (wi 145 rfl)) (fun _ h9 => h9) rfl hin rfl (by decide +kernel) rfl rfl (Nat.le_of_ble_eq_true rfl) eX5_init_17 (fun H locs hP hD hS => ?_)
  have hP : va_P D vwCl [(h0, .inr (5, [.int 0, .ref q1, .ref q2, .null, .null, .int 0, .int 0, .null, .int 0, .int 0, .null, .null, .null, .int 0, .int 0, .int 0, .int 0, .int 0, .int 0, .int 0, .long 0, .null, .null, .null, .null, .null, .null, .int 0, .null, .null, .null, .int 0, .null, .int 0])), (q1, .inl (cI, 8, .inl fun _ => 0)), (q2, .inl (cI, 8, .inl fun _ => 0))] H := hP
  have hD : va_D A [(h0, .inr (5, [.int 0, .ref q1, .ref q2, .null, .null, .int 0, .int 0, .null, .int 0, .int 0, .null, .null, .null, .int 0, .int 0, .int 0, .int 0, .int 0, .int 0, .int 0, .long 0, .null, .null, .null, .null, .null, .null, .int 0, .null, .null, .null, .int 0, .null, .int 0])), (q1, .inl (cI, 8, .inl fun _ => 0)), (q2, .inl (cI, 8, .inl fun _ => 0))] := hD
  refine lv_aload_n hx hb eX5_init_20 rfl (lv_at hl 0 rfl) ?_
  refine lv_bipush (v := 8) hx hb eX5_init_21 (by decide) ?_
  refine in_newi (N := 8) hx hb (hts (.arrayClass .int) (wi 82 rfl)) hK hP hD hS hA (by decide) (by decide) (Nat.le_of_ble_eq_true rfl) (Nat.le_of_ble_eq_true rfl) (Nat.le_of_ble_eq_true rfl) eX5_init_23 (fun q3 H hP hD hS => ?_)
  have hP : va_P D vwCl [(h0, .inr (5, [.int 0, .ref q1, .ref q2, .null, .null, .int 0, .int 0, .null, .int 0, .int 0, .null, .null, .null, .int 0, .int 0, .int 0, .int 0, .int 0, .int 0, .int 0, .long 0, .null, .null, .null, .null, .null, .null, .int 0, .null, .null, .null, .int 0, .null, .int 0])), (q1, .inl (cI, 8, .inl fun _ => 0)), (q2, .inl (cI, 8, .inl fun _ => 0)), (q3, .inl (cI, 8, .inl fun _ => 0))] H := hP
  have hD : va_D A [(h0, .inr (5, [.int 0, .ref q1, .ref q2, .null, .null, .int 0, .int 0, .null, .int 0, .int 0, .null, .null, .null, .int 0, .int 0, .int 0, .int 0, .int 0, .int 0, .int 0, .long 0, .null, .null, .null, .null, .null, .null, .int 0, .null, .null, .null, .int 0, .null, .int 0])), (q1, .inl (cI, 8, .inl fun _ => 0)), (q2, .inl (cI, 8, .inl fun _ => 0)), (q3, .inl (cI, 8, .inl fun _ => 0))] := hD
  refine va_putF (D := D) (ci := 5) (v := .ref q3) (ty := .array .int) (C := RX5) (T := TX5) (N := 34) hx hb hts (wi_uX5) tyX5 tyX5_ok nmX5 hown hK hP hD hS 0 rfl rfl 3 (by decide) (hts (.fieldLink RX5 16 "ToldScenesModel" "givesOf" "[I") (wi 146 rfl)) (fun _ h9 => h9) rfl hin rfl (by decide +kernel) rfl rfl (Nat.le_of_ble_eq_true rfl) eX5_init_25 (fun H locs hP hD hS => ?_)
  have hP : va_P D vwCl [(h0, .inr (5, [.int 0, .ref q1, .ref q2, .ref q3, .null, .int 0, .int 0, .null, .int 0, .int 0, .null, .null, .null, .int 0, .int 0, .int 0, .int 0, .int 0, .int 0, .int 0, .long 0, .null, .null, .null, .null, .null, .null, .int 0, .null, .null, .null, .int 0, .null, .int 0])), (q1, .inl (cI, 8, .inl fun _ => 0)), (q2, .inl (cI, 8, .inl fun _ => 0)), (q3, .inl (cI, 8, .inl fun _ => 0))] H := hP
  have hD : va_D A [(h0, .inr (5, [.int 0, .ref q1, .ref q2, .ref q3, .null, .int 0, .int 0, .null, .int 0, .int 0, .null, .null, .null, .int 0, .int 0, .int 0, .int 0, .int 0, .int 0, .int 0, .long 0, .null, .null, .null, .null, .null, .null, .int 0, .null, .null, .null, .int 0, .null, .int 0])), (q1, .inl (cI, 8, .inl fun _ => 0)), (q2, .inl (cI, 8, .inl fun _ => 0)), (q3, .inl (cI, 8, .inl fun _ => 0))] := hD
  refine lv_aload_n hx hb eX5_init_28 rfl (lv_at hl 0 rfl) ?_
  refine lv_bipush (v := 8) hx hb eX5_init_29 (by decide) ?_
  refine in_newi (N := 8) hx hb (hts (.arrayClass .int) (wi 82 rfl)) hK hP hD hS hA (by decide) (by decide) (Nat.le_of_ble_eq_true rfl) (Nat.le_of_ble_eq_true rfl) (Nat.le_of_ble_eq_true rfl) eX5_init_31 (fun q4 H hP hD hS => ?_)
  have hP : va_P D vwCl [(h0, .inr (5, [.int 0, .ref q1, .ref q2, .ref q3, .null, .int 0, .int 0, .null, .int 0, .int 0, .null, .null, .null, .int 0, .int 0, .int 0, .int 0, .int 0, .int 0, .int 0, .long 0, .null, .null, .null, .null, .null, .null, .int 0, .null, .null, .null, .int 0, .null, .int 0])), (q1, .inl (cI, 8, .inl fun _ => 0)), (q2, .inl (cI, 8, .inl fun _ => 0)), (q3, .inl (cI, 8, .inl fun _ => 0)), (q4, .inl (cI, 8, .inl fun _ => 0))] H := hP
  have hD : va_D A [(h0, .inr (5, [.int 0, .ref q1, .ref q2, .ref q3, .null, .int 0, .int 0, .null, .int 0, .int 0, .null, .null, .null, .int 0, .int 0, .int 0, .int 0, .int 0, .int 0, .int 0, .long 0, .null, .null, .null, .null, .null, .null, .int 0, .null, .null, .null, .int 0, .null, .int 0])), (q1, .inl (cI, 8, .inl fun _ => 0)), (q2, .inl (cI, 8, .inl fun _ => 0)), (q3, .inl (cI, 8, .inl fun _ => 0)), (q4, .inl (cI, 8, .inl fun _ => 0))] := hD
  refine va_putF (D := D) (ci := 5) (v := .ref q4) (ty := .array .int) (C := RX5) (T := TX5) (N := 34) hx hb hts (wi_uX5) tyX5 tyX5_ok nmX5 hown hK hP hD hS 0 rfl rfl 4 (by decide) (hts (.fieldLink RX5 19 "ToldScenesModel" "needsOf" "[I") (wi 147 rfl)) (fun _ h9 => h9) rfl hin rfl (by decide +kernel) rfl rfl (Nat.le_of_ble_eq_true rfl) eX5_init_33 (fun H locs hP hD hS => ?_)
  have hP : va_P D vwCl [(h0, .inr (5, [.int 0, .ref q1, .ref q2, .ref q3, .ref q4, .int 0, .int 0, .null, .int 0, .int 0, .null, .null, .null, .int 0, .int 0, .int 0, .int 0, .int 0, .int 0, .int 0, .long 0, .null, .null, .null, .null, .null, .null, .int 0, .null, .null, .null, .int 0, .null, .int 0])), (q1, .inl (cI, 8, .inl fun _ => 0)), (q2, .inl (cI, 8, .inl fun _ => 0)), (q3, .inl (cI, 8, .inl fun _ => 0)), (q4, .inl (cI, 8, .inl fun _ => 0))] H := hP
  have hD : va_D A [(h0, .inr (5, [.int 0, .ref q1, .ref q2, .ref q3, .ref q4, .int 0, .int 0, .null, .int 0, .int 0, .null, .null, .null, .int 0, .int 0, .int 0, .int 0, .int 0, .int 0, .int 0, .long 0, .null, .null, .null, .null, .null, .null, .int 0, .null, .null, .null, .int 0, .null, .int 0])), (q1, .inl (cI, 8, .inl fun _ => 0)), (q2, .inl (cI, 8, .inl fun _ => 0)), (q3, .inl (cI, 8, .inl fun _ => 0)), (q4, .inl (cI, 8, .inl fun _ => 0))] := hD
  refine lv_aload_n hx hb eX5_init_36 rfl (lv_at hl 0 rfl) ?_
  refine lv_bipush (v := 100) hx hb eX5_init_37 (by decide) ?_
  refine va_put (D := D) (ci := 5) (v := .int 100) (ty := .int) (C := RX5) (T := TX5) (N := 34) hx hb hts (wi_uX5) tyX5 tyX5_ok nmX5 hown hK hP hD hS 0 rfl rfl 5 (by decide) (hts (.fieldLink RX5 22 "ToldScenesModel" "feeNow" "I") (wi 148 rfl)) (fun _ h9 => h9) rfl (by decide +kernel) rfl rfl (Nat.le_of_ble_eq_true rfl) eX5_init_39 (fun H locs hP hD hS => ?_)
  have hP : va_P D vwCl [(h0, .inr (5, [.int 0, .ref q1, .ref q2, .ref q3, .ref q4, .int 100, .int 0, .null, .int 0, .int 0, .null, .null, .null, .int 0, .int 0, .int 0, .int 0, .int 0, .int 0, .int 0, .long 0, .null, .null, .null, .null, .null, .null, .int 0, .null, .null, .null, .int 0, .null, .int 0])), (q1, .inl (cI, 8, .inl fun _ => 0)), (q2, .inl (cI, 8, .inl fun _ => 0)), (q3, .inl (cI, 8, .inl fun _ => 0)), (q4, .inl (cI, 8, .inl fun _ => 0))] H := hP
  have hD : va_D A [(h0, .inr (5, [.int 0, .ref q1, .ref q2, .ref q3, .ref q4, .int 100, .int 0, .null, .int 0, .int 0, .null, .null, .null, .int 0, .int 0, .int 0, .int 0, .int 0, .int 0, .int 0, .long 0, .null, .null, .null, .null, .null, .null, .int 0, .null, .null, .null, .int 0, .null, .int 0])), (q1, .inl (cI, 8, .inl fun _ => 0)), (q2, .inl (cI, 8, .inl fun _ => 0)), (q3, .inl (cI, 8, .inl fun _ => 0)), (q4, .inl (cI, 8, .inl fun _ => 0))] := hD
  refine lv_aload_n hx hb eX5_init_42 rfl (lv_at hl 0 rfl) ?_
  refine lv_bipush (v := 40) hx hb eX5_init_43 (by decide) ?_
  refine in_newi (N := 40) hx hb (hts (.arrayClass .int) (wi 82 rfl)) hK hP hD hS hA (by decide) (by decide) (Nat.le_of_ble_eq_true rfl) (Nat.le_of_ble_eq_true rfl) (Nat.le_of_ble_eq_true rfl) eX5_init_45 (fun q5 H hP hD hS => ?_)
  have hP : va_P D vwCl [(h0, .inr (5, [.int 0, .ref q1, .ref q2, .ref q3, .ref q4, .int 100, .int 0, .null, .int 0, .int 0, .null, .null, .null, .int 0, .int 0, .int 0, .int 0, .int 0, .int 0, .int 0, .long 0, .null, .null, .null, .null, .null, .null, .int 0, .null, .null, .null, .int 0, .null, .int 0])), (q1, .inl (cI, 8, .inl fun _ => 0)), (q2, .inl (cI, 8, .inl fun _ => 0)), (q3, .inl (cI, 8, .inl fun _ => 0)), (q4, .inl (cI, 8, .inl fun _ => 0)), (q5, .inl (cI, 40, .inl fun _ => 0))] H := hP
  have hD : va_D A [(h0, .inr (5, [.int 0, .ref q1, .ref q2, .ref q3, .ref q4, .int 100, .int 0, .null, .int 0, .int 0, .null, .null, .null, .int 0, .int 0, .int 0, .int 0, .int 0, .int 0, .int 0, .long 0, .null, .null, .null, .null, .null, .null, .int 0, .null, .null, .null, .int 0, .null, .int 0])), (q1, .inl (cI, 8, .inl fun _ => 0)), (q2, .inl (cI, 8, .inl fun _ => 0)), (q3, .inl (cI, 8, .inl fun _ => 0)), (q4, .inl (cI, 8, .inl fun _ => 0)), (q5, .inl (cI, 40, .inl fun _ => 0))] := hD
  refine va_putF (D := D) (ci := 5) (v := .ref q5) (ty := .array .int) (C := RX5) (T := TX5) (N := 34) hx hb hts (wi_uX5) tyX5 tyX5_ok nmX5 hown hK hP hD hS 0 rfl rfl 7 (by decide) (hts (.fieldLink RX5 26 "ToldScenesModel" "signOf" "[I") (wi 149 rfl)) (fun _ h9 => h9) rfl hin rfl (by decide +kernel) rfl rfl (Nat.le_of_ble_eq_true rfl) eX5_init_47 (fun H locs hP hD hS => ?_)
  have hP : va_P D vwCl [(h0, .inr (5, [.int 0, .ref q1, .ref q2, .ref q3, .ref q4, .int 100, .int 0, .ref q5, .int 0, .int 0, .null, .null, .null, .int 0, .int 0, .int 0, .int 0, .int 0, .int 0, .int 0, .long 0, .null, .null, .null, .null, .null, .null, .int 0, .null, .null, .null, .int 0, .null, .int 0])), (q1, .inl (cI, 8, .inl fun _ => 0)), (q2, .inl (cI, 8, .inl fun _ => 0)), (q3, .inl (cI, 8, .inl fun _ => 0)), (q4, .inl (cI, 8, .inl fun _ => 0)), (q5, .inl (cI, 40, .inl fun _ => 0))] H := hP
  have hD : va_D A [(h0, .inr (5, [.int 0, .ref q1, .ref q2, .ref q3, .ref q4, .int 100, .int 0, .ref q5, .int 0, .int 0, .null, .null, .null, .int 0, .int 0, .int 0, .int 0, .int 0, .int 0, .int 0, .long 0, .null, .null, .null, .null, .null, .null, .int 0, .null, .null, .null, .int 0, .null, .int 0])), (q1, .inl (cI, 8, .inl fun _ => 0)), (q2, .inl (cI, 8, .inl fun _ => 0)), (q3, .inl (cI, 8, .inl fun _ => 0)), (q4, .inl (cI, 8, .inl fun _ => 0)), (q5, .inl (cI, 40, .inl fun _ => 0))] := hD
  refine lv_aload_n hx hb eX5_init_50 rfl (lv_at hl 0 rfl) ?_
  refine lv_bipush (v := 41) hx hb eX5_init_51 (by decide) ?_
  refine in_newi (N := 41) hx hb (hts (.arrayClass .int) (wi 82 rfl)) hK hP hD hS hA (by decide) (by decide) (Nat.le_of_ble_eq_true rfl) (Nat.le_of_ble_eq_true rfl) (Nat.le_of_ble_eq_true rfl) eX5_init_53 (fun q6 H hP hD hS => ?_)
  have hP : va_P D vwCl [(h0, .inr (5, [.int 0, .ref q1, .ref q2, .ref q3, .ref q4, .int 100, .int 0, .ref q5, .int 0, .int 0, .null, .null, .null, .int 0, .int 0, .int 0, .int 0, .int 0, .int 0, .int 0, .long 0, .null, .null, .null, .null, .null, .null, .int 0, .null, .null, .null, .int 0, .null, .int 0])), (q1, .inl (cI, 8, .inl fun _ => 0)), (q2, .inl (cI, 8, .inl fun _ => 0)), (q3, .inl (cI, 8, .inl fun _ => 0)), (q4, .inl (cI, 8, .inl fun _ => 0)), (q5, .inl (cI, 40, .inl fun _ => 0)), (q6, .inl (cI, 41, .inl fun _ => 0))] H := hP
  have hD : va_D A [(h0, .inr (5, [.int 0, .ref q1, .ref q2, .ref q3, .ref q4, .int 100, .int 0, .ref q5, .int 0, .int 0, .null, .null, .null, .int 0, .int 0, .int 0, .int 0, .int 0, .int 0, .int 0, .long 0, .null, .null, .null, .null, .null, .null, .int 0, .null, .null, .null, .int 0, .null, .int 0])), (q1, .inl (cI, 8, .inl fun _ => 0)), (q2, .inl (cI, 8, .inl fun _ => 0)), (q3, .inl (cI, 8, .inl fun _ => 0)), (q4, .inl (cI, 8, .inl fun _ => 0)), (q5, .inl (cI, 40, .inl fun _ => 0)), (q6, .inl (cI, 41, .inl fun _ => 0))] := hD
  refine va_putF (D := D) (ci := 5) (v := .ref q6) (ty := .array .int) (C := RX5) (T := TX5) (N := 34) hx hb hts (wi_uX5) tyX5 tyX5_ok nmX5 hown hK hP hD hS 0 rfl rfl 10 (by decide) (hts (.fieldLink RX5 29 "ToldScenesModel" "lastIn" "[I") (wi 150 rfl)) (fun _ h9 => h9) rfl hin rfl (by decide +kernel) rfl rfl (Nat.le_of_ble_eq_true rfl) eX5_init_55 (fun H locs hP hD hS => ?_)
  have hP : va_P D vwCl [(h0, .inr (5, [.int 0, .ref q1, .ref q2, .ref q3, .ref q4, .int 100, .int 0, .ref q5, .int 0, .int 0, .ref q6, .null, .null, .int 0, .int 0, .int 0, .int 0, .int 0, .int 0, .int 0, .long 0, .null, .null, .null, .null, .null, .null, .int 0, .null, .null, .null, .int 0, .null, .int 0])), (q1, .inl (cI, 8, .inl fun _ => 0)), (q2, .inl (cI, 8, .inl fun _ => 0)), (q3, .inl (cI, 8, .inl fun _ => 0)), (q4, .inl (cI, 8, .inl fun _ => 0)), (q5, .inl (cI, 40, .inl fun _ => 0)), (q6, .inl (cI, 41, .inl fun _ => 0))] H := hP
  have hD : va_D A [(h0, .inr (5, [.int 0, .ref q1, .ref q2, .ref q3, .ref q4, .int 100, .int 0, .ref q5, .int 0, .int 0, .ref q6, .null, .null, .int 0, .int 0, .int 0, .int 0, .int 0, .int 0, .int 0, .long 0, .null, .null, .null, .null, .null, .null, .int 0, .null, .null, .null, .int 0, .null, .int 0])), (q1, .inl (cI, 8, .inl fun _ => 0)), (q2, .inl (cI, 8, .inl fun _ => 0)), (q3, .inl (cI, 8, .inl fun _ => 0)), (q4, .inl (cI, 8, .inl fun _ => 0)), (q5, .inl (cI, 40, .inl fun _ => 0)), (q6, .inl (cI, 41, .inl fun _ => 0))] := hD
  refine lv_aload_n hx hb eX5_init_58 rfl (lv_at hl 0 rfl) ?_
  refine lv_bipush (v := 41) hx hb eX5_init_59 (by decide) ?_
  refine in_newi (N := 41) hx hb (hts (.arrayClass .int) (wi 82 rfl)) hK hP hD hS hA (by decide) (by decide) (Nat.le_of_ble_eq_true rfl) (Nat.le_of_ble_eq_true rfl) (Nat.le_of_ble_eq_true rfl) eX5_init_61 (fun q7 H hP hD hS => ?_)
  have hP : va_P D vwCl [(h0, .inr (5, [.int 0, .ref q1, .ref q2, .ref q3, .ref q4, .int 100, .int 0, .ref q5, .int 0, .int 0, .ref q6, .null, .null, .int 0, .int 0, .int 0, .int 0, .int 0, .int 0, .int 0, .long 0, .null, .null, .null, .null, .null, .null, .int 0, .null, .null, .null, .int 0, .null, .int 0])), (q1, .inl (cI, 8, .inl fun _ => 0)), (q2, .inl (cI, 8, .inl fun _ => 0)), (q3, .inl (cI, 8, .inl fun _ => 0)), (q4, .inl (cI, 8, .inl fun _ => 0)), (q5, .inl (cI, 40, .inl fun _ => 0)), (q6, .inl (cI, 41, .inl fun _ => 0)), (q7, .inl (cI, 41, .inl fun _ => 0))] H := hP
  have hD : va_D A [(h0, .inr (5, [.int 0, .ref q1, .ref q2, .ref q3, .ref q4, .int 100, .int 0, .ref q5, .int 0, .int 0, .ref q6, .null, .null, .int 0, .int 0, .int 0, .int 0, .int 0, .int 0, .int 0, .long 0, .null, .null, .null, .null, .null, .null, .int 0, .null, .null, .null, .int 0, .null, .int 0])), (q1, .inl (cI, 8, .inl fun _ => 0)), (q2, .inl (cI, 8, .inl fun _ => 0)), (q3, .inl (cI, 8, .inl fun _ => 0)), (q4, .inl (cI, 8, .inl fun _ => 0)), (q5, .inl (cI, 40, .inl fun _ => 0)), (q6, .inl (cI, 41, .inl fun _ => 0)), (q7, .inl (cI, 41, .inl fun _ => 0))] := hD
  refine va_putF (D := D) (ci := 5) (v := .ref q7) (ty := .array .int) (C := RX5) (T := TX5) (N := 34) hx hb hts (wi_uX5) tyX5 tyX5_ok nmX5 hown hK hP hD hS 0 rfl rfl 11 (by decide) (hts (.fieldLink RX5 32 "ToldScenesModel" "tellerOf" "[I") (wi 151 rfl)) (fun _ h9 => h9) rfl hin rfl (by decide +kernel) rfl rfl (Nat.le_of_ble_eq_true rfl) eX5_init_63 (fun H locs hP hD hS => ?_)
  have hP : va_P D vwCl [(h0, .inr (5, [.int 0, .ref q1, .ref q2, .ref q3, .ref q4, .int 100, .int 0, .ref q5, .int 0, .int 0, .ref q6, .ref q7, .null, .int 0, .int 0, .int 0, .int 0, .int 0, .int 0, .int 0, .long 0, .null, .null, .null, .null, .null, .null, .int 0, .null, .null, .null, .int 0, .null, .int 0])), (q1, .inl (cI, 8, .inl fun _ => 0)), (q2, .inl (cI, 8, .inl fun _ => 0)), (q3, .inl (cI, 8, .inl fun _ => 0)), (q4, .inl (cI, 8, .inl fun _ => 0)), (q5, .inl (cI, 40, .inl fun _ => 0)), (q6, .inl (cI, 41, .inl fun _ => 0)), (q7, .inl (cI, 41, .inl fun _ => 0))] H := hP
  have hD : va_D A [(h0, .inr (5, [.int 0, .ref q1, .ref q2, .ref q3, .ref q4, .int 100, .int 0, .ref q5, .int 0, .int 0, .ref q6, .ref q7, .null, .int 0, .int 0, .int 0, .int 0, .int 0, .int 0, .int 0, .long 0, .null, .null, .null, .null, .null, .null, .int 0, .null, .null, .null, .int 0, .null, .int 0])), (q1, .inl (cI, 8, .inl fun _ => 0)), (q2, .inl (cI, 8, .inl fun _ => 0)), (q3, .inl (cI, 8, .inl fun _ => 0)), (q4, .inl (cI, 8, .inl fun _ => 0)), (q5, .inl (cI, 40, .inl fun _ => 0)), (q6, .inl (cI, 41, .inl fun _ => 0)), (q7, .inl (cI, 41, .inl fun _ => 0))] := hD
  refine lv_aload_n hx hb eX5_init_66 rfl (lv_at hl 0 rfl) ?_
  refine lv_bipush (v := 41) hx hb eX5_init_67 (by decide) ?_
  refine in_newi (N := 41) hx hb (hts (.arrayClass .int) (wi 82 rfl)) hK hP hD hS hA (by decide) (by decide) (Nat.le_of_ble_eq_true rfl) (Nat.le_of_ble_eq_true rfl) (Nat.le_of_ble_eq_true rfl) eX5_init_69 (fun q8 H hP hD hS => ?_)
  have hP : va_P D vwCl [(h0, .inr (5, [.int 0, .ref q1, .ref q2, .ref q3, .ref q4, .int 100, .int 0, .ref q5, .int 0, .int 0, .ref q6, .ref q7, .null, .int 0, .int 0, .int 0, .int 0, .int 0, .int 0, .int 0, .long 0, .null, .null, .null, .null, .null, .null, .int 0, .null, .null, .null, .int 0, .null, .int 0])), (q1, .inl (cI, 8, .inl fun _ => 0)), (q2, .inl (cI, 8, .inl fun _ => 0)), (q3, .inl (cI, 8, .inl fun _ => 0)), (q4, .inl (cI, 8, .inl fun _ => 0)), (q5, .inl (cI, 40, .inl fun _ => 0)), (q6, .inl (cI, 41, .inl fun _ => 0)), (q7, .inl (cI, 41, .inl fun _ => 0)), (q8, .inl (cI, 41, .inl fun _ => 0))] H := hP
  have hD : va_D A [(h0, .inr (5, [.int 0, .ref q1, .ref q2, .ref q3, .ref q4, .int 100, .int 0, .ref q5, .int 0, .int 0, .ref q6, .ref q7, .null, .int 0, .int 0, .int 0, .int 0, .int 0, .int 0, .int 0, .long 0, .null, .null, .null, .null, .null, .null, .int 0, .null, .null, .null, .int 0, .null, .int 0])), (q1, .inl (cI, 8, .inl fun _ => 0)), (q2, .inl (cI, 8, .inl fun _ => 0)), (q3, .inl (cI, 8, .inl fun _ => 0)), (q4, .inl (cI, 8, .inl fun _ => 0)), (q5, .inl (cI, 40, .inl fun _ => 0)), (q6, .inl (cI, 41, .inl fun _ => 0)), (q7, .inl (cI, 41, .inl fun _ => 0)), (q8, .inl (cI, 41, .inl fun _ => 0))] := hD
  refine va_putF (D := D) (ci := 5) (v := .ref q8) (ty := .array .int) (C := RX5) (T := TX5) (N := 34) hx hb hts (wi_uX5) tyX5 tyX5_ok nmX5 hown hK hP hD hS 0 rfl rfl 12 (by decide) (hts (.fieldLink RX5 35 "ToldScenesModel" "sideOf" "[I") (wi 152 rfl)) (fun _ h9 => h9) rfl hin rfl (by decide +kernel) rfl rfl (Nat.le_of_ble_eq_true rfl) eX5_init_71 (fun H locs hP hD hS => ?_)
  have hP : va_P D vwCl [(h0, .inr (5, [.int 0, .ref q1, .ref q2, .ref q3, .ref q4, .int 100, .int 0, .ref q5, .int 0, .int 0, .ref q6, .ref q7, .ref q8, .int 0, .int 0, .int 0, .int 0, .int 0, .int 0, .int 0, .long 0, .null, .null, .null, .null, .null, .null, .int 0, .null, .null, .null, .int 0, .null, .int 0])), (q1, .inl (cI, 8, .inl fun _ => 0)), (q2, .inl (cI, 8, .inl fun _ => 0)), (q3, .inl (cI, 8, .inl fun _ => 0)), (q4, .inl (cI, 8, .inl fun _ => 0)), (q5, .inl (cI, 40, .inl fun _ => 0)), (q6, .inl (cI, 41, .inl fun _ => 0)), (q7, .inl (cI, 41, .inl fun _ => 0)), (q8, .inl (cI, 41, .inl fun _ => 0))] H := hP
  have hD : va_D A [(h0, .inr (5, [.int 0, .ref q1, .ref q2, .ref q3, .ref q4, .int 100, .int 0, .ref q5, .int 0, .int 0, .ref q6, .ref q7, .ref q8, .int 0, .int 0, .int 0, .int 0, .int 0, .int 0, .int 0, .long 0, .null, .null, .null, .null, .null, .null, .int 0, .null, .null, .null, .int 0, .null, .int 0])), (q1, .inl (cI, 8, .inl fun _ => 0)), (q2, .inl (cI, 8, .inl fun _ => 0)), (q3, .inl (cI, 8, .inl fun _ => 0)), (q4, .inl (cI, 8, .inl fun _ => 0)), (q5, .inl (cI, 40, .inl fun _ => 0)), (q6, .inl (cI, 41, .inl fun _ => 0)), (q7, .inl (cI, 41, .inl fun _ => 0)), (q8, .inl (cI, 41, .inl fun _ => 0))] := hD
  refine lv_aload_n hx hb eX5_init_74 rfl (lv_at hl 0 rfl) ?_
  refine lv_bipush (v := 8) hx hb eX5_init_75 (by decide) ?_
  refine in_newi (N := 8) hx hb (hts (.arrayClass .int) (wi 82 rfl)) hK hP hD hS hA (by decide) (by decide) (Nat.le_of_ble_eq_true rfl) (Nat.le_of_ble_eq_true rfl) (Nat.le_of_ble_eq_true rfl) eX5_init_77 (fun q9 H hP hD hS => ?_)
  have hP : va_P D vwCl [(h0, .inr (5, [.int 0, .ref q1, .ref q2, .ref q3, .ref q4, .int 100, .int 0, .ref q5, .int 0, .int 0, .ref q6, .ref q7, .ref q8, .int 0, .int 0, .int 0, .int 0, .int 0, .int 0, .int 0, .long 0, .null, .null, .null, .null, .null, .null, .int 0, .null, .null, .null, .int 0, .null, .int 0])), (q1, .inl (cI, 8, .inl fun _ => 0)), (q2, .inl (cI, 8, .inl fun _ => 0)), (q3, .inl (cI, 8, .inl fun _ => 0)), (q4, .inl (cI, 8, .inl fun _ => 0)), (q5, .inl (cI, 40, .inl fun _ => 0)), (q6, .inl (cI, 41, .inl fun _ => 0)), (q7, .inl (cI, 41, .inl fun _ => 0)), (q8, .inl (cI, 41, .inl fun _ => 0)), (q9, .inl (cI, 8, .inl fun _ => 0))] H := hP
  have hD : va_D A [(h0, .inr (5, [.int 0, .ref q1, .ref q2, .ref q3, .ref q4, .int 100, .int 0, .ref q5, .int 0, .int 0, .ref q6, .ref q7, .ref q8, .int 0, .int 0, .int 0, .int 0, .int 0, .int 0, .int 0, .long 0, .null, .null, .null, .null, .null, .null, .int 0, .null, .null, .null, .int 0, .null, .int 0])), (q1, .inl (cI, 8, .inl fun _ => 0)), (q2, .inl (cI, 8, .inl fun _ => 0)), (q3, .inl (cI, 8, .inl fun _ => 0)), (q4, .inl (cI, 8, .inl fun _ => 0)), (q5, .inl (cI, 40, .inl fun _ => 0)), (q6, .inl (cI, 41, .inl fun _ => 0)), (q7, .inl (cI, 41, .inl fun _ => 0)), (q8, .inl (cI, 41, .inl fun _ => 0)), (q9, .inl (cI, 8, .inl fun _ => 0))] := hD
  refine va_putF (D := D) (ci := 5) (v := .ref q9) (ty := .array .int) (C := RX5) (T := TX5) (N := 34) hx hb hts (wi_uX5) tyX5 tyX5_ok nmX5 hown hK hP hD hS 0 rfl rfl 21 (by decide) (hts (.fieldLink RX5 38 "ToldScenesModel" "placeOf" "[I") (wi 153 rfl)) (fun _ h9 => h9) rfl hin rfl (by decide +kernel) rfl rfl (Nat.le_of_ble_eq_true rfl) eX5_init_79 (fun H locs hP hD hS => ?_)
  have hP : va_P D vwCl [(h0, .inr (5, [.int 0, .ref q1, .ref q2, .ref q3, .ref q4, .int 100, .int 0, .ref q5, .int 0, .int 0, .ref q6, .ref q7, .ref q8, .int 0, .int 0, .int 0, .int 0, .int 0, .int 0, .int 0, .long 0, .ref q9, .null, .null, .null, .null, .null, .int 0, .null, .null, .null, .int 0, .null, .int 0])), (q1, .inl (cI, 8, .inl fun _ => 0)), (q2, .inl (cI, 8, .inl fun _ => 0)), (q3, .inl (cI, 8, .inl fun _ => 0)), (q4, .inl (cI, 8, .inl fun _ => 0)), (q5, .inl (cI, 40, .inl fun _ => 0)), (q6, .inl (cI, 41, .inl fun _ => 0)), (q7, .inl (cI, 41, .inl fun _ => 0)), (q8, .inl (cI, 41, .inl fun _ => 0)), (q9, .inl (cI, 8, .inl fun _ => 0))] H := hP
  have hD : va_D A [(h0, .inr (5, [.int 0, .ref q1, .ref q2, .ref q3, .ref q4, .int 100, .int 0, .ref q5, .int 0, .int 0, .ref q6, .ref q7, .ref q8, .int 0, .int 0, .int 0, .int 0, .int 0, .int 0, .int 0, .long 0, .ref q9, .null, .null, .null, .null, .null, .int 0, .null, .null, .null, .int 0, .null, .int 0])), (q1, .inl (cI, 8, .inl fun _ => 0)), (q2, .inl (cI, 8, .inl fun _ => 0)), (q3, .inl (cI, 8, .inl fun _ => 0)), (q4, .inl (cI, 8, .inl fun _ => 0)), (q5, .inl (cI, 40, .inl fun _ => 0)), (q6, .inl (cI, 41, .inl fun _ => 0)), (q7, .inl (cI, 41, .inl fun _ => 0)), (q8, .inl (cI, 41, .inl fun _ => 0)), (q9, .inl (cI, 8, .inl fun _ => 0))] := hD
  refine lv_aload_n hx hb eX5_init_82 rfl (lv_at hl 0 rfl) ?_
  refine lv_bipush (v := 8) hx hb eX5_init_83 (by decide) ?_
  refine in_newi (N := 8) hx hb (hts (.arrayClass .int) (wi 82 rfl)) hK hP hD hS hA (by decide) (by decide) (Nat.le_of_ble_eq_true rfl) (Nat.le_of_ble_eq_true rfl) (Nat.le_of_ble_eq_true rfl) eX5_init_85 (fun q10 H hP hD hS => ?_)
  have hP : va_P D vwCl [(h0, .inr (5, [.int 0, .ref q1, .ref q2, .ref q3, .ref q4, .int 100, .int 0, .ref q5, .int 0, .int 0, .ref q6, .ref q7, .ref q8, .int 0, .int 0, .int 0, .int 0, .int 0, .int 0, .int 0, .long 0, .ref q9, .null, .null, .null, .null, .null, .int 0, .null, .null, .null, .int 0, .null, .int 0])), (q1, .inl (cI, 8, .inl fun _ => 0)), (q2, .inl (cI, 8, .inl fun _ => 0)), (q3, .inl (cI, 8, .inl fun _ => 0)), (q4, .inl (cI, 8, .inl fun _ => 0)), (q5, .inl (cI, 40, .inl fun _ => 0)), (q6, .inl (cI, 41, .inl fun _ => 0)), (q7, .inl (cI, 41, .inl fun _ => 0)), (q8, .inl (cI, 41, .inl fun _ => 0)), (q9, .inl (cI, 8, .inl fun _ => 0)), (q10, .inl (cI, 8, .inl fun _ => 0))] H := hP
  have hD : va_D A [(h0, .inr (5, [.int 0, .ref q1, .ref q2, .ref q3, .ref q4, .int 100, .int 0, .ref q5, .int 0, .int 0, .ref q6, .ref q7, .ref q8, .int 0, .int 0, .int 0, .int 0, .int 0, .int 0, .int 0, .long 0, .ref q9, .null, .null, .null, .null, .null, .int 0, .null, .null, .null, .int 0, .null, .int 0])), (q1, .inl (cI, 8, .inl fun _ => 0)), (q2, .inl (cI, 8, .inl fun _ => 0)), (q3, .inl (cI, 8, .inl fun _ => 0)), (q4, .inl (cI, 8, .inl fun _ => 0)), (q5, .inl (cI, 40, .inl fun _ => 0)), (q6, .inl (cI, 41, .inl fun _ => 0)), (q7, .inl (cI, 41, .inl fun _ => 0)), (q8, .inl (cI, 41, .inl fun _ => 0)), (q9, .inl (cI, 8, .inl fun _ => 0)), (q10, .inl (cI, 8, .inl fun _ => 0))] := hD
  refine va_putF (D := D) (ci := 5) (v := .ref q10) (ty := .array .int) (C := RX5) (T := TX5) (N := 34) hx hb hts (wi_uX5) tyX5 tyX5_ok nmX5 hown hK hP hD hS 0 rfl rfl 22 (by decide) (hts (.fieldLink RX5 41 "ToldScenesModel" "depthOf" "[I") (wi 154 rfl)) (fun _ h9 => h9) rfl hin rfl (by decide +kernel) rfl rfl (Nat.le_of_ble_eq_true rfl) eX5_init_87 (fun H locs hP hD hS => ?_)
  have hP : va_P D vwCl [(h0, .inr (5, [.int 0, .ref q1, .ref q2, .ref q3, .ref q4, .int 100, .int 0, .ref q5, .int 0, .int 0, .ref q6, .ref q7, .ref q8, .int 0, .int 0, .int 0, .int 0, .int 0, .int 0, .int 0, .long 0, .ref q9, .ref q10, .null, .null, .null, .null, .int 0, .null, .null, .null, .int 0, .null, .int 0])), (q1, .inl (cI, 8, .inl fun _ => 0)), (q2, .inl (cI, 8, .inl fun _ => 0)), (q3, .inl (cI, 8, .inl fun _ => 0)), (q4, .inl (cI, 8, .inl fun _ => 0)), (q5, .inl (cI, 40, .inl fun _ => 0)), (q6, .inl (cI, 41, .inl fun _ => 0)), (q7, .inl (cI, 41, .inl fun _ => 0)), (q8, .inl (cI, 41, .inl fun _ => 0)), (q9, .inl (cI, 8, .inl fun _ => 0)), (q10, .inl (cI, 8, .inl fun _ => 0))] H := hP
  have hD : va_D A [(h0, .inr (5, [.int 0, .ref q1, .ref q2, .ref q3, .ref q4, .int 100, .int 0, .ref q5, .int 0, .int 0, .ref q6, .ref q7, .ref q8, .int 0, .int 0, .int 0, .int 0, .int 0, .int 0, .int 0, .long 0, .ref q9, .ref q10, .null, .null, .null, .null, .int 0, .null, .null, .null, .int 0, .null, .int 0])), (q1, .inl (cI, 8, .inl fun _ => 0)), (q2, .inl (cI, 8, .inl fun _ => 0)), (q3, .inl (cI, 8, .inl fun _ => 0)), (q4, .inl (cI, 8, .inl fun _ => 0)), (q5, .inl (cI, 40, .inl fun _ => 0)), (q6, .inl (cI, 41, .inl fun _ => 0)), (q7, .inl (cI, 41, .inl fun _ => 0)), (q8, .inl (cI, 41, .inl fun _ => 0)), (q9, .inl (cI, 8, .inl fun _ => 0)), (q10, .inl (cI, 8, .inl fun _ => 0))] := hD
  refine lv_aload_n hx hb eX5_init_90 rfl (lv_at hl 0 rfl) ?_
  refine lv_bipush (v := 8) hx hb eX5_init_91 (by decide) ?_
  refine in_newi (N := 8) hx hb (hts (.arrayClass .int) (wi 82 rfl)) hK hP hD hS hA (by decide) (by decide) (Nat.le_of_ble_eq_true rfl) (Nat.le_of_ble_eq_true rfl) (Nat.le_of_ble_eq_true rfl) eX5_init_93 (fun q11 H hP hD hS => ?_)
  have hP : va_P D vwCl [(h0, .inr (5, [.int 0, .ref q1, .ref q2, .ref q3, .ref q4, .int 100, .int 0, .ref q5, .int 0, .int 0, .ref q6, .ref q7, .ref q8, .int 0, .int 0, .int 0, .int 0, .int 0, .int 0, .int 0, .long 0, .ref q9, .ref q10, .null, .null, .null, .null, .int 0, .null, .null, .null, .int 0, .null, .int 0])), (q1, .inl (cI, 8, .inl fun _ => 0)), (q2, .inl (cI, 8, .inl fun _ => 0)), (q3, .inl (cI, 8, .inl fun _ => 0)), (q4, .inl (cI, 8, .inl fun _ => 0)), (q5, .inl (cI, 40, .inl fun _ => 0)), (q6, .inl (cI, 41, .inl fun _ => 0)), (q7, .inl (cI, 41, .inl fun _ => 0)), (q8, .inl (cI, 41, .inl fun _ => 0)), (q9, .inl (cI, 8, .inl fun _ => 0)), (q10, .inl (cI, 8, .inl fun _ => 0)), (q11, .inl (cI, 8, .inl fun _ => 0))] H := hP
  have hD : va_D A [(h0, .inr (5, [.int 0, .ref q1, .ref q2, .ref q3, .ref q4, .int 100, .int 0, .ref q5, .int 0, .int 0, .ref q6, .ref q7, .ref q8, .int 0, .int 0, .int 0, .int 0, .int 0, .int 0, .int 0, .long 0, .ref q9, .ref q10, .null, .null, .null, .null, .int 0, .null, .null, .null, .int 0, .null, .int 0])), (q1, .inl (cI, 8, .inl fun _ => 0)), (q2, .inl (cI, 8, .inl fun _ => 0)), (q3, .inl (cI, 8, .inl fun _ => 0)), (q4, .inl (cI, 8, .inl fun _ => 0)), (q5, .inl (cI, 40, .inl fun _ => 0)), (q6, .inl (cI, 41, .inl fun _ => 0)), (q7, .inl (cI, 41, .inl fun _ => 0)), (q8, .inl (cI, 41, .inl fun _ => 0)), (q9, .inl (cI, 8, .inl fun _ => 0)), (q10, .inl (cI, 8, .inl fun _ => 0)), (q11, .inl (cI, 8, .inl fun _ => 0))] := hD
  refine va_putF (D := D) (ci := 5) (v := .ref q11) (ty := .array .int) (C := RX5) (T := TX5) (N := 34) hx hb hts (wi_uX5) tyX5 tyX5_ok nmX5 hown hK hP hD hS 0 rfl rfl 23 (by decide) (hts (.fieldLink RX5 44 "ToldScenesModel" "underOf" "[I") (wi 155 rfl)) (fun _ h9 => h9) rfl hin rfl (by decide +kernel) rfl rfl (Nat.le_of_ble_eq_true rfl) eX5_init_95 (fun H locs hP hD hS => ?_)
  have hP : va_P D vwCl [(h0, .inr (5, [.int 0, .ref q1, .ref q2, .ref q3, .ref q4, .int 100, .int 0, .ref q5, .int 0, .int 0, .ref q6, .ref q7, .ref q8, .int 0, .int 0, .int 0, .int 0, .int 0, .int 0, .int 0, .long 0, .ref q9, .ref q10, .ref q11, .null, .null, .null, .int 0, .null, .null, .null, .int 0, .null, .int 0])), (q1, .inl (cI, 8, .inl fun _ => 0)), (q2, .inl (cI, 8, .inl fun _ => 0)), (q3, .inl (cI, 8, .inl fun _ => 0)), (q4, .inl (cI, 8, .inl fun _ => 0)), (q5, .inl (cI, 40, .inl fun _ => 0)), (q6, .inl (cI, 41, .inl fun _ => 0)), (q7, .inl (cI, 41, .inl fun _ => 0)), (q8, .inl (cI, 41, .inl fun _ => 0)), (q9, .inl (cI, 8, .inl fun _ => 0)), (q10, .inl (cI, 8, .inl fun _ => 0)), (q11, .inl (cI, 8, .inl fun _ => 0))] H := hP
  have hD : va_D A [(h0, .inr (5, [.int 0, .ref q1, .ref q2, .ref q3, .ref q4, .int 100, .int 0, .ref q5, .int 0, .int 0, .ref q6, .ref q7, .ref q8, .int 0, .int 0, .int 0, .int 0, .int 0, .int 0, .int 0, .long 0, .ref q9, .ref q10, .ref q11, .null, .null, .null, .int 0, .null, .null, .null, .int 0, .null, .int 0])), (q1, .inl (cI, 8, .inl fun _ => 0)), (q2, .inl (cI, 8, .inl fun _ => 0)), (q3, .inl (cI, 8, .inl fun _ => 0)), (q4, .inl (cI, 8, .inl fun _ => 0)), (q5, .inl (cI, 40, .inl fun _ => 0)), (q6, .inl (cI, 41, .inl fun _ => 0)), (q7, .inl (cI, 41, .inl fun _ => 0)), (q8, .inl (cI, 41, .inl fun _ => 0)), (q9, .inl (cI, 8, .inl fun _ => 0)), (q10, .inl (cI, 8, .inl fun _ => 0)), (q11, .inl (cI, 8, .inl fun _ => 0))] := hD
  refine lv_aload_n hx hb eX5_init_98 rfl (lv_at hl 0 rfl) ?_
  refine lv_bipush (v := 8) hx hb eX5_init_99 (by decide) ?_
  refine in_newi (N := 8) hx hb (hts (.arrayClass .int) (wi 82 rfl)) hK hP hD hS hA (by decide) (by decide) (Nat.le_of_ble_eq_true rfl) (Nat.le_of_ble_eq_true rfl) (Nat.le_of_ble_eq_true rfl) eX5_init_101 (fun q12 H hP hD hS => ?_)
  have hP : va_P D vwCl [(h0, .inr (5, [.int 0, .ref q1, .ref q2, .ref q3, .ref q4, .int 100, .int 0, .ref q5, .int 0, .int 0, .ref q6, .ref q7, .ref q8, .int 0, .int 0, .int 0, .int 0, .int 0, .int 0, .int 0, .long 0, .ref q9, .ref q10, .ref q11, .null, .null, .null, .int 0, .null, .null, .null, .int 0, .null, .int 0])), (q1, .inl (cI, 8, .inl fun _ => 0)), (q2, .inl (cI, 8, .inl fun _ => 0)), (q3, .inl (cI, 8, .inl fun _ => 0)), (q4, .inl (cI, 8, .inl fun _ => 0)), (q5, .inl (cI, 40, .inl fun _ => 0)), (q6, .inl (cI, 41, .inl fun _ => 0)), (q7, .inl (cI, 41, .inl fun _ => 0)), (q8, .inl (cI, 41, .inl fun _ => 0)), (q9, .inl (cI, 8, .inl fun _ => 0)), (q10, .inl (cI, 8, .inl fun _ => 0)), (q11, .inl (cI, 8, .inl fun _ => 0)), (q12, .inl (cI, 8, .inl fun _ => 0))] H := hP
  have hD : va_D A [(h0, .inr (5, [.int 0, .ref q1, .ref q2, .ref q3, .ref q4, .int 100, .int 0, .ref q5, .int 0, .int 0, .ref q6, .ref q7, .ref q8, .int 0, .int 0, .int 0, .int 0, .int 0, .int 0, .int 0, .long 0, .ref q9, .ref q10, .ref q11, .null, .null, .null, .int 0, .null, .null, .null, .int 0, .null, .int 0])), (q1, .inl (cI, 8, .inl fun _ => 0)), (q2, .inl (cI, 8, .inl fun _ => 0)), (q3, .inl (cI, 8, .inl fun _ => 0)), (q4, .inl (cI, 8, .inl fun _ => 0)), (q5, .inl (cI, 40, .inl fun _ => 0)), (q6, .inl (cI, 41, .inl fun _ => 0)), (q7, .inl (cI, 41, .inl fun _ => 0)), (q8, .inl (cI, 41, .inl fun _ => 0)), (q9, .inl (cI, 8, .inl fun _ => 0)), (q10, .inl (cI, 8, .inl fun _ => 0)), (q11, .inl (cI, 8, .inl fun _ => 0)), (q12, .inl (cI, 8, .inl fun _ => 0))] := hD
  refine va_putF (D := D) (ci := 5) (v := .ref q12) (ty := .array .int) (C := RX5) (T := TX5) (N := 34) hx hb hts (wi_uX5) tyX5 tyX5_ok nmX5 hown hK hP hD hS 0 rfl rfl 24 (by decide) (hts (.fieldLink RX5 47 "ToldScenesModel" "onSide" "[I") (wi 156 rfl)) (fun _ h9 => h9) rfl hin rfl (by decide +kernel) rfl rfl (Nat.le_of_ble_eq_true rfl) eX5_init_103 (fun H locs hP hD hS => ?_)
  have hP : va_P D vwCl [(h0, .inr (5, [.int 0, .ref q1, .ref q2, .ref q3, .ref q4, .int 100, .int 0, .ref q5, .int 0, .int 0, .ref q6, .ref q7, .ref q8, .int 0, .int 0, .int 0, .int 0, .int 0, .int 0, .int 0, .long 0, .ref q9, .ref q10, .ref q11, .ref q12, .null, .null, .int 0, .null, .null, .null, .int 0, .null, .int 0])), (q1, .inl (cI, 8, .inl fun _ => 0)), (q2, .inl (cI, 8, .inl fun _ => 0)), (q3, .inl (cI, 8, .inl fun _ => 0)), (q4, .inl (cI, 8, .inl fun _ => 0)), (q5, .inl (cI, 40, .inl fun _ => 0)), (q6, .inl (cI, 41, .inl fun _ => 0)), (q7, .inl (cI, 41, .inl fun _ => 0)), (q8, .inl (cI, 41, .inl fun _ => 0)), (q9, .inl (cI, 8, .inl fun _ => 0)), (q10, .inl (cI, 8, .inl fun _ => 0)), (q11, .inl (cI, 8, .inl fun _ => 0)), (q12, .inl (cI, 8, .inl fun _ => 0))] H := hP
  have hD : va_D A [(h0, .inr (5, [.int 0, .ref q1, .ref q2, .ref q3, .ref q4, .int 100, .int 0, .ref q5, .int 0, .int 0, .ref q6, .ref q7, .ref q8, .int 0, .int 0, .int 0, .int 0, .int 0, .int 0, .int 0, .long 0, .ref q9, .ref q10, .ref q11, .ref q12, .null, .null, .int 0, .null, .null, .null, .int 0, .null, .int 0])), (q1, .inl (cI, 8, .inl fun _ => 0)), (q2, .inl (cI, 8, .inl fun _ => 0)), (q3, .inl (cI, 8, .inl fun _ => 0)), (q4, .inl (cI, 8, .inl fun _ => 0)), (q5, .inl (cI, 40, .inl fun _ => 0)), (q6, .inl (cI, 41, .inl fun _ => 0)), (q7, .inl (cI, 41, .inl fun _ => 0)), (q8, .inl (cI, 41, .inl fun _ => 0)), (q9, .inl (cI, 8, .inl fun _ => 0)), (q10, .inl (cI, 8, .inl fun _ => 0)), (q11, .inl (cI, 8, .inl fun _ => 0)), (q12, .inl (cI, 8, .inl fun _ => 0))] := hD
  refine lv_aload_n hx hb eX5_init_106 rfl (lv_at hl 0 rfl) ?_
  refine lv_sipush (v := 2048) hx hb eX5_init_107 (by decide) ?_
  refine in_newl (N := 2048) hx hb (hts (.arrayClass .long) (wi 96 rfl)) hK hP hD hS hA (by decide) (by decide) (Nat.le_of_ble_eq_true rfl) (Nat.le_of_ble_eq_true rfl) (Nat.le_of_ble_eq_true rfl) eX5_init_110 (fun q13 H hP hD hS => ?_)
  have hP : va_P D vwCl [(h0, .inr (5, [.int 0, .ref q1, .ref q2, .ref q3, .ref q4, .int 100, .int 0, .ref q5, .int 0, .int 0, .ref q6, .ref q7, .ref q8, .int 0, .int 0, .int 0, .int 0, .int 0, .int 0, .int 0, .long 0, .ref q9, .ref q10, .ref q11, .ref q12, .null, .null, .int 0, .null, .null, .null, .int 0, .null, .int 0])), (q1, .inl (cI, 8, .inl fun _ => 0)), (q2, .inl (cI, 8, .inl fun _ => 0)), (q3, .inl (cI, 8, .inl fun _ => 0)), (q4, .inl (cI, 8, .inl fun _ => 0)), (q5, .inl (cI, 40, .inl fun _ => 0)), (q6, .inl (cI, 41, .inl fun _ => 0)), (q7, .inl (cI, 41, .inl fun _ => 0)), (q8, .inl (cI, 41, .inl fun _ => 0)), (q9, .inl (cI, 8, .inl fun _ => 0)), (q10, .inl (cI, 8, .inl fun _ => 0)), (q11, .inl (cI, 8, .inl fun _ => 0)), (q12, .inl (cI, 8, .inl fun _ => 0)), (q13, .inl (cJ, 2048, .inr (.inl fun _ => 0)))] H := hP
  have hD : va_D A [(h0, .inr (5, [.int 0, .ref q1, .ref q2, .ref q3, .ref q4, .int 100, .int 0, .ref q5, .int 0, .int 0, .ref q6, .ref q7, .ref q8, .int 0, .int 0, .int 0, .int 0, .int 0, .int 0, .int 0, .long 0, .ref q9, .ref q10, .ref q11, .ref q12, .null, .null, .int 0, .null, .null, .null, .int 0, .null, .int 0])), (q1, .inl (cI, 8, .inl fun _ => 0)), (q2, .inl (cI, 8, .inl fun _ => 0)), (q3, .inl (cI, 8, .inl fun _ => 0)), (q4, .inl (cI, 8, .inl fun _ => 0)), (q5, .inl (cI, 40, .inl fun _ => 0)), (q6, .inl (cI, 41, .inl fun _ => 0)), (q7, .inl (cI, 41, .inl fun _ => 0)), (q8, .inl (cI, 41, .inl fun _ => 0)), (q9, .inl (cI, 8, .inl fun _ => 0)), (q10, .inl (cI, 8, .inl fun _ => 0)), (q11, .inl (cI, 8, .inl fun _ => 0)), (q12, .inl (cI, 8, .inl fun _ => 0)), (q13, .inl (cJ, 2048, .inr (.inl fun _ => 0)))] := hD
  refine va_putF (D := D) (ci := 5) (v := .ref q13) (ty := .array .long) (C := RX5) (T := TX5) (N := 34) hx hb hts (wi_uX5) tyX5 tyX5_ok nmX5 hown hK hP hD hS 0 rfl rfl 25 (by decide) (hts (.fieldLink RX5 50 "ToldScenesModel" "restOf" "[J") (wi 157 rfl)) (fun _ h9 => h9) rfl hin rfl (by decide +kernel) rfl rfl (Nat.le_of_ble_eq_true rfl) eX5_init_112 (fun H locs hP hD hS => ?_)
  have hP : va_P D vwCl [(h0, .inr (5, [.int 0, .ref q1, .ref q2, .ref q3, .ref q4, .int 100, .int 0, .ref q5, .int 0, .int 0, .ref q6, .ref q7, .ref q8, .int 0, .int 0, .int 0, .int 0, .int 0, .int 0, .int 0, .long 0, .ref q9, .ref q10, .ref q11, .ref q12, .ref q13, .null, .int 0, .null, .null, .null, .int 0, .null, .int 0])), (q1, .inl (cI, 8, .inl fun _ => 0)), (q2, .inl (cI, 8, .inl fun _ => 0)), (q3, .inl (cI, 8, .inl fun _ => 0)), (q4, .inl (cI, 8, .inl fun _ => 0)), (q5, .inl (cI, 40, .inl fun _ => 0)), (q6, .inl (cI, 41, .inl fun _ => 0)), (q7, .inl (cI, 41, .inl fun _ => 0)), (q8, .inl (cI, 41, .inl fun _ => 0)), (q9, .inl (cI, 8, .inl fun _ => 0)), (q10, .inl (cI, 8, .inl fun _ => 0)), (q11, .inl (cI, 8, .inl fun _ => 0)), (q12, .inl (cI, 8, .inl fun _ => 0)), (q13, .inl (cJ, 2048, .inr (.inl fun _ => 0)))] H := hP
  have hD : va_D A [(h0, .inr (5, [.int 0, .ref q1, .ref q2, .ref q3, .ref q4, .int 100, .int 0, .ref q5, .int 0, .int 0, .ref q6, .ref q7, .ref q8, .int 0, .int 0, .int 0, .int 0, .int 0, .int 0, .int 0, .long 0, .ref q9, .ref q10, .ref q11, .ref q12, .ref q13, .null, .int 0, .null, .null, .null, .int 0, .null, .int 0])), (q1, .inl (cI, 8, .inl fun _ => 0)), (q2, .inl (cI, 8, .inl fun _ => 0)), (q3, .inl (cI, 8, .inl fun _ => 0)), (q4, .inl (cI, 8, .inl fun _ => 0)), (q5, .inl (cI, 40, .inl fun _ => 0)), (q6, .inl (cI, 41, .inl fun _ => 0)), (q7, .inl (cI, 41, .inl fun _ => 0)), (q8, .inl (cI, 41, .inl fun _ => 0)), (q9, .inl (cI, 8, .inl fun _ => 0)), (q10, .inl (cI, 8, .inl fun _ => 0)), (q11, .inl (cI, 8, .inl fun _ => 0)), (q12, .inl (cI, 8, .inl fun _ => 0)), (q13, .inl (cJ, 2048, .inr (.inl fun _ => 0)))] := hD
  refine lv_aload_n hx hb eX5_init_115 rfl (lv_at hl 0 rfl) ?_
  refine lv_bipush (v := 8) hx hb eX5_init_116 (by decide) ?_
  refine in_newi (N := 8) hx hb (hts (.arrayClass .int) (wi 82 rfl)) hK hP hD hS hA (by decide) (by decide) (Nat.le_of_ble_eq_true rfl) (Nat.le_of_ble_eq_true rfl) (Nat.le_of_ble_eq_true rfl) eX5_init_118 (fun q14 H hP hD hS => ?_)
  have hP : va_P D vwCl [(h0, .inr (5, [.int 0, .ref q1, .ref q2, .ref q3, .ref q4, .int 100, .int 0, .ref q5, .int 0, .int 0, .ref q6, .ref q7, .ref q8, .int 0, .int 0, .int 0, .int 0, .int 0, .int 0, .int 0, .long 0, .ref q9, .ref q10, .ref q11, .ref q12, .ref q13, .null, .int 0, .null, .null, .null, .int 0, .null, .int 0])), (q1, .inl (cI, 8, .inl fun _ => 0)), (q2, .inl (cI, 8, .inl fun _ => 0)), (q3, .inl (cI, 8, .inl fun _ => 0)), (q4, .inl (cI, 8, .inl fun _ => 0)), (q5, .inl (cI, 40, .inl fun _ => 0)), (q6, .inl (cI, 41, .inl fun _ => 0)), (q7, .inl (cI, 41, .inl fun _ => 0)), (q8, .inl (cI, 41, .inl fun _ => 0)), (q9, .inl (cI, 8, .inl fun _ => 0)), (q10, .inl (cI, 8, .inl fun _ => 0)), (q11, .inl (cI, 8, .inl fun _ => 0)), (q12, .inl (cI, 8, .inl fun _ => 0)), (q13, .inl (cJ, 2048, .inr (.inl fun _ => 0))), (q14, .inl (cI, 8, .inl fun _ => 0))] H := hP
  have hD : va_D A [(h0, .inr (5, [.int 0, .ref q1, .ref q2, .ref q3, .ref q4, .int 100, .int 0, .ref q5, .int 0, .int 0, .ref q6, .ref q7, .ref q8, .int 0, .int 0, .int 0, .int 0, .int 0, .int 0, .int 0, .long 0, .ref q9, .ref q10, .ref q11, .ref q12, .ref q13, .null, .int 0, .null, .null, .null, .int 0, .null, .int 0])), (q1, .inl (cI, 8, .inl fun _ => 0)), (q2, .inl (cI, 8, .inl fun _ => 0)), (q3, .inl (cI, 8, .inl fun _ => 0)), (q4, .inl (cI, 8, .inl fun _ => 0)), (q5, .inl (cI, 40, .inl fun _ => 0)), (q6, .inl (cI, 41, .inl fun _ => 0)), (q7, .inl (cI, 41, .inl fun _ => 0)), (q8, .inl (cI, 41, .inl fun _ => 0)), (q9, .inl (cI, 8, .inl fun _ => 0)), (q10, .inl (cI, 8, .inl fun _ => 0)), (q11, .inl (cI, 8, .inl fun _ => 0)), (q12, .inl (cI, 8, .inl fun _ => 0)), (q13, .inl (cJ, 2048, .inr (.inl fun _ => 0))), (q14, .inl (cI, 8, .inl fun _ => 0))] := hD
  refine va_putF (D := D) (ci := 5) (v := .ref q14) (ty := .array .int) (C := RX5) (T := TX5) (N := 34) hx hb hts (wi_uX5) tyX5 tyX5_ok nmX5 hown hK hP hD hS 0 rfl rfl 26 (by decide) (hts (.fieldLink RX5 54 "ToldScenesModel" "best" "[I") (wi 158 rfl)) (fun _ h9 => h9) rfl hin rfl (by decide +kernel) rfl rfl (Nat.le_of_ble_eq_true rfl) eX5_init_120 (fun H locs hP hD hS => ?_)
  have hP : va_P D vwCl [(h0, .inr (5, [.int 0, .ref q1, .ref q2, .ref q3, .ref q4, .int 100, .int 0, .ref q5, .int 0, .int 0, .ref q6, .ref q7, .ref q8, .int 0, .int 0, .int 0, .int 0, .int 0, .int 0, .int 0, .long 0, .ref q9, .ref q10, .ref q11, .ref q12, .ref q13, .ref q14, .int 0, .null, .null, .null, .int 0, .null, .int 0])), (q1, .inl (cI, 8, .inl fun _ => 0)), (q2, .inl (cI, 8, .inl fun _ => 0)), (q3, .inl (cI, 8, .inl fun _ => 0)), (q4, .inl (cI, 8, .inl fun _ => 0)), (q5, .inl (cI, 40, .inl fun _ => 0)), (q6, .inl (cI, 41, .inl fun _ => 0)), (q7, .inl (cI, 41, .inl fun _ => 0)), (q8, .inl (cI, 41, .inl fun _ => 0)), (q9, .inl (cI, 8, .inl fun _ => 0)), (q10, .inl (cI, 8, .inl fun _ => 0)), (q11, .inl (cI, 8, .inl fun _ => 0)), (q12, .inl (cI, 8, .inl fun _ => 0)), (q13, .inl (cJ, 2048, .inr (.inl fun _ => 0))), (q14, .inl (cI, 8, .inl fun _ => 0))] H := hP
  have hD : va_D A [(h0, .inr (5, [.int 0, .ref q1, .ref q2, .ref q3, .ref q4, .int 100, .int 0, .ref q5, .int 0, .int 0, .ref q6, .ref q7, .ref q8, .int 0, .int 0, .int 0, .int 0, .int 0, .int 0, .int 0, .long 0, .ref q9, .ref q10, .ref q11, .ref q12, .ref q13, .ref q14, .int 0, .null, .null, .null, .int 0, .null, .int 0])), (q1, .inl (cI, 8, .inl fun _ => 0)), (q2, .inl (cI, 8, .inl fun _ => 0)), (q3, .inl (cI, 8, .inl fun _ => 0)), (q4, .inl (cI, 8, .inl fun _ => 0)), (q5, .inl (cI, 40, .inl fun _ => 0)), (q6, .inl (cI, 41, .inl fun _ => 0)), (q7, .inl (cI, 41, .inl fun _ => 0)), (q8, .inl (cI, 41, .inl fun _ => 0)), (q9, .inl (cI, 8, .inl fun _ => 0)), (q10, .inl (cI, 8, .inl fun _ => 0)), (q11, .inl (cI, 8, .inl fun _ => 0)), (q12, .inl (cI, 8, .inl fun _ => 0)), (q13, .inl (cJ, 2048, .inr (.inl fun _ => 0))), (q14, .inl (cI, 8, .inl fun _ => 0))] := hD
  refine lv_aload_n hx hb eX5_init_123 rfl (lv_at hl 0 rfl) ?_
  refine lv_bipush (v := 40) hx hb eX5_init_124 (by decide) ?_
  refine in_newi (N := 40) hx hb (hts (.arrayClass .int) (wi 82 rfl)) hK hP hD hS hA (by decide) (by decide) (Nat.le_of_ble_eq_true rfl) (Nat.le_of_ble_eq_true rfl) (Nat.le_of_ble_eq_true rfl) eX5_init_126 (fun q15 H hP hD hS => ?_)
  have hP : va_P D vwCl [(h0, .inr (5, [.int 0, .ref q1, .ref q2, .ref q3, .ref q4, .int 100, .int 0, .ref q5, .int 0, .int 0, .ref q6, .ref q7, .ref q8, .int 0, .int 0, .int 0, .int 0, .int 0, .int 0, .int 0, .long 0, .ref q9, .ref q10, .ref q11, .ref q12, .ref q13, .ref q14, .int 0, .null, .null, .null, .int 0, .null, .int 0])), (q1, .inl (cI, 8, .inl fun _ => 0)), (q2, .inl (cI, 8, .inl fun _ => 0)), (q3, .inl (cI, 8, .inl fun _ => 0)), (q4, .inl (cI, 8, .inl fun _ => 0)), (q5, .inl (cI, 40, .inl fun _ => 0)), (q6, .inl (cI, 41, .inl fun _ => 0)), (q7, .inl (cI, 41, .inl fun _ => 0)), (q8, .inl (cI, 41, .inl fun _ => 0)), (q9, .inl (cI, 8, .inl fun _ => 0)), (q10, .inl (cI, 8, .inl fun _ => 0)), (q11, .inl (cI, 8, .inl fun _ => 0)), (q12, .inl (cI, 8, .inl fun _ => 0)), (q13, .inl (cJ, 2048, .inr (.inl fun _ => 0))), (q14, .inl (cI, 8, .inl fun _ => 0)), (q15, .inl (cI, 40, .inl fun _ => 0))] H := hP
  have hD : va_D A [(h0, .inr (5, [.int 0, .ref q1, .ref q2, .ref q3, .ref q4, .int 100, .int 0, .ref q5, .int 0, .int 0, .ref q6, .ref q7, .ref q8, .int 0, .int 0, .int 0, .int 0, .int 0, .int 0, .int 0, .long 0, .ref q9, .ref q10, .ref q11, .ref q12, .ref q13, .ref q14, .int 0, .null, .null, .null, .int 0, .null, .int 0])), (q1, .inl (cI, 8, .inl fun _ => 0)), (q2, .inl (cI, 8, .inl fun _ => 0)), (q3, .inl (cI, 8, .inl fun _ => 0)), (q4, .inl (cI, 8, .inl fun _ => 0)), (q5, .inl (cI, 40, .inl fun _ => 0)), (q6, .inl (cI, 41, .inl fun _ => 0)), (q7, .inl (cI, 41, .inl fun _ => 0)), (q8, .inl (cI, 41, .inl fun _ => 0)), (q9, .inl (cI, 8, .inl fun _ => 0)), (q10, .inl (cI, 8, .inl fun _ => 0)), (q11, .inl (cI, 8, .inl fun _ => 0)), (q12, .inl (cI, 8, .inl fun _ => 0)), (q13, .inl (cJ, 2048, .inr (.inl fun _ => 0))), (q14, .inl (cI, 8, .inl fun _ => 0)), (q15, .inl (cI, 40, .inl fun _ => 0))] := hD
  refine va_putF (D := D) (ci := 5) (v := .ref q15) (ty := .array .int) (C := RX5) (T := TX5) (N := 34) hx hb hts (wi_uX5) tyX5 tyX5_ok nmX5 hown hK hP hD hS 0 rfl rfl 28 (by decide) (hts (.fieldLink RX5 57 "ToldScenesModel" "row" "[I") (wi 159 rfl)) (fun _ h9 => h9) rfl hin rfl (by decide +kernel) rfl rfl (Nat.le_of_ble_eq_true rfl) eX5_init_128 (fun H locs hP hD hS => ?_)
  have hP : va_P D vwCl [(h0, .inr (5, [.int 0, .ref q1, .ref q2, .ref q3, .ref q4, .int 100, .int 0, .ref q5, .int 0, .int 0, .ref q6, .ref q7, .ref q8, .int 0, .int 0, .int 0, .int 0, .int 0, .int 0, .int 0, .long 0, .ref q9, .ref q10, .ref q11, .ref q12, .ref q13, .ref q14, .int 0, .ref q15, .null, .null, .int 0, .null, .int 0])), (q1, .inl (cI, 8, .inl fun _ => 0)), (q2, .inl (cI, 8, .inl fun _ => 0)), (q3, .inl (cI, 8, .inl fun _ => 0)), (q4, .inl (cI, 8, .inl fun _ => 0)), (q5, .inl (cI, 40, .inl fun _ => 0)), (q6, .inl (cI, 41, .inl fun _ => 0)), (q7, .inl (cI, 41, .inl fun _ => 0)), (q8, .inl (cI, 41, .inl fun _ => 0)), (q9, .inl (cI, 8, .inl fun _ => 0)), (q10, .inl (cI, 8, .inl fun _ => 0)), (q11, .inl (cI, 8, .inl fun _ => 0)), (q12, .inl (cI, 8, .inl fun _ => 0)), (q13, .inl (cJ, 2048, .inr (.inl fun _ => 0))), (q14, .inl (cI, 8, .inl fun _ => 0)), (q15, .inl (cI, 40, .inl fun _ => 0))] H := hP
  have hD : va_D A [(h0, .inr (5, [.int 0, .ref q1, .ref q2, .ref q3, .ref q4, .int 100, .int 0, .ref q5, .int 0, .int 0, .ref q6, .ref q7, .ref q8, .int 0, .int 0, .int 0, .int 0, .int 0, .int 0, .int 0, .long 0, .ref q9, .ref q10, .ref q11, .ref q12, .ref q13, .ref q14, .int 0, .ref q15, .null, .null, .int 0, .null, .int 0])), (q1, .inl (cI, 8, .inl fun _ => 0)), (q2, .inl (cI, 8, .inl fun _ => 0)), (q3, .inl (cI, 8, .inl fun _ => 0)), (q4, .inl (cI, 8, .inl fun _ => 0)), (q5, .inl (cI, 40, .inl fun _ => 0)), (q6, .inl (cI, 41, .inl fun _ => 0)), (q7, .inl (cI, 41, .inl fun _ => 0)), (q8, .inl (cI, 41, .inl fun _ => 0)), (q9, .inl (cI, 8, .inl fun _ => 0)), (q10, .inl (cI, 8, .inl fun _ => 0)), (q11, .inl (cI, 8, .inl fun _ => 0)), (q12, .inl (cI, 8, .inl fun _ => 0)), (q13, .inl (cJ, 2048, .inr (.inl fun _ => 0))), (q14, .inl (cI, 8, .inl fun _ => 0)), (q15, .inl (cI, 40, .inl fun _ => 0))] := hD
  refine lv_aload_n hx hb eX5_init_131 rfl (lv_at hl 0 rfl) ?_
  refine lv_bipush (v := 8) hx hb eX5_init_132 (by decide) ?_
  refine in_newi (N := 8) hx hb (hts (.arrayClass .int) (wi 82 rfl)) hK hP hD hS hA (by decide) (by decide) (Nat.le_of_ble_eq_true rfl) (Nat.le_of_ble_eq_true rfl) (Nat.le_of_ble_eq_true rfl) eX5_init_134 (fun q16 H hP hD hS => ?_)
  have hP : va_P D vwCl [(h0, .inr (5, [.int 0, .ref q1, .ref q2, .ref q3, .ref q4, .int 100, .int 0, .ref q5, .int 0, .int 0, .ref q6, .ref q7, .ref q8, .int 0, .int 0, .int 0, .int 0, .int 0, .int 0, .int 0, .long 0, .ref q9, .ref q10, .ref q11, .ref q12, .ref q13, .ref q14, .int 0, .ref q15, .null, .null, .int 0, .null, .int 0])), (q1, .inl (cI, 8, .inl fun _ => 0)), (q2, .inl (cI, 8, .inl fun _ => 0)), (q3, .inl (cI, 8, .inl fun _ => 0)), (q4, .inl (cI, 8, .inl fun _ => 0)), (q5, .inl (cI, 40, .inl fun _ => 0)), (q6, .inl (cI, 41, .inl fun _ => 0)), (q7, .inl (cI, 41, .inl fun _ => 0)), (q8, .inl (cI, 41, .inl fun _ => 0)), (q9, .inl (cI, 8, .inl fun _ => 0)), (q10, .inl (cI, 8, .inl fun _ => 0)), (q11, .inl (cI, 8, .inl fun _ => 0)), (q12, .inl (cI, 8, .inl fun _ => 0)), (q13, .inl (cJ, 2048, .inr (.inl fun _ => 0))), (q14, .inl (cI, 8, .inl fun _ => 0)), (q15, .inl (cI, 40, .inl fun _ => 0)), (q16, .inl (cI, 8, .inl fun _ => 0))] H := hP
  have hD : va_D A [(h0, .inr (5, [.int 0, .ref q1, .ref q2, .ref q3, .ref q4, .int 100, .int 0, .ref q5, .int 0, .int 0, .ref q6, .ref q7, .ref q8, .int 0, .int 0, .int 0, .int 0, .int 0, .int 0, .int 0, .long 0, .ref q9, .ref q10, .ref q11, .ref q12, .ref q13, .ref q14, .int 0, .ref q15, .null, .null, .int 0, .null, .int 0])), (q1, .inl (cI, 8, .inl fun _ => 0)), (q2, .inl (cI, 8, .inl fun _ => 0)), (q3, .inl (cI, 8, .inl fun _ => 0)), (q4, .inl (cI, 8, .inl fun _ => 0)), (q5, .inl (cI, 40, .inl fun _ => 0)), (q6, .inl (cI, 41, .inl fun _ => 0)), (q7, .inl (cI, 41, .inl fun _ => 0)), (q8, .inl (cI, 41, .inl fun _ => 0)), (q9, .inl (cI, 8, .inl fun _ => 0)), (q10, .inl (cI, 8, .inl fun _ => 0)), (q11, .inl (cI, 8, .inl fun _ => 0)), (q12, .inl (cI, 8, .inl fun _ => 0)), (q13, .inl (cJ, 2048, .inr (.inl fun _ => 0))), (q14, .inl (cI, 8, .inl fun _ => 0)), (q15, .inl (cI, 40, .inl fun _ => 0)), (q16, .inl (cI, 8, .inl fun _ => 0))] := hD
  refine va_putF (D := D) (ci := 5) (v := .ref q16) (ty := .array .int) (C := RX5) (T := TX5) (N := 34) hx hb hts (wi_uX5) tyX5 tyX5_ok nmX5 hown hK hP hD hS 0 rfl rfl 29 (by decide) (hts (.fieldLink RX5 60 "ToldScenesModel" "choice" "[I") (wi 160 rfl)) (fun _ h9 => h9) rfl hin rfl (by decide +kernel) rfl rfl (Nat.le_of_ble_eq_true rfl) eX5_init_136 (fun H locs hP hD hS => ?_)
  have hP : va_P D vwCl [(h0, .inr (5, [.int 0, .ref q1, .ref q2, .ref q3, .ref q4, .int 100, .int 0, .ref q5, .int 0, .int 0, .ref q6, .ref q7, .ref q8, .int 0, .int 0, .int 0, .int 0, .int 0, .int 0, .int 0, .long 0, .ref q9, .ref q10, .ref q11, .ref q12, .ref q13, .ref q14, .int 0, .ref q15, .ref q16, .null, .int 0, .null, .int 0])), (q1, .inl (cI, 8, .inl fun _ => 0)), (q2, .inl (cI, 8, .inl fun _ => 0)), (q3, .inl (cI, 8, .inl fun _ => 0)), (q4, .inl (cI, 8, .inl fun _ => 0)), (q5, .inl (cI, 40, .inl fun _ => 0)), (q6, .inl (cI, 41, .inl fun _ => 0)), (q7, .inl (cI, 41, .inl fun _ => 0)), (q8, .inl (cI, 41, .inl fun _ => 0)), (q9, .inl (cI, 8, .inl fun _ => 0)), (q10, .inl (cI, 8, .inl fun _ => 0)), (q11, .inl (cI, 8, .inl fun _ => 0)), (q12, .inl (cI, 8, .inl fun _ => 0)), (q13, .inl (cJ, 2048, .inr (.inl fun _ => 0))), (q14, .inl (cI, 8, .inl fun _ => 0)), (q15, .inl (cI, 40, .inl fun _ => 0)), (q16, .inl (cI, 8, .inl fun _ => 0))] H := hP
  have hD : va_D A [(h0, .inr (5, [.int 0, .ref q1, .ref q2, .ref q3, .ref q4, .int 100, .int 0, .ref q5, .int 0, .int 0, .ref q6, .ref q7, .ref q8, .int 0, .int 0, .int 0, .int 0, .int 0, .int 0, .int 0, .long 0, .ref q9, .ref q10, .ref q11, .ref q12, .ref q13, .ref q14, .int 0, .ref q15, .ref q16, .null, .int 0, .null, .int 0])), (q1, .inl (cI, 8, .inl fun _ => 0)), (q2, .inl (cI, 8, .inl fun _ => 0)), (q3, .inl (cI, 8, .inl fun _ => 0)), (q4, .inl (cI, 8, .inl fun _ => 0)), (q5, .inl (cI, 40, .inl fun _ => 0)), (q6, .inl (cI, 41, .inl fun _ => 0)), (q7, .inl (cI, 41, .inl fun _ => 0)), (q8, .inl (cI, 41, .inl fun _ => 0)), (q9, .inl (cI, 8, .inl fun _ => 0)), (q10, .inl (cI, 8, .inl fun _ => 0)), (q11, .inl (cI, 8, .inl fun _ => 0)), (q12, .inl (cI, 8, .inl fun _ => 0)), (q13, .inl (cJ, 2048, .inr (.inl fun _ => 0))), (q14, .inl (cI, 8, .inl fun _ => 0)), (q15, .inl (cI, 40, .inl fun _ => 0)), (q16, .inl (cI, 8, .inl fun _ => 0))] := hD
  refine lv_aload_n hx hb eX5_init_139 rfl (lv_at hl 0 rfl) ?_
  refine lv_bipush (v := 40) hx hb eX5_init_140 (by decide) ?_
  refine in_newi (N := 40) hx hb (hts (.arrayClass .int) (wi 82 rfl)) hK hP hD hS hA (by decide) (by decide) (Nat.le_of_ble_eq_true rfl) (Nat.le_of_ble_eq_true rfl) (Nat.le_of_ble_eq_true rfl) eX5_init_142 (fun q17 H hP hD hS => ?_)
  have hP : va_P D vwCl [(h0, .inr (5, [.int 0, .ref q1, .ref q2, .ref q3, .ref q4, .int 100, .int 0, .ref q5, .int 0, .int 0, .ref q6, .ref q7, .ref q8, .int 0, .int 0, .int 0, .int 0, .int 0, .int 0, .int 0, .long 0, .ref q9, .ref q10, .ref q11, .ref q12, .ref q13, .ref q14, .int 0, .ref q15, .ref q16, .null, .int 0, .null, .int 0])), (q1, .inl (cI, 8, .inl fun _ => 0)), (q2, .inl (cI, 8, .inl fun _ => 0)), (q3, .inl (cI, 8, .inl fun _ => 0)), (q4, .inl (cI, 8, .inl fun _ => 0)), (q5, .inl (cI, 40, .inl fun _ => 0)), (q6, .inl (cI, 41, .inl fun _ => 0)), (q7, .inl (cI, 41, .inl fun _ => 0)), (q8, .inl (cI, 41, .inl fun _ => 0)), (q9, .inl (cI, 8, .inl fun _ => 0)), (q10, .inl (cI, 8, .inl fun _ => 0)), (q11, .inl (cI, 8, .inl fun _ => 0)), (q12, .inl (cI, 8, .inl fun _ => 0)), (q13, .inl (cJ, 2048, .inr (.inl fun _ => 0))), (q14, .inl (cI, 8, .inl fun _ => 0)), (q15, .inl (cI, 40, .inl fun _ => 0)), (q16, .inl (cI, 8, .inl fun _ => 0)), (q17, .inl (cI, 40, .inl fun _ => 0))] H := hP
  have hD : va_D A [(h0, .inr (5, [.int 0, .ref q1, .ref q2, .ref q3, .ref q4, .int 100, .int 0, .ref q5, .int 0, .int 0, .ref q6, .ref q7, .ref q8, .int 0, .int 0, .int 0, .int 0, .int 0, .int 0, .int 0, .long 0, .ref q9, .ref q10, .ref q11, .ref q12, .ref q13, .ref q14, .int 0, .ref q15, .ref q16, .null, .int 0, .null, .int 0])), (q1, .inl (cI, 8, .inl fun _ => 0)), (q2, .inl (cI, 8, .inl fun _ => 0)), (q3, .inl (cI, 8, .inl fun _ => 0)), (q4, .inl (cI, 8, .inl fun _ => 0)), (q5, .inl (cI, 40, .inl fun _ => 0)), (q6, .inl (cI, 41, .inl fun _ => 0)), (q7, .inl (cI, 41, .inl fun _ => 0)), (q8, .inl (cI, 41, .inl fun _ => 0)), (q9, .inl (cI, 8, .inl fun _ => 0)), (q10, .inl (cI, 8, .inl fun _ => 0)), (q11, .inl (cI, 8, .inl fun _ => 0)), (q12, .inl (cI, 8, .inl fun _ => 0)), (q13, .inl (cJ, 2048, .inr (.inl fun _ => 0))), (q14, .inl (cI, 8, .inl fun _ => 0)), (q15, .inl (cI, 40, .inl fun _ => 0)), (q16, .inl (cI, 8, .inl fun _ => 0)), (q17, .inl (cI, 40, .inl fun _ => 0))] := hD
  refine va_putF (D := D) (ci := 5) (v := .ref q17) (ty := .array .int) (C := RX5) (T := TX5) (N := 34) hx hb hts (wi_uX5) tyX5 tyX5_ok nmX5 hown hK hP hD hS 0 rfl rfl 30 (by decide) (hts (.fieldLink RX5 63 "ToldScenesModel" "made" "[I") (wi 161 rfl)) (fun _ h9 => h9) rfl hin rfl (by decide +kernel) rfl rfl (Nat.le_of_ble_eq_true rfl) eX5_init_144 (fun H locs hP hD hS => ?_)
  have hP : va_P D vwCl [(h0, .inr (5, [.int 0, .ref q1, .ref q2, .ref q3, .ref q4, .int 100, .int 0, .ref q5, .int 0, .int 0, .ref q6, .ref q7, .ref q8, .int 0, .int 0, .int 0, .int 0, .int 0, .int 0, .int 0, .long 0, .ref q9, .ref q10, .ref q11, .ref q12, .ref q13, .ref q14, .int 0, .ref q15, .ref q16, .ref q17, .int 0, .null, .int 0])), (q1, .inl (cI, 8, .inl fun _ => 0)), (q2, .inl (cI, 8, .inl fun _ => 0)), (q3, .inl (cI, 8, .inl fun _ => 0)), (q4, .inl (cI, 8, .inl fun _ => 0)), (q5, .inl (cI, 40, .inl fun _ => 0)), (q6, .inl (cI, 41, .inl fun _ => 0)), (q7, .inl (cI, 41, .inl fun _ => 0)), (q8, .inl (cI, 41, .inl fun _ => 0)), (q9, .inl (cI, 8, .inl fun _ => 0)), (q10, .inl (cI, 8, .inl fun _ => 0)), (q11, .inl (cI, 8, .inl fun _ => 0)), (q12, .inl (cI, 8, .inl fun _ => 0)), (q13, .inl (cJ, 2048, .inr (.inl fun _ => 0))), (q14, .inl (cI, 8, .inl fun _ => 0)), (q15, .inl (cI, 40, .inl fun _ => 0)), (q16, .inl (cI, 8, .inl fun _ => 0)), (q17, .inl (cI, 40, .inl fun _ => 0))] H := hP
  have hD : va_D A [(h0, .inr (5, [.int 0, .ref q1, .ref q2, .ref q3, .ref q4, .int 100, .int 0, .ref q5, .int 0, .int 0, .ref q6, .ref q7, .ref q8, .int 0, .int 0, .int 0, .int 0, .int 0, .int 0, .int 0, .long 0, .ref q9, .ref q10, .ref q11, .ref q12, .ref q13, .ref q14, .int 0, .ref q15, .ref q16, .ref q17, .int 0, .null, .int 0])), (q1, .inl (cI, 8, .inl fun _ => 0)), (q2, .inl (cI, 8, .inl fun _ => 0)), (q3, .inl (cI, 8, .inl fun _ => 0)), (q4, .inl (cI, 8, .inl fun _ => 0)), (q5, .inl (cI, 40, .inl fun _ => 0)), (q6, .inl (cI, 41, .inl fun _ => 0)), (q7, .inl (cI, 41, .inl fun _ => 0)), (q8, .inl (cI, 41, .inl fun _ => 0)), (q9, .inl (cI, 8, .inl fun _ => 0)), (q10, .inl (cI, 8, .inl fun _ => 0)), (q11, .inl (cI, 8, .inl fun _ => 0)), (q12, .inl (cI, 8, .inl fun _ => 0)), (q13, .inl (cJ, 2048, .inr (.inl fun _ => 0))), (q14, .inl (cI, 8, .inl fun _ => 0)), (q15, .inl (cI, 40, .inl fun _ => 0)), (q16, .inl (cI, 8, .inl fun _ => 0)), (q17, .inl (cI, 40, .inl fun _ => 0))] := hD
  refine lv_aload_n hx hb eX5_init_147 rfl (lv_at hl 0 rfl) ?_
  refine lv_bipush (v := 40) hx hb eX5_init_148 (by decide) ?_
  refine in_newi (N := 40) hx hb (hts (.arrayClass .int) (wi 82 rfl)) hK hP hD hS hA (by decide) (by decide) (Nat.le_of_ble_eq_true rfl) (Nat.le_of_ble_eq_true rfl) (Nat.le_of_ble_eq_true rfl) eX5_init_150 (fun q18 H hP hD hS => ?_)
  have hP : va_P D vwCl [(h0, .inr (5, [.int 0, .ref q1, .ref q2, .ref q3, .ref q4, .int 100, .int 0, .ref q5, .int 0, .int 0, .ref q6, .ref q7, .ref q8, .int 0, .int 0, .int 0, .int 0, .int 0, .int 0, .int 0, .long 0, .ref q9, .ref q10, .ref q11, .ref q12, .ref q13, .ref q14, .int 0, .ref q15, .ref q16, .ref q17, .int 0, .null, .int 0])), (q1, .inl (cI, 8, .inl fun _ => 0)), (q2, .inl (cI, 8, .inl fun _ => 0)), (q3, .inl (cI, 8, .inl fun _ => 0)), (q4, .inl (cI, 8, .inl fun _ => 0)), (q5, .inl (cI, 40, .inl fun _ => 0)), (q6, .inl (cI, 41, .inl fun _ => 0)), (q7, .inl (cI, 41, .inl fun _ => 0)), (q8, .inl (cI, 41, .inl fun _ => 0)), (q9, .inl (cI, 8, .inl fun _ => 0)), (q10, .inl (cI, 8, .inl fun _ => 0)), (q11, .inl (cI, 8, .inl fun _ => 0)), (q12, .inl (cI, 8, .inl fun _ => 0)), (q13, .inl (cJ, 2048, .inr (.inl fun _ => 0))), (q14, .inl (cI, 8, .inl fun _ => 0)), (q15, .inl (cI, 40, .inl fun _ => 0)), (q16, .inl (cI, 8, .inl fun _ => 0)), (q17, .inl (cI, 40, .inl fun _ => 0)), (q18, .inl (cI, 40, .inl fun _ => 0))] H := hP
  have hD : va_D A [(h0, .inr (5, [.int 0, .ref q1, .ref q2, .ref q3, .ref q4, .int 100, .int 0, .ref q5, .int 0, .int 0, .ref q6, .ref q7, .ref q8, .int 0, .int 0, .int 0, .int 0, .int 0, .int 0, .int 0, .long 0, .ref q9, .ref q10, .ref q11, .ref q12, .ref q13, .ref q14, .int 0, .ref q15, .ref q16, .ref q17, .int 0, .null, .int 0])), (q1, .inl (cI, 8, .inl fun _ => 0)), (q2, .inl (cI, 8, .inl fun _ => 0)), (q3, .inl (cI, 8, .inl fun _ => 0)), (q4, .inl (cI, 8, .inl fun _ => 0)), (q5, .inl (cI, 40, .inl fun _ => 0)), (q6, .inl (cI, 41, .inl fun _ => 0)), (q7, .inl (cI, 41, .inl fun _ => 0)), (q8, .inl (cI, 41, .inl fun _ => 0)), (q9, .inl (cI, 8, .inl fun _ => 0)), (q10, .inl (cI, 8, .inl fun _ => 0)), (q11, .inl (cI, 8, .inl fun _ => 0)), (q12, .inl (cI, 8, .inl fun _ => 0)), (q13, .inl (cJ, 2048, .inr (.inl fun _ => 0))), (q14, .inl (cI, 8, .inl fun _ => 0)), (q15, .inl (cI, 40, .inl fun _ => 0)), (q16, .inl (cI, 8, .inl fun _ => 0)), (q17, .inl (cI, 40, .inl fun _ => 0)), (q18, .inl (cI, 40, .inl fun _ => 0))] := hD
  refine va_putF (D := D) (ci := 5) (v := .ref q18) (ty := .array .int) (C := RX5) (T := TX5) (N := 34) hx hb hts (wi_uX5) tyX5 tyX5_ok nmX5 hown hK hP hD hS 0 rfl rfl 32 (by decide) (hts (.fieldLink RX5 66 "ToldScenesModel" "framed" "[I") (wi 162 rfl)) (fun _ h9 => h9) rfl hin rfl (by decide +kernel) rfl rfl (Nat.le_of_ble_eq_true rfl) eX5_init_152 (fun H locs hP hD hS => ?_)
  have hP : va_P D vwCl [(h0, .inr (5, [.int 0, .ref q1, .ref q2, .ref q3, .ref q4, .int 100, .int 0, .ref q5, .int 0, .int 0, .ref q6, .ref q7, .ref q8, .int 0, .int 0, .int 0, .int 0, .int 0, .int 0, .int 0, .long 0, .ref q9, .ref q10, .ref q11, .ref q12, .ref q13, .ref q14, .int 0, .ref q15, .ref q16, .ref q17, .int 0, .ref q18, .int 0])), (q1, .inl (cI, 8, .inl fun _ => 0)), (q2, .inl (cI, 8, .inl fun _ => 0)), (q3, .inl (cI, 8, .inl fun _ => 0)), (q4, .inl (cI, 8, .inl fun _ => 0)), (q5, .inl (cI, 40, .inl fun _ => 0)), (q6, .inl (cI, 41, .inl fun _ => 0)), (q7, .inl (cI, 41, .inl fun _ => 0)), (q8, .inl (cI, 41, .inl fun _ => 0)), (q9, .inl (cI, 8, .inl fun _ => 0)), (q10, .inl (cI, 8, .inl fun _ => 0)), (q11, .inl (cI, 8, .inl fun _ => 0)), (q12, .inl (cI, 8, .inl fun _ => 0)), (q13, .inl (cJ, 2048, .inr (.inl fun _ => 0))), (q14, .inl (cI, 8, .inl fun _ => 0)), (q15, .inl (cI, 40, .inl fun _ => 0)), (q16, .inl (cI, 8, .inl fun _ => 0)), (q17, .inl (cI, 40, .inl fun _ => 0)), (q18, .inl (cI, 40, .inl fun _ => 0))] H := hP
  have hD : va_D A [(h0, .inr (5, [.int 0, .ref q1, .ref q2, .ref q3, .ref q4, .int 100, .int 0, .ref q5, .int 0, .int 0, .ref q6, .ref q7, .ref q8, .int 0, .int 0, .int 0, .int 0, .int 0, .int 0, .int 0, .long 0, .ref q9, .ref q10, .ref q11, .ref q12, .ref q13, .ref q14, .int 0, .ref q15, .ref q16, .ref q17, .int 0, .ref q18, .int 0])), (q1, .inl (cI, 8, .inl fun _ => 0)), (q2, .inl (cI, 8, .inl fun _ => 0)), (q3, .inl (cI, 8, .inl fun _ => 0)), (q4, .inl (cI, 8, .inl fun _ => 0)), (q5, .inl (cI, 40, .inl fun _ => 0)), (q6, .inl (cI, 41, .inl fun _ => 0)), (q7, .inl (cI, 41, .inl fun _ => 0)), (q8, .inl (cI, 41, .inl fun _ => 0)), (q9, .inl (cI, 8, .inl fun _ => 0)), (q10, .inl (cI, 8, .inl fun _ => 0)), (q11, .inl (cI, 8, .inl fun _ => 0)), (q12, .inl (cI, 8, .inl fun _ => 0)), (q13, .inl (cJ, 2048, .inr (.inl fun _ => 0))), (q14, .inl (cI, 8, .inl fun _ => 0)), (q15, .inl (cI, 40, .inl fun _ => 0)), (q16, .inl (cI, 8, .inl fun _ => 0)), (q17, .inl (cI, 40, .inl fun _ => 0)), (q18, .inl (cI, 40, .inl fun _ => 0))] := hD
  exact W.vret hx hb hr (fun t ht hW => ⟨⟨(), rfl, trivial, q1, q2, q3, q4, q5, q6, q7, q8, q9, q10, q11, q12, q13, q14, q15, q16, q17, q18, by rw [ht]; exact hP, va_K.moved hW.alike hK, hD⟩, hS.F ht⟩) hS.2.2 eX5_init_155
