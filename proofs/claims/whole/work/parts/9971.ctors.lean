/-! printed by a program of mine (wip/whole/src/gen997.py): the constructors' words and contracts -/
def tf_y0 : MethodName := ⟨"TurtleBack$Acts", "<init>", "()V"⟩
def tf_y1 : MethodName := ⟨"TurtleBack$Beast", "<init>", "()V"⟩
def tf_y2 : MethodName := ⟨"TurtleBack$Chart", "<init>", "()V"⟩
def tf_y3 : MethodName := ⟨"TurtleBack$Course", "<init>", "()V"⟩
def tf_y5 : MethodName := ⟨"TurtleBack$Moves", "<init>", "()V"⟩
def tf_y6 : MethodName := ⟨"TurtleBack$Reade\x72", "<init>", "()V"⟩
def tf_y9 : MethodName := ⟨"TurtleBack$Sightings", "<init>", "()V"⟩
def tf_y10 : MethodName := ⟨"TurtleBack$State", "<init>", "()V"⟩
def tf_y12 : MethodName := ⟨"TurtleBackModel", "<init>", "()V"⟩
def tf_y4 : MethodName := ⟨"TurtleBack$Life", "<init>", "()V"⟩
def tf_y11 : MethodName := ⟨"TurtleBack", "<init>", "()V"⟩
set_option maxRecDepth 100000 in
def tf_wl : List Cond := [.initialized "TurtleBack", .initialized "TurtleBack$Reade\x72", .initialized "TurtleBack$Life", .initialized "TurtleBack$State", .initialized "TurtleBack$Beast", .initialized "TurtleBack$Acts", .initialized "TurtleBack$Moves", .initialized "TurtleBack$Course", .initialized "TurtleBack$Chart", .initialized "TurtleBack$Sightings", .initialized "TurtleBackModel", .classLink "TurtleBackLaw" 8 "TurtleBack", .instantiable "TurtleBack" 14, .methodLink "TurtleBackLaw" 15 tf_y11, .instanceMethod tf_y11, .code tf_y11 prog_1_method_1_code 2 none, .methodLink "TurtleBack" 1 objectInit, .instanceMethod objectInit, .code objectInit ⟨#[0xb1]⟩ 1 none, .classLink "TurtleBack" 7 "TurtleBack$Reade\x72", .instantiable "TurtleBack$Reade\x72" 12, .instanceMethod tf_y6, .code tf_y6 prog_8_method_1_code 1 none, .methodLink "TurtleBack$Reade\x72" 3 objectInit, .fieldLink "TurtleBack$Reade\x72" 11 "TurtleBack$Reade\x72" "tape" "[B", .fieldLink "TurtleBack$Reade\x72" 17 "TurtleBack$Reade\x72" "row" "[I", .arrayClass .byte, .arrayClass .int, .classLink "TurtleBack" 16 "TurtleBack$Life", .instantiable "TurtleBack$Life" 2, .instanceMethod tf_y4, .code tf_y4 prog_6_method_1_code 1 none, .methodLink "TurtleBack$Life" 3 objectInit, .classLink "TurtleBack$Life" 9 "TurtleBack$State", .instantiable "TurtleBack$State" 17, .instanceMethod tf_y10, .code tf_y10 prog_12_method_1_code 1 none, .methodLink "TurtleBack$State" 3 objectInit, .fieldLink "TurtleBack$State" 9 "TurtleBack$State" "houseFates" "[I", .fieldLink "TurtleBack$State" 15 "TurtleBack$State" "familyFates" "[I", .fieldLink "TurtleBack$State" 18 "TurtleBack$State" "homes" "[I", .fieldLink "TurtleBack$State" 21 "TurtleBack$State" "barnacles" "[I", .fieldLink "TurtleBack$State" 24 "TurtleBack$State" "cellsBehind" "[I", .classLink "TurtleBack$Life" 18 "TurtleBack$Beast", .instantiable "TurtleBack$Beast" 5, .instanceMethod tf_y1, .code tf_y1 prog_3_method_1_code 1 none, .methodLink "TurtleBack$Beast" 3 objectInit, .fieldLink "TurtleBack$Beast" 11 "TurtleBack$Beast" "counts" "[I", .fieldLink "TurtleBack$Beast" 15 "TurtleBack$Beast" "wholes" "[I", .fieldLink "TurtleBack$Beast" 18 "TurtleBack$Beast" "names" "[J", .fieldLink "TurtleBack$Beast" 22 "TurtleBack$Beast" "nameScutes" "[I", .arrayClass .long, .fieldLink "TurtleBack$Life" 12 "TurtleBack$Life" "now" "LTurtleBack$State;", .fieldLink "TurtleBack$Life" 21 "TurtleBack$Life" "beast" "LTurtleBack$Beast;", .classLink "TurtleBack" 23 "TurtleBack$State", .classLink "TurtleBack" 29 "TurtleBack$Acts", .instantiable "TurtleBack$Acts" 5, .instanceMethod tf_y0, .code tf_y0 prog_2_method_1_code 1 none, .methodLink "TurtleBack$Acts" 1 objectInit, .fieldLink "TurtleBack$Acts" 9 "TurtleBack$Acts" "kinds" "[I", .fieldLink "TurtleBack$Acts" 13 "TurtleBack$Acts" "things" "[I", .fieldLink "TurtleBack$Acts" 16 "TurtleBack$Acts" "before" "[I", .classLink "TurtleBack" 36 "TurtleBack$Moves", .instantiable "TurtleBack$Moves" 13, .instanceMethod tf_y5, .code tf_y5 prog_7_method_1_code 1 none, .methodLink "TurtleBack$Moves" 3 objectInit, .fieldLink "TurtleBack$Moves" 11 "TurtleBack$Moves" "homes" "[I", .fieldLink "TurtleBack$Moves" 15 "TurtleBack$Moves" "owns" "[I", .fieldLink "TurtleBack$Moves" 18 "TurtleBack$Moves" "weights" "[I", .fieldLink "TurtleBack$Moves" 21 "TurtleBack$Moves" "best" "[I", .fieldLink "TurtleBack$Moves" 24 "TurtleBack$Moves" "loads" "[I", .fieldLink "TurtleBack$Moves" 27 "TurtleBack$Moves" "holds" "[I", .fieldLink "TurtleBack$Moves" 30 "TurtleBack$Moves" "across" "[I", .fieldLink "TurtleBack$Moves" 33 "TurtleBack$Moves" "along" "[I", .fieldLink "TurtleBack$Moves" 36 "TurtleBack$Moves" "costs" "[I", .fieldLink "TurtleBack$Moves" 39 "TurtleBack$Moves" "nextFree" "[I", .classLink "TurtleBack" 43 "TurtleBack$Course", .instantiable "TurtleBack$Course" 6, .instanceMethod tf_y3, .code tf_y3 prog_5_method_1_code 1 none, .methodLink "TurtleBack$Course" 3 objectInit, .fieldLink "TurtleBack$Course" 11 "TurtleBack$Course" "from" "[I", .fieldLink "TurtleBack$Course" 17 "TurtleBack$Course" "turnTo" "[I", .fieldLink "TurtleBack$Course" 20 "TurtleBack$Course" "steps" "[I", .fieldLink "TurtleBack$Course" 23 "TurtleBack$Course" "queue" "[I", .fieldLink "TurtleBack$Course" 26 "TurtleBack$Course" "turns" "[I", .classLink "TurtleBack" 50 "TurtleBack$Chart", .instantiable "TurtleBack$Chart" 3, .instanceMethod tf_y2, .code tf_y2 prog_4_method_1_code 1 none, .methodLink "TurtleBack$Chart" 3 objectInit, .fieldLink "TurtleBack$Chart" 13 "TurtleBack$Chart" "ways" "[I", .fieldLink "TurtleBack$Chart" 17 "TurtleBack$Chart" "furthe\x72" "[I", .fieldLink "TurtleBack$Chart" 20 "TurtleBack$Chart" "cells" "[I", .classLink "TurtleBack" 57 "TurtleBack$Sightings", .instantiable "TurtleBack$Sightings" 6, .instanceMethod tf_y9, .code tf_y9 prog_11_method_1_code 1 none, .methodLink "TurtleBack$Sightings" 1 objectInit, .fieldLink "TurtleBack$Sightings" 9 "TurtleBack$Sightings" "days" "[I", .fieldLink "TurtleBack$Sightings" 13 "TurtleBack$Sightings" "cells" "[I", .fieldLink "TurtleBack$Sightings" 18 "TurtleBack$Sightings" "open" "[I", .fieldLink "TurtleBack$Sightings" 21 "TurtleBack$Sightings" "reached" "[I", .fieldLink "TurtleBack$Sightings" 24 "TurtleBack$Sightings" "furthe\x72" "[I", .classLink "TurtleBack" 64 "TurtleBack$Beast", .fieldLink "TurtleBack" 10 "TurtleBack" "reade\x72" "LTurtleBack$Reader;", .fieldLink "TurtleBack" 19 "TurtleBack" "life" "LTurtleBack$Life;", .fieldLink "TurtleBack" 25 "TurtleBack" "images" "[LTurtleBack$State;", .fieldLink "TurtleBack" 32 "TurtleBack" "acts" "LTurtleBack$Acts;", .fieldLink "TurtleBack" 39 "TurtleBack" "moves" "LTurtleBack$Moves;", .fieldLink "TurtleBack" 46 "TurtleBack" "course" "LTurtleBack$Course;", .fieldLink "TurtleBack" 53 "TurtleBack" "chart" "LTurtleBack$Chart;", .fieldLink "TurtleBack" 60 "TurtleBack" "sightings" "LTurtleBack$Sightings;", .fieldLink "TurtleBack" 67 "TurtleBack" "draft" "LTurtleBack$Beast;", .fieldLink "TurtleBack" 71 "TurtleBack" "latestPlace" "I", .classLink "TurtleBackLaw" 16 "TurtleBackModel", .instantiable "TurtleBackModel" 42, .methodLink "TurtleBackLaw" 18 tf_y12, .instanceMethod tf_y12, .code tf_y12 prog_14_method_1_code 1 none, .methodLink "TurtleBackModel" 1 objectInit, .fieldLink "TurtleBackModel" 7 "TurtleBackModel" "tape" "[I", .fieldLink "TurtleBackModel" 13 "TurtleBackModel" "place" "I", .fieldLink "TurtleBackModel" 17 "TurtleBackModel" "letters" "[I", .fieldLink "TurtleBackModel" 20 "TurtleBackModel" "\x72" "[I", .fieldLink "TurtleBackModel" 23 "TurtleBackModel" "fresh" "[I", .fieldLink "TurtleBackModel" 26 "TurtleBackModel" "st" "[I", .fieldLink "TurtleBackModel" 29 "TurtleBackModel" "kept" "[I", .fieldLink "TurtleBackModel" 32 "TurtleBackModel" "actKind" "[I", .fieldLink "TurtleBackModel" 35 "TurtleBackModel" "actOf" "[I", .fieldLink "TurtleBackModel" 38 "TurtleBackModel" "actWas" "[I", .fieldLink "TurtleBackModel" 41 "TurtleBackModel" "sightDay" "[I", .fieldLink "TurtleBackModel" 44 "TurtleBackModel" "sightX" "[I", .fieldLink "TurtleBackModel" 47 "TurtleBackModel" "sightY" "[I", .fieldLink "TurtleBackModel" 50 "TurtleBackModel" "tried" "[I", .fieldLink "TurtleBackModel" 53 "TurtleBackModel" "bestAt" "[I", .fieldLink "TurtleBackModel" 56 "TurtleBackModel" "dist" "[I", .fieldLink "TurtleBackModel" 59 "TurtleBackModel" "queue" "[I", .fieldLink "TurtleBackModel" 62 "TurtleBackModel" "turns" "[I", .fieldLink "TurtleBackModel" 65 "TurtleBackModel" "onWay" "[Z", .fieldLink "TurtleBackModel" 69 "TurtleBackModel" "chart" "[J", .fieldLink "TurtleBackModel" 73 "TurtleBackModel" "furthe\x72" "[J", .fieldLink "TurtleBackModel" 76 "TurtleBackModel" "cells" "[Z", .fieldLink "TurtleBackModel" 79 "TurtleBackModel" "fitsOn" "[Z", .fieldLink "TurtleBackModel" 82 "TurtleBackModel" "fitsSo" "[Z", .arrayClass .boolean]
set_option maxRecDepth 100000 in
theorem tf_wl_in : tb_subg tf_wl = true := by decide +kernel
theorem tf_w141 : Cond.initialized "TurtleBack" ∈ tb_gt := tb_subg_in tf_wl_in _ (List.mem_of_getElem? (i := 0) rfl)
theorem tf_w92 : Cond.initialized "TurtleBack$Reade\x72" ∈ tb_gt := tb_subg_in tf_wl_in _ (List.mem_of_getElem? (i := 1) rfl)
theorem tf_w98 : Cond.initialized "TurtleBack$Life" ∈ tb_gt := tb_subg_in tf_wl_in _ (List.mem_of_getElem? (i := 2) rfl)
theorem tf_w79 : Cond.initialized "TurtleBack$State" ∈ tb_gt := tb_subg_in tf_wl_in _ (List.mem_of_getElem? (i := 3) rfl)
theorem tf_w85 : Cond.initialized "TurtleBack$Beast" ∈ tb_gt := tb_subg_in tf_wl_in _ (List.mem_of_getElem? (i := 4) rfl)
theorem tf_w106 : Cond.initialized "TurtleBack$Acts" ∈ tb_gt := tb_subg_in tf_wl_in _ (List.mem_of_getElem? (i := 5) rfl)
theorem tf_w112 : Cond.initialized "TurtleBack$Moves" ∈ tb_gt := tb_subg_in tf_wl_in _ (List.mem_of_getElem? (i := 6) rfl)
theorem tf_w118 : Cond.initialized "TurtleBack$Course" ∈ tb_gt := tb_subg_in tf_wl_in _ (List.mem_of_getElem? (i := 7) rfl)
theorem tf_w124 : Cond.initialized "TurtleBack$Chart" ∈ tb_gt := tb_subg_in tf_wl_in _ (List.mem_of_getElem? (i := 8) rfl)
theorem tf_w130 : Cond.initialized "TurtleBack$Sightings" ∈ tb_gt := tb_subg_in tf_wl_in _ (List.mem_of_getElem? (i := 9) rfl)
theorem tf_w142 : Cond.initialized "TurtleBackModel" ∈ tb_gt := tb_subg_in tf_wl_in _ (List.mem_of_getElem? (i := 10) rfl)
theorem tf_w137 : Cond.classLink "TurtleBackLaw" 8 "TurtleBack" ∈ tb_gt := tb_subg_in tf_wl_in _ (List.mem_of_getElem? (i := 11) rfl)
theorem tf_w139 : Cond.instantiable "TurtleBack" 14 ∈ tb_gt := tb_subg_in tf_wl_in _ (List.mem_of_getElem? (i := 12) rfl)
theorem tf_w147 : Cond.methodLink "TurtleBackLaw" 15 tf_y11 ∈ tb_gt := tb_subg_in tf_wl_in _ (List.mem_of_getElem? (i := 13) rfl)
theorem tf_w143 : Cond.instanceMethod tf_y11 ∈ tb_gt := tb_subg_in tf_wl_in _ (List.mem_of_getElem? (i := 14) rfl)
theorem tf_w145 : Cond.code tf_y11 prog_1_method_1_code 2 none ∈ tb_gt := tb_subg_in tf_wl_in _ (List.mem_of_getElem? (i := 15) rfl)
theorem tf_w89 : Cond.methodLink "TurtleBack" 1 objectInit ∈ tb_gt := tb_subg_in tf_wl_in _ (List.mem_of_getElem? (i := 16) rfl)
theorem tf_w1 : Cond.instanceMethod objectInit ∈ tb_gt := tb_subg_in tf_wl_in _ (List.mem_of_getElem? (i := 17) rfl)
theorem tf_w2 : Cond.code objectInit ⟨#[0xb1]⟩ 1 none ∈ tb_gt := tb_subg_in tf_wl_in _ (List.mem_of_getElem? (i := 18) rfl)
theorem tf_w90 : Cond.classLink "TurtleBack" 7 "TurtleBack$Reade\x72" ∈ tb_gt := tb_subg_in tf_wl_in _ (List.mem_of_getElem? (i := 19) rfl)
theorem tf_w91 : Cond.instantiable "TurtleBack$Reade\x72" 12 ∈ tb_gt := tb_subg_in tf_wl_in _ (List.mem_of_getElem? (i := 20) rfl)
theorem tf_w93 : Cond.instanceMethod tf_y6 ∈ tb_gt := tb_subg_in tf_wl_in _ (List.mem_of_getElem? (i := 21) rfl)
theorem tf_w94 : Cond.code tf_y6 prog_8_method_1_code 1 none ∈ tb_gt := tb_subg_in tf_wl_in _ (List.mem_of_getElem? (i := 22) rfl)
theorem tf_w34 : Cond.methodLink "TurtleBack$Reade\x72" 3 objectInit ∈ tb_gt := tb_subg_in tf_wl_in _ (List.mem_of_getElem? (i := 23) rfl)
theorem tf_w36 : Cond.fieldLink "TurtleBack$Reade\x72" 11 "TurtleBack$Reade\x72" "tape" "[B" ∈ tb_gt := tb_subg_in tf_wl_in _ (List.mem_of_getElem? (i := 24) rfl)
theorem tf_w37 : Cond.fieldLink "TurtleBack$Reade\x72" 17 "TurtleBack$Reade\x72" "row" "[I" ∈ tb_gt := tb_subg_in tf_wl_in _ (List.mem_of_getElem? (i := 25) rfl)
theorem tf_w35 : Cond.arrayClass .byte ∈ tb_gt := tb_subg_in tf_wl_in _ (List.mem_of_getElem? (i := 26) rfl)
theorem tf_w3 : Cond.arrayClass .int ∈ tb_gt := tb_subg_in tf_wl_in _ (List.mem_of_getElem? (i := 27) rfl)
theorem tf_w96 : Cond.classLink "TurtleBack" 16 "TurtleBack$Life" ∈ tb_gt := tb_subg_in tf_wl_in _ (List.mem_of_getElem? (i := 28) rfl)
theorem tf_w97 : Cond.instantiable "TurtleBack$Life" 2 ∈ tb_gt := tb_subg_in tf_wl_in _ (List.mem_of_getElem? (i := 29) rfl)
theorem tf_w99 : Cond.instanceMethod tf_y4 ∈ tb_gt := tb_subg_in tf_wl_in _ (List.mem_of_getElem? (i := 30) rfl)
theorem tf_w100 : Cond.code tf_y4 prog_6_method_1_code 1 none ∈ tb_gt := tb_subg_in tf_wl_in _ (List.mem_of_getElem? (i := 31) rfl)
theorem tf_w76 : Cond.methodLink "TurtleBack$Life" 3 objectInit ∈ tb_gt := tb_subg_in tf_wl_in _ (List.mem_of_getElem? (i := 32) rfl)
theorem tf_w77 : Cond.classLink "TurtleBack$Life" 9 "TurtleBack$State" ∈ tb_gt := tb_subg_in tf_wl_in _ (List.mem_of_getElem? (i := 33) rfl)
theorem tf_w78 : Cond.instantiable "TurtleBack$State" 17 ∈ tb_gt := tb_subg_in tf_wl_in _ (List.mem_of_getElem? (i := 34) rfl)
theorem tf_w80 : Cond.instanceMethod tf_y10 ∈ tb_gt := tb_subg_in tf_wl_in _ (List.mem_of_getElem? (i := 35) rfl)
theorem tf_w81 : Cond.code tf_y10 prog_12_method_1_code 1 none ∈ tb_gt := tb_subg_in tf_wl_in _ (List.mem_of_getElem? (i := 36) rfl)
theorem tf_w44 : Cond.methodLink "TurtleBack$State" 3 objectInit ∈ tb_gt := tb_subg_in tf_wl_in _ (List.mem_of_getElem? (i := 37) rfl)
theorem tf_w45 : Cond.fieldLink "TurtleBack$State" 9 "TurtleBack$State" "houseFates" "[I" ∈ tb_gt := tb_subg_in tf_wl_in _ (List.mem_of_getElem? (i := 38) rfl)
theorem tf_w46 : Cond.fieldLink "TurtleBack$State" 15 "TurtleBack$State" "familyFates" "[I" ∈ tb_gt := tb_subg_in tf_wl_in _ (List.mem_of_getElem? (i := 39) rfl)
theorem tf_w47 : Cond.fieldLink "TurtleBack$State" 18 "TurtleBack$State" "homes" "[I" ∈ tb_gt := tb_subg_in tf_wl_in _ (List.mem_of_getElem? (i := 40) rfl)
theorem tf_w48 : Cond.fieldLink "TurtleBack$State" 21 "TurtleBack$State" "barnacles" "[I" ∈ tb_gt := tb_subg_in tf_wl_in _ (List.mem_of_getElem? (i := 41) rfl)
theorem tf_w49 : Cond.fieldLink "TurtleBack$State" 24 "TurtleBack$State" "cellsBehind" "[I" ∈ tb_gt := tb_subg_in tf_wl_in _ (List.mem_of_getElem? (i := 42) rfl)
theorem tf_w83 : Cond.classLink "TurtleBack$Life" 18 "TurtleBack$Beast" ∈ tb_gt := tb_subg_in tf_wl_in _ (List.mem_of_getElem? (i := 43) rfl)
theorem tf_w84 : Cond.instantiable "TurtleBack$Beast" 5 ∈ tb_gt := tb_subg_in tf_wl_in _ (List.mem_of_getElem? (i := 44) rfl)
theorem tf_w86 : Cond.instanceMethod tf_y1 ∈ tb_gt := tb_subg_in tf_wl_in _ (List.mem_of_getElem? (i := 45) rfl)
theorem tf_w87 : Cond.code tf_y1 prog_3_method_1_code 1 none ∈ tb_gt := tb_subg_in tf_wl_in _ (List.mem_of_getElem? (i := 46) rfl)
theorem tf_w7 : Cond.methodLink "TurtleBack$Beast" 3 objectInit ∈ tb_gt := tb_subg_in tf_wl_in _ (List.mem_of_getElem? (i := 47) rfl)
theorem tf_w8 : Cond.fieldLink "TurtleBack$Beast" 11 "TurtleBack$Beast" "counts" "[I" ∈ tb_gt := tb_subg_in tf_wl_in _ (List.mem_of_getElem? (i := 48) rfl)
theorem tf_w9 : Cond.fieldLink "TurtleBack$Beast" 15 "TurtleBack$Beast" "wholes" "[I" ∈ tb_gt := tb_subg_in tf_wl_in _ (List.mem_of_getElem? (i := 49) rfl)
theorem tf_w11 : Cond.fieldLink "TurtleBack$Beast" 18 "TurtleBack$Beast" "names" "[J" ∈ tb_gt := tb_subg_in tf_wl_in _ (List.mem_of_getElem? (i := 50) rfl)
theorem tf_w12 : Cond.fieldLink "TurtleBack$Beast" 22 "TurtleBack$Beast" "nameScutes" "[I" ∈ tb_gt := tb_subg_in tf_wl_in _ (List.mem_of_getElem? (i := 51) rfl)
theorem tf_w10 : Cond.arrayClass .long ∈ tb_gt := tb_subg_in tf_wl_in _ (List.mem_of_getElem? (i := 52) rfl)
theorem tf_w82 : Cond.fieldLink "TurtleBack$Life" 12 "TurtleBack$Life" "now" "LTurtleBack$State;" ∈ tb_gt := tb_subg_in tf_wl_in _ (List.mem_of_getElem? (i := 53) rfl)
theorem tf_w88 : Cond.fieldLink "TurtleBack$Life" 21 "TurtleBack$Life" "beast" "LTurtleBack$Beast;" ∈ tb_gt := tb_subg_in tf_wl_in _ (List.mem_of_getElem? (i := 54) rfl)
theorem tf_w102 : Cond.classLink "TurtleBack" 23 "TurtleBack$State" ∈ tb_gt := tb_subg_in tf_wl_in _ (List.mem_of_getElem? (i := 55) rfl)
theorem tf_w104 : Cond.classLink "TurtleBack" 29 "TurtleBack$Acts" ∈ tb_gt := tb_subg_in tf_wl_in _ (List.mem_of_getElem? (i := 56) rfl)
theorem tf_w105 : Cond.instantiable "TurtleBack$Acts" 5 ∈ tb_gt := tb_subg_in tf_wl_in _ (List.mem_of_getElem? (i := 57) rfl)
theorem tf_w107 : Cond.instanceMethod tf_y0 ∈ tb_gt := tb_subg_in tf_wl_in _ (List.mem_of_getElem? (i := 58) rfl)
theorem tf_w108 : Cond.code tf_y0 prog_2_method_1_code 1 none ∈ tb_gt := tb_subg_in tf_wl_in _ (List.mem_of_getElem? (i := 59) rfl)
theorem tf_w0 : Cond.methodLink "TurtleBack$Acts" 1 objectInit ∈ tb_gt := tb_subg_in tf_wl_in _ (List.mem_of_getElem? (i := 60) rfl)
theorem tf_w4 : Cond.fieldLink "TurtleBack$Acts" 9 "TurtleBack$Acts" "kinds" "[I" ∈ tb_gt := tb_subg_in tf_wl_in _ (List.mem_of_getElem? (i := 61) rfl)
theorem tf_w5 : Cond.fieldLink "TurtleBack$Acts" 13 "TurtleBack$Acts" "things" "[I" ∈ tb_gt := tb_subg_in tf_wl_in _ (List.mem_of_getElem? (i := 62) rfl)
theorem tf_w6 : Cond.fieldLink "TurtleBack$Acts" 16 "TurtleBack$Acts" "before" "[I" ∈ tb_gt := tb_subg_in tf_wl_in _ (List.mem_of_getElem? (i := 63) rfl)
theorem tf_w110 : Cond.classLink "TurtleBack" 36 "TurtleBack$Moves" ∈ tb_gt := tb_subg_in tf_wl_in _ (List.mem_of_getElem? (i := 64) rfl)
theorem tf_w111 : Cond.instantiable "TurtleBack$Moves" 13 ∈ tb_gt := tb_subg_in tf_wl_in _ (List.mem_of_getElem? (i := 65) rfl)
theorem tf_w113 : Cond.instanceMethod tf_y5 ∈ tb_gt := tb_subg_in tf_wl_in _ (List.mem_of_getElem? (i := 66) rfl)
theorem tf_w114 : Cond.code tf_y5 prog_7_method_1_code 1 none ∈ tb_gt := tb_subg_in tf_wl_in _ (List.mem_of_getElem? (i := 67) rfl)
theorem tf_w23 : Cond.methodLink "TurtleBack$Moves" 3 objectInit ∈ tb_gt := tb_subg_in tf_wl_in _ (List.mem_of_getElem? (i := 68) rfl)
theorem tf_w24 : Cond.fieldLink "TurtleBack$Moves" 11 "TurtleBack$Moves" "homes" "[I" ∈ tb_gt := tb_subg_in tf_wl_in _ (List.mem_of_getElem? (i := 69) rfl)
theorem tf_w25 : Cond.fieldLink "TurtleBack$Moves" 15 "TurtleBack$Moves" "owns" "[I" ∈ tb_gt := tb_subg_in tf_wl_in _ (List.mem_of_getElem? (i := 70) rfl)
theorem tf_w26 : Cond.fieldLink "TurtleBack$Moves" 18 "TurtleBack$Moves" "weights" "[I" ∈ tb_gt := tb_subg_in tf_wl_in _ (List.mem_of_getElem? (i := 71) rfl)
theorem tf_w27 : Cond.fieldLink "TurtleBack$Moves" 21 "TurtleBack$Moves" "best" "[I" ∈ tb_gt := tb_subg_in tf_wl_in _ (List.mem_of_getElem? (i := 72) rfl)
theorem tf_w28 : Cond.fieldLink "TurtleBack$Moves" 24 "TurtleBack$Moves" "loads" "[I" ∈ tb_gt := tb_subg_in tf_wl_in _ (List.mem_of_getElem? (i := 73) rfl)
theorem tf_w29 : Cond.fieldLink "TurtleBack$Moves" 27 "TurtleBack$Moves" "holds" "[I" ∈ tb_gt := tb_subg_in tf_wl_in _ (List.mem_of_getElem? (i := 74) rfl)
theorem tf_w30 : Cond.fieldLink "TurtleBack$Moves" 30 "TurtleBack$Moves" "across" "[I" ∈ tb_gt := tb_subg_in tf_wl_in _ (List.mem_of_getElem? (i := 75) rfl)
theorem tf_w31 : Cond.fieldLink "TurtleBack$Moves" 33 "TurtleBack$Moves" "along" "[I" ∈ tb_gt := tb_subg_in tf_wl_in _ (List.mem_of_getElem? (i := 76) rfl)
theorem tf_w32 : Cond.fieldLink "TurtleBack$Moves" 36 "TurtleBack$Moves" "costs" "[I" ∈ tb_gt := tb_subg_in tf_wl_in _ (List.mem_of_getElem? (i := 77) rfl)
theorem tf_w33 : Cond.fieldLink "TurtleBack$Moves" 39 "TurtleBack$Moves" "nextFree" "[I" ∈ tb_gt := tb_subg_in tf_wl_in _ (List.mem_of_getElem? (i := 78) rfl)
theorem tf_w116 : Cond.classLink "TurtleBack" 43 "TurtleBack$Course" ∈ tb_gt := tb_subg_in tf_wl_in _ (List.mem_of_getElem? (i := 79) rfl)
theorem tf_w117 : Cond.instantiable "TurtleBack$Course" 6 ∈ tb_gt := tb_subg_in tf_wl_in _ (List.mem_of_getElem? (i := 80) rfl)
theorem tf_w119 : Cond.instanceMethod tf_y3 ∈ tb_gt := tb_subg_in tf_wl_in _ (List.mem_of_getElem? (i := 81) rfl)
theorem tf_w120 : Cond.code tf_y3 prog_5_method_1_code 1 none ∈ tb_gt := tb_subg_in tf_wl_in _ (List.mem_of_getElem? (i := 82) rfl)
theorem tf_w17 : Cond.methodLink "TurtleBack$Course" 3 objectInit ∈ tb_gt := tb_subg_in tf_wl_in _ (List.mem_of_getElem? (i := 83) rfl)
theorem tf_w18 : Cond.fieldLink "TurtleBack$Course" 11 "TurtleBack$Course" "from" "[I" ∈ tb_gt := tb_subg_in tf_wl_in _ (List.mem_of_getElem? (i := 84) rfl)
theorem tf_w19 : Cond.fieldLink "TurtleBack$Course" 17 "TurtleBack$Course" "turnTo" "[I" ∈ tb_gt := tb_subg_in tf_wl_in _ (List.mem_of_getElem? (i := 85) rfl)
theorem tf_w20 : Cond.fieldLink "TurtleBack$Course" 20 "TurtleBack$Course" "steps" "[I" ∈ tb_gt := tb_subg_in tf_wl_in _ (List.mem_of_getElem? (i := 86) rfl)
theorem tf_w21 : Cond.fieldLink "TurtleBack$Course" 23 "TurtleBack$Course" "queue" "[I" ∈ tb_gt := tb_subg_in tf_wl_in _ (List.mem_of_getElem? (i := 87) rfl)
theorem tf_w22 : Cond.fieldLink "TurtleBack$Course" 26 "TurtleBack$Course" "turns" "[I" ∈ tb_gt := tb_subg_in tf_wl_in _ (List.mem_of_getElem? (i := 88) rfl)
theorem tf_w122 : Cond.classLink "TurtleBack" 50 "TurtleBack$Chart" ∈ tb_gt := tb_subg_in tf_wl_in _ (List.mem_of_getElem? (i := 89) rfl)
theorem tf_w123 : Cond.instantiable "TurtleBack$Chart" 3 ∈ tb_gt := tb_subg_in tf_wl_in _ (List.mem_of_getElem? (i := 90) rfl)
theorem tf_w125 : Cond.instanceMethod tf_y2 ∈ tb_gt := tb_subg_in tf_wl_in _ (List.mem_of_getElem? (i := 91) rfl)
theorem tf_w126 : Cond.code tf_y2 prog_4_method_1_code 1 none ∈ tb_gt := tb_subg_in tf_wl_in _ (List.mem_of_getElem? (i := 92) rfl)
theorem tf_w13 : Cond.methodLink "TurtleBack$Chart" 3 objectInit ∈ tb_gt := tb_subg_in tf_wl_in _ (List.mem_of_getElem? (i := 93) rfl)
theorem tf_w14 : Cond.fieldLink "TurtleBack$Chart" 13 "TurtleBack$Chart" "ways" "[I" ∈ tb_gt := tb_subg_in tf_wl_in _ (List.mem_of_getElem? (i := 94) rfl)
theorem tf_w15 : Cond.fieldLink "TurtleBack$Chart" 17 "TurtleBack$Chart" "furthe\x72" "[I" ∈ tb_gt := tb_subg_in tf_wl_in _ (List.mem_of_getElem? (i := 95) rfl)
theorem tf_w16 : Cond.fieldLink "TurtleBack$Chart" 20 "TurtleBack$Chart" "cells" "[I" ∈ tb_gt := tb_subg_in tf_wl_in _ (List.mem_of_getElem? (i := 96) rfl)
theorem tf_w128 : Cond.classLink "TurtleBack" 57 "TurtleBack$Sightings" ∈ tb_gt := tb_subg_in tf_wl_in _ (List.mem_of_getElem? (i := 97) rfl)
theorem tf_w129 : Cond.instantiable "TurtleBack$Sightings" 6 ∈ tb_gt := tb_subg_in tf_wl_in _ (List.mem_of_getElem? (i := 98) rfl)
theorem tf_w131 : Cond.instanceMethod tf_y9 ∈ tb_gt := tb_subg_in tf_wl_in _ (List.mem_of_getElem? (i := 99) rfl)
theorem tf_w132 : Cond.code tf_y9 prog_11_method_1_code 1 none ∈ tb_gt := tb_subg_in tf_wl_in _ (List.mem_of_getElem? (i := 100) rfl)
theorem tf_w38 : Cond.methodLink "TurtleBack$Sightings" 1 objectInit ∈ tb_gt := tb_subg_in tf_wl_in _ (List.mem_of_getElem? (i := 101) rfl)
theorem tf_w39 : Cond.fieldLink "TurtleBack$Sightings" 9 "TurtleBack$Sightings" "days" "[I" ∈ tb_gt := tb_subg_in tf_wl_in _ (List.mem_of_getElem? (i := 102) rfl)
theorem tf_w40 : Cond.fieldLink "TurtleBack$Sightings" 13 "TurtleBack$Sightings" "cells" "[I" ∈ tb_gt := tb_subg_in tf_wl_in _ (List.mem_of_getElem? (i := 103) rfl)
theorem tf_w41 : Cond.fieldLink "TurtleBack$Sightings" 18 "TurtleBack$Sightings" "open" "[I" ∈ tb_gt := tb_subg_in tf_wl_in _ (List.mem_of_getElem? (i := 104) rfl)
theorem tf_w42 : Cond.fieldLink "TurtleBack$Sightings" 21 "TurtleBack$Sightings" "reached" "[I" ∈ tb_gt := tb_subg_in tf_wl_in _ (List.mem_of_getElem? (i := 105) rfl)
theorem tf_w43 : Cond.fieldLink "TurtleBack$Sightings" 24 "TurtleBack$Sightings" "furthe\x72" "[I" ∈ tb_gt := tb_subg_in tf_wl_in _ (List.mem_of_getElem? (i := 106) rfl)
theorem tf_w134 : Cond.classLink "TurtleBack" 64 "TurtleBack$Beast" ∈ tb_gt := tb_subg_in tf_wl_in _ (List.mem_of_getElem? (i := 107) rfl)
theorem tf_w95 : Cond.fieldLink "TurtleBack" 10 "TurtleBack" "reade\x72" "LTurtleBack$Reader;" ∈ tb_gt := tb_subg_in tf_wl_in _ (List.mem_of_getElem? (i := 108) rfl)
theorem tf_w101 : Cond.fieldLink "TurtleBack" 19 "TurtleBack" "life" "LTurtleBack$Life;" ∈ tb_gt := tb_subg_in tf_wl_in _ (List.mem_of_getElem? (i := 109) rfl)
theorem tf_w103 : Cond.fieldLink "TurtleBack" 25 "TurtleBack" "images" "[LTurtleBack$State;" ∈ tb_gt := tb_subg_in tf_wl_in _ (List.mem_of_getElem? (i := 110) rfl)
theorem tf_w109 : Cond.fieldLink "TurtleBack" 32 "TurtleBack" "acts" "LTurtleBack$Acts;" ∈ tb_gt := tb_subg_in tf_wl_in _ (List.mem_of_getElem? (i := 111) rfl)
theorem tf_w115 : Cond.fieldLink "TurtleBack" 39 "TurtleBack" "moves" "LTurtleBack$Moves;" ∈ tb_gt := tb_subg_in tf_wl_in _ (List.mem_of_getElem? (i := 112) rfl)
theorem tf_w121 : Cond.fieldLink "TurtleBack" 46 "TurtleBack" "course" "LTurtleBack$Course;" ∈ tb_gt := tb_subg_in tf_wl_in _ (List.mem_of_getElem? (i := 113) rfl)
theorem tf_w127 : Cond.fieldLink "TurtleBack" 53 "TurtleBack" "chart" "LTurtleBack$Chart;" ∈ tb_gt := tb_subg_in tf_wl_in _ (List.mem_of_getElem? (i := 114) rfl)
theorem tf_w133 : Cond.fieldLink "TurtleBack" 60 "TurtleBack" "sightings" "LTurtleBack$Sightings;" ∈ tb_gt := tb_subg_in tf_wl_in _ (List.mem_of_getElem? (i := 115) rfl)
theorem tf_w135 : Cond.fieldLink "TurtleBack" 67 "TurtleBack" "draft" "LTurtleBack$Beast;" ∈ tb_gt := tb_subg_in tf_wl_in _ (List.mem_of_getElem? (i := 116) rfl)
theorem tf_w136 : Cond.fieldLink "TurtleBack" 71 "TurtleBack" "latestPlace" "I" ∈ tb_gt := tb_subg_in tf_wl_in _ (List.mem_of_getElem? (i := 117) rfl)
theorem tf_w138 : Cond.classLink "TurtleBackLaw" 16 "TurtleBackModel" ∈ tb_gt := tb_subg_in tf_wl_in _ (List.mem_of_getElem? (i := 118) rfl)
theorem tf_w140 : Cond.instantiable "TurtleBackModel" 42 ∈ tb_gt := tb_subg_in tf_wl_in _ (List.mem_of_getElem? (i := 119) rfl)
theorem tf_w148 : Cond.methodLink "TurtleBackLaw" 18 tf_y12 ∈ tb_gt := tb_subg_in tf_wl_in _ (List.mem_of_getElem? (i := 120) rfl)
theorem tf_w144 : Cond.instanceMethod tf_y12 ∈ tb_gt := tb_subg_in tf_wl_in _ (List.mem_of_getElem? (i := 121) rfl)
theorem tf_w146 : Cond.code tf_y12 prog_14_method_1_code 1 none ∈ tb_gt := tb_subg_in tf_wl_in _ (List.mem_of_getElem? (i := 122) rfl)
theorem tf_w50 : Cond.methodLink "TurtleBackModel" 1 objectInit ∈ tb_gt := tb_subg_in tf_wl_in _ (List.mem_of_getElem? (i := 123) rfl)
theorem tf_w51 : Cond.fieldLink "TurtleBackModel" 7 "TurtleBackModel" "tape" "[I" ∈ tb_gt := tb_subg_in tf_wl_in _ (List.mem_of_getElem? (i := 124) rfl)
theorem tf_w52 : Cond.fieldLink "TurtleBackModel" 13 "TurtleBackModel" "place" "I" ∈ tb_gt := tb_subg_in tf_wl_in _ (List.mem_of_getElem? (i := 125) rfl)
theorem tf_w53 : Cond.fieldLink "TurtleBackModel" 17 "TurtleBackModel" "letters" "[I" ∈ tb_gt := tb_subg_in tf_wl_in _ (List.mem_of_getElem? (i := 126) rfl)
theorem tf_w54 : Cond.fieldLink "TurtleBackModel" 20 "TurtleBackModel" "\x72" "[I" ∈ tb_gt := tb_subg_in tf_wl_in _ (List.mem_of_getElem? (i := 127) rfl)
theorem tf_w55 : Cond.fieldLink "TurtleBackModel" 23 "TurtleBackModel" "fresh" "[I" ∈ tb_gt := tb_subg_in tf_wl_in _ (List.mem_of_getElem? (i := 128) rfl)
theorem tf_w56 : Cond.fieldLink "TurtleBackModel" 26 "TurtleBackModel" "st" "[I" ∈ tb_gt := tb_subg_in tf_wl_in _ (List.mem_of_getElem? (i := 129) rfl)
theorem tf_w57 : Cond.fieldLink "TurtleBackModel" 29 "TurtleBackModel" "kept" "[I" ∈ tb_gt := tb_subg_in tf_wl_in _ (List.mem_of_getElem? (i := 130) rfl)
theorem tf_w58 : Cond.fieldLink "TurtleBackModel" 32 "TurtleBackModel" "actKind" "[I" ∈ tb_gt := tb_subg_in tf_wl_in _ (List.mem_of_getElem? (i := 131) rfl)
theorem tf_w59 : Cond.fieldLink "TurtleBackModel" 35 "TurtleBackModel" "actOf" "[I" ∈ tb_gt := tb_subg_in tf_wl_in _ (List.mem_of_getElem? (i := 132) rfl)
theorem tf_w60 : Cond.fieldLink "TurtleBackModel" 38 "TurtleBackModel" "actWas" "[I" ∈ tb_gt := tb_subg_in tf_wl_in _ (List.mem_of_getElem? (i := 133) rfl)
theorem tf_w61 : Cond.fieldLink "TurtleBackModel" 41 "TurtleBackModel" "sightDay" "[I" ∈ tb_gt := tb_subg_in tf_wl_in _ (List.mem_of_getElem? (i := 134) rfl)
theorem tf_w62 : Cond.fieldLink "TurtleBackModel" 44 "TurtleBackModel" "sightX" "[I" ∈ tb_gt := tb_subg_in tf_wl_in _ (List.mem_of_getElem? (i := 135) rfl)
theorem tf_w63 : Cond.fieldLink "TurtleBackModel" 47 "TurtleBackModel" "sightY" "[I" ∈ tb_gt := tb_subg_in tf_wl_in _ (List.mem_of_getElem? (i := 136) rfl)
theorem tf_w64 : Cond.fieldLink "TurtleBackModel" 50 "TurtleBackModel" "tried" "[I" ∈ tb_gt := tb_subg_in tf_wl_in _ (List.mem_of_getElem? (i := 137) rfl)
theorem tf_w65 : Cond.fieldLink "TurtleBackModel" 53 "TurtleBackModel" "bestAt" "[I" ∈ tb_gt := tb_subg_in tf_wl_in _ (List.mem_of_getElem? (i := 138) rfl)
theorem tf_w66 : Cond.fieldLink "TurtleBackModel" 56 "TurtleBackModel" "dist" "[I" ∈ tb_gt := tb_subg_in tf_wl_in _ (List.mem_of_getElem? (i := 139) rfl)
theorem tf_w67 : Cond.fieldLink "TurtleBackModel" 59 "TurtleBackModel" "queue" "[I" ∈ tb_gt := tb_subg_in tf_wl_in _ (List.mem_of_getElem? (i := 140) rfl)
theorem tf_w68 : Cond.fieldLink "TurtleBackModel" 62 "TurtleBackModel" "turns" "[I" ∈ tb_gt := tb_subg_in tf_wl_in _ (List.mem_of_getElem? (i := 141) rfl)
theorem tf_w70 : Cond.fieldLink "TurtleBackModel" 65 "TurtleBackModel" "onWay" "[Z" ∈ tb_gt := tb_subg_in tf_wl_in _ (List.mem_of_getElem? (i := 142) rfl)
theorem tf_w71 : Cond.fieldLink "TurtleBackModel" 69 "TurtleBackModel" "chart" "[J" ∈ tb_gt := tb_subg_in tf_wl_in _ (List.mem_of_getElem? (i := 143) rfl)
theorem tf_w72 : Cond.fieldLink "TurtleBackModel" 73 "TurtleBackModel" "furthe\x72" "[J" ∈ tb_gt := tb_subg_in tf_wl_in _ (List.mem_of_getElem? (i := 144) rfl)
theorem tf_w73 : Cond.fieldLink "TurtleBackModel" 76 "TurtleBackModel" "cells" "[Z" ∈ tb_gt := tb_subg_in tf_wl_in _ (List.mem_of_getElem? (i := 145) rfl)
theorem tf_w74 : Cond.fieldLink "TurtleBackModel" 79 "TurtleBackModel" "fitsOn" "[Z" ∈ tb_gt := tb_subg_in tf_wl_in _ (List.mem_of_getElem? (i := 146) rfl)
theorem tf_w75 : Cond.fieldLink "TurtleBackModel" 82 "TurtleBackModel" "fitsSo" "[Z" ∈ tb_gt := tb_subg_in tf_wl_in _ (List.mem_of_getElem? (i := 147) rfl)
theorem tf_w69 : Cond.arrayClass .boolean ∈ tb_gt := tb_subg_in tf_wl_in _ (List.mem_of_getElem? (i := 148) rfl)
theorem tf_d0_0 : decode prog_2_method_1_code 0 = .ok (.aload_n 0, 1) := by decide +kernel
theorem tf_d0_1 : decode prog_2_method_1_code 1 = .ok (.invokespecial 1, 3) := by decide +kernel
theorem tf_d0_4 : decode prog_2_method_1_code 4 = .ok (.aload_n 0, 1) := by decide +kernel
theorem tf_d0_5 : decode prog_2_method_1_code 5 = .ok (.bipush 30, 2) := by decide +kernel
theorem tf_d0_7 : decode prog_2_method_1_code 7 = .ok (.newarray .int, 2) := by decide +kernel
theorem tf_d0_9 : decode prog_2_method_1_code 9 = .ok (.putfield 9, 3) := by decide +kernel
theorem tf_d0_12 : decode prog_2_method_1_code 12 = .ok (.aload_n 0, 1) := by decide +kernel
theorem tf_d0_13 : decode prog_2_method_1_code 13 = .ok (.bipush 30, 2) := by decide +kernel
theorem tf_d0_15 : decode prog_2_method_1_code 15 = .ok (.newarray .int, 2) := by decide +kernel
theorem tf_d0_17 : decode prog_2_method_1_code 17 = .ok (.putfield 13, 3) := by decide +kernel
theorem tf_d0_20 : decode prog_2_method_1_code 20 = .ok (.aload_n 0, 1) := by decide +kernel
theorem tf_d0_21 : decode prog_2_method_1_code 21 = .ok (.bipush 30, 2) := by decide +kernel
theorem tf_d0_23 : decode prog_2_method_1_code 23 = .ok (.newarray .int, 2) := by decide +kernel
theorem tf_d0_25 : decode prog_2_method_1_code 25 = .ok (.putfield 16, 3) := by decide +kernel
theorem tf_d0_28 : decode prog_2_method_1_code 28 = .ok (.return_, 1) := by decide +kernel
theorem tf_d1_0 : decode prog_3_method_1_code 0 = .ok (.aload_n 0, 1) := by decide +kernel
theorem tf_d1_1 : decode prog_3_method_1_code 1 = .ok (.invokespecial 3, 3) := by decide +kernel
theorem tf_d1_4 : decode prog_3_method_1_code 4 = .ok (.aload_n 0, 1) := by decide +kernel
theorem tf_d1_5 : decode prog_3_method_1_code 5 = .ok (.bipush 9, 2) := by decide +kernel
theorem tf_d1_7 : decode prog_3_method_1_code 7 = .ok (.newarray .int, 2) := by decide +kernel
theorem tf_d1_9 : decode prog_3_method_1_code 9 = .ok (.putfield 11, 3) := by decide +kernel
theorem tf_d1_12 : decode prog_3_method_1_code 12 = .ok (.aload_n 0, 1) := by decide +kernel
theorem tf_d1_13 : decode prog_3_method_1_code 13 = .ok (.sipush 432, 3) := by decide +kernel
theorem tf_d1_16 : decode prog_3_method_1_code 16 = .ok (.newarray .int, 2) := by decide +kernel
theorem tf_d1_18 : decode prog_3_method_1_code 18 = .ok (.putfield 15, 3) := by decide +kernel
theorem tf_d1_21 : decode prog_3_method_1_code 21 = .ok (.aload_n 0, 1) := by decide +kernel
theorem tf_d1_22 : decode prog_3_method_1_code 22 = .ok (.bipush 22, 2) := by decide +kernel
theorem tf_d1_24 : decode prog_3_method_1_code 24 = .ok (.newarray .long, 2) := by decide +kernel
theorem tf_d1_26 : decode prog_3_method_1_code 26 = .ok (.putfield 18, 3) := by decide +kernel
theorem tf_d1_29 : decode prog_3_method_1_code 29 = .ok (.aload_n 0, 1) := by decide +kernel
theorem tf_d1_30 : decode prog_3_method_1_code 30 = .ok (.bipush 22, 2) := by decide +kernel
theorem tf_d1_32 : decode prog_3_method_1_code 32 = .ok (.newarray .int, 2) := by decide +kernel
theorem tf_d1_34 : decode prog_3_method_1_code 34 = .ok (.putfield 22, 3) := by decide +kernel
theorem tf_d1_37 : decode prog_3_method_1_code 37 = .ok (.return_, 1) := by decide +kernel
theorem tf_d2_0 : decode prog_4_method_1_code 0 = .ok (.aload_n 0, 1) := by decide +kernel
theorem tf_d2_1 : decode prog_4_method_1_code 1 = .ok (.invokespecial 3, 3) := by decide +kernel
theorem tf_d2_4 : decode prog_4_method_1_code 4 = .ok (.aload_n 0, 1) := by decide +kernel
theorem tf_d2_5 : decode prog_4_method_1_code 5 = .ok (.sipush 10400, 3) := by decide +kernel
theorem tf_d2_8 : decode prog_4_method_1_code 8 = .ok (.newarray .int, 2) := by decide +kernel
theorem tf_d2_10 : decode prog_4_method_1_code 10 = .ok (.putfield 13, 3) := by decide +kernel
theorem tf_d2_13 : decode prog_4_method_1_code 13 = .ok (.aload_n 0, 1) := by decide +kernel
theorem tf_d2_14 : decode prog_4_method_1_code 14 = .ok (.sipush 10400, 3) := by decide +kernel
theorem tf_d2_17 : decode prog_4_method_1_code 17 = .ok (.newarray .int, 2) := by decide +kernel
theorem tf_d2_19 : decode prog_4_method_1_code 19 = .ok (.putfield 17, 3) := by decide +kernel
theorem tf_d2_22 : decode prog_4_method_1_code 22 = .ok (.aload_n 0, 1) := by decide +kernel
theorem tf_d2_23 : decode prog_4_method_1_code 23 = .ok (.bipush 100, 2) := by decide +kernel
theorem tf_d2_25 : decode prog_4_method_1_code 25 = .ok (.newarray .int, 2) := by decide +kernel
theorem tf_d2_27 : decode prog_4_method_1_code 27 = .ok (.putfield 20, 3) := by decide +kernel
theorem tf_d2_30 : decode prog_4_method_1_code 30 = .ok (.return_, 1) := by decide +kernel
theorem tf_d3_0 : decode prog_5_method_1_code 0 = .ok (.aload_n 0, 1) := by decide +kernel
theorem tf_d3_1 : decode prog_5_method_1_code 1 = .ok (.invokespecial 3, 3) := by decide +kernel
theorem tf_d3_4 : decode prog_5_method_1_code 4 = .ok (.aload_n 0, 1) := by decide +kernel
theorem tf_d3_5 : decode prog_5_method_1_code 5 = .ok (.sipush 800, 3) := by decide +kernel
theorem tf_d3_8 : decode prog_5_method_1_code 8 = .ok (.newarray .int, 2) := by decide +kernel
theorem tf_d3_10 : decode prog_5_method_1_code 10 = .ok (.putfield 11, 3) := by decide +kernel
theorem tf_d3_13 : decode prog_5_method_1_code 13 = .ok (.aload_n 0, 1) := by decide +kernel
theorem tf_d3_14 : decode prog_5_method_1_code 14 = .ok (.sipush 800, 3) := by decide +kernel
theorem tf_d3_17 : decode prog_5_method_1_code 17 = .ok (.newarray .int, 2) := by decide +kernel
theorem tf_d3_19 : decode prog_5_method_1_code 19 = .ok (.putfield 17, 3) := by decide +kernel
theorem tf_d3_22 : decode prog_5_method_1_code 22 = .ok (.aload_n 0, 1) := by decide +kernel
theorem tf_d3_23 : decode prog_5_method_1_code 23 = .ok (.sipush 800, 3) := by decide +kernel
theorem tf_d3_26 : decode prog_5_method_1_code 26 = .ok (.newarray .int, 2) := by decide +kernel
theorem tf_d3_28 : decode prog_5_method_1_code 28 = .ok (.putfield 20, 3) := by decide +kernel
theorem tf_d3_31 : decode prog_5_method_1_code 31 = .ok (.aload_n 0, 1) := by decide +kernel
theorem tf_d3_32 : decode prog_5_method_1_code 32 = .ok (.sipush 800, 3) := by decide +kernel
theorem tf_d3_35 : decode prog_5_method_1_code 35 = .ok (.newarray .int, 2) := by decide +kernel
theorem tf_d3_37 : decode prog_5_method_1_code 37 = .ok (.putfield 23, 3) := by decide +kernel
theorem tf_d3_40 : decode prog_5_method_1_code 40 = .ok (.aload_n 0, 1) := by decide +kernel
theorem tf_d3_41 : decode prog_5_method_1_code 41 = .ok (.bipush 40, 2) := by decide +kernel
theorem tf_d3_43 : decode prog_5_method_1_code 43 = .ok (.newarray .int, 2) := by decide +kernel
theorem tf_d3_45 : decode prog_5_method_1_code 45 = .ok (.putfield 26, 3) := by decide +kernel
theorem tf_d3_48 : decode prog_5_method_1_code 48 = .ok (.return_, 1) := by decide +kernel
theorem tf_d5_0 : decode prog_7_method_1_code 0 = .ok (.aload_n 0, 1) := by decide +kernel
theorem tf_d5_1 : decode prog_7_method_1_code 1 = .ok (.invokespecial 3, 3) := by decide +kernel
theorem tf_d5_4 : decode prog_7_method_1_code 4 = .ok (.aload_n 0, 1) := by decide +kernel
theorem tf_d5_5 : decode prog_7_method_1_code 5 = .ok (.iconst 4, 1) := by decide +kernel
theorem tf_d5_6 : decode prog_7_method_1_code 6 = .ok (.newarray .int, 2) := by decide +kernel
theorem tf_d5_8 : decode prog_7_method_1_code 8 = .ok (.putfield 11, 3) := by decide +kernel
theorem tf_d5_11 : decode prog_7_method_1_code 11 = .ok (.aload_n 0, 1) := by decide +kernel
theorem tf_d5_12 : decode prog_7_method_1_code 12 = .ok (.iconst 4, 1) := by decide +kernel
theorem tf_d5_13 : decode prog_7_method_1_code 13 = .ok (.newarray .int, 2) := by decide +kernel
theorem tf_d5_15 : decode prog_7_method_1_code 15 = .ok (.putfield 15, 3) := by decide +kernel
theorem tf_d5_18 : decode prog_7_method_1_code 18 = .ok (.aload_n 0, 1) := by decide +kernel
theorem tf_d5_19 : decode prog_7_method_1_code 19 = .ok (.iconst 4, 1) := by decide +kernel
theorem tf_d5_20 : decode prog_7_method_1_code 20 = .ok (.newarray .int, 2) := by decide +kernel
theorem tf_d5_22 : decode prog_7_method_1_code 22 = .ok (.putfield 18, 3) := by decide +kernel
theorem tf_d5_25 : decode prog_7_method_1_code 25 = .ok (.aload_n 0, 1) := by decide +kernel
theorem tf_d5_26 : decode prog_7_method_1_code 26 = .ok (.iconst 4, 1) := by decide +kernel
theorem tf_d5_27 : decode prog_7_method_1_code 27 = .ok (.newarray .int, 2) := by decide +kernel
theorem tf_d5_29 : decode prog_7_method_1_code 29 = .ok (.putfield 21, 3) := by decide +kernel
theorem tf_d5_32 : decode prog_7_method_1_code 32 = .ok (.aload_n 0, 1) := by decide +kernel
theorem tf_d5_33 : decode prog_7_method_1_code 33 = .ok (.bipush 8, 2) := by decide +kernel
theorem tf_d5_35 : decode prog_7_method_1_code 35 = .ok (.newarray .int, 2) := by decide +kernel
theorem tf_d5_37 : decode prog_7_method_1_code 37 = .ok (.putfield 24, 3) := by decide +kernel
theorem tf_d5_40 : decode prog_7_method_1_code 40 = .ok (.aload_n 0, 1) := by decide +kernel
theorem tf_d5_41 : decode prog_7_method_1_code 41 = .ok (.bipush 8, 2) := by decide +kernel
theorem tf_d5_43 : decode prog_7_method_1_code 43 = .ok (.newarray .int, 2) := by decide +kernel
theorem tf_d5_45 : decode prog_7_method_1_code 45 = .ok (.putfield 27, 3) := by decide +kernel
theorem tf_d5_48 : decode prog_7_method_1_code 48 = .ok (.aload_n 0, 1) := by decide +kernel
theorem tf_d5_49 : decode prog_7_method_1_code 49 = .ok (.bipush 8, 2) := by decide +kernel
theorem tf_d5_51 : decode prog_7_method_1_code 51 = .ok (.newarray .int, 2) := by decide +kernel
theorem tf_d5_53 : decode prog_7_method_1_code 53 = .ok (.putfield 30, 3) := by decide +kernel
theorem tf_d5_56 : decode prog_7_method_1_code 56 = .ok (.aload_n 0, 1) := by decide +kernel
theorem tf_d5_57 : decode prog_7_method_1_code 57 = .ok (.bipush 8, 2) := by decide +kernel
theorem tf_d5_59 : decode prog_7_method_1_code 59 = .ok (.newarray .int, 2) := by decide +kernel
theorem tf_d5_61 : decode prog_7_method_1_code 61 = .ok (.putfield 33, 3) := by decide +kernel
theorem tf_d5_64 : decode prog_7_method_1_code 64 = .ok (.aload_n 0, 1) := by decide +kernel
theorem tf_d5_65 : decode prog_7_method_1_code 65 = .ok (.bipush 8, 2) := by decide +kernel
theorem tf_d5_67 : decode prog_7_method_1_code 67 = .ok (.newarray .int, 2) := by decide +kernel
theorem tf_d5_69 : decode prog_7_method_1_code 69 = .ok (.putfield 36, 3) := by decide +kernel
theorem tf_d5_72 : decode prog_7_method_1_code 72 = .ok (.aload_n 0, 1) := by decide +kernel
theorem tf_d5_73 : decode prog_7_method_1_code 73 = .ok (.bipush 9, 2) := by decide +kernel
theorem tf_d5_75 : decode prog_7_method_1_code 75 = .ok (.newarray .int, 2) := by decide +kernel
theorem tf_d5_77 : decode prog_7_method_1_code 77 = .ok (.putfield 39, 3) := by decide +kernel
theorem tf_d5_80 : decode prog_7_method_1_code 80 = .ok (.return_, 1) := by decide +kernel
theorem tf_d6_0 : decode prog_8_method_1_code 0 = .ok (.aload_n 0, 1) := by decide +kernel
theorem tf_d6_1 : decode prog_8_method_1_code 1 = .ok (.invokespecial 3, 3) := by decide +kernel
theorem tf_d6_4 : decode prog_8_method_1_code 4 = .ok (.aload_n 0, 1) := by decide +kernel
theorem tf_d6_5 : decode prog_8_method_1_code 5 = .ok (.sipush 900, 3) := by decide +kernel
theorem tf_d6_8 : decode prog_8_method_1_code 8 = .ok (.newarray .byte, 2) := by decide +kernel
theorem tf_d6_10 : decode prog_8_method_1_code 10 = .ok (.putfield 11, 3) := by decide +kernel
theorem tf_d6_13 : decode prog_8_method_1_code 13 = .ok (.aload_n 0, 1) := by decide +kernel
theorem tf_d6_14 : decode prog_8_method_1_code 14 = .ok (.bipush 6, 2) := by decide +kernel
theorem tf_d6_16 : decode prog_8_method_1_code 16 = .ok (.newarray .int, 2) := by decide +kernel
theorem tf_d6_18 : decode prog_8_method_1_code 18 = .ok (.putfield 17, 3) := by decide +kernel
theorem tf_d6_21 : decode prog_8_method_1_code 21 = .ok (.return_, 1) := by decide +kernel
theorem tf_d9_0 : decode prog_11_method_1_code 0 = .ok (.aload_n 0, 1) := by decide +kernel
theorem tf_d9_1 : decode prog_11_method_1_code 1 = .ok (.invokespecial 1, 3) := by decide +kernel
theorem tf_d9_4 : decode prog_11_method_1_code 4 = .ok (.aload_n 0, 1) := by decide +kernel
theorem tf_d9_5 : decode prog_11_method_1_code 5 = .ok (.bipush 6, 2) := by decide +kernel
theorem tf_d9_7 : decode prog_11_method_1_code 7 = .ok (.newarray .int, 2) := by decide +kernel
theorem tf_d9_9 : decode prog_11_method_1_code 9 = .ok (.putfield 9, 3) := by decide +kernel
theorem tf_d9_12 : decode prog_11_method_1_code 12 = .ok (.aload_n 0, 1) := by decide +kernel
theorem tf_d9_13 : decode prog_11_method_1_code 13 = .ok (.bipush 6, 2) := by decide +kernel
theorem tf_d9_15 : decode prog_11_method_1_code 15 = .ok (.newarray .int, 2) := by decide +kernel
theorem tf_d9_17 : decode prog_11_method_1_code 17 = .ok (.putfield 13, 3) := by decide +kernel
theorem tf_d9_20 : decode prog_11_method_1_code 20 = .ok (.aload_n 0, 1) := by decide +kernel
theorem tf_d9_21 : decode prog_11_method_1_code 21 = .ok (.sipush 2100, 3) := by decide +kernel
theorem tf_d9_24 : decode prog_11_method_1_code 24 = .ok (.newarray .int, 2) := by decide +kernel
theorem tf_d9_26 : decode prog_11_method_1_code 26 = .ok (.putfield 18, 3) := by decide +kernel
theorem tf_d9_29 : decode prog_11_method_1_code 29 = .ok (.aload_n 0, 1) := by decide +kernel
theorem tf_d9_30 : decode prog_11_method_1_code 30 = .ok (.bipush 100, 2) := by decide +kernel
theorem tf_d9_32 : decode prog_11_method_1_code 32 = .ok (.newarray .int, 2) := by decide +kernel
theorem tf_d9_34 : decode prog_11_method_1_code 34 = .ok (.putfield 21, 3) := by decide +kernel
theorem tf_d9_37 : decode prog_11_method_1_code 37 = .ok (.aload_n 0, 1) := by decide +kernel
theorem tf_d9_38 : decode prog_11_method_1_code 38 = .ok (.bipush 100, 2) := by decide +kernel
theorem tf_d9_40 : decode prog_11_method_1_code 40 = .ok (.newarray .int, 2) := by decide +kernel
theorem tf_d9_42 : decode prog_11_method_1_code 42 = .ok (.putfield 24, 3) := by decide +kernel
theorem tf_d9_45 : decode prog_11_method_1_code 45 = .ok (.return_, 1) := by decide +kernel
theorem tf_d10_0 : decode prog_12_method_1_code 0 = .ok (.aload_n 0, 1) := by decide +kernel
theorem tf_d10_1 : decode prog_12_method_1_code 1 = .ok (.invokespecial 3, 3) := by decide +kernel
theorem tf_d10_4 : decode prog_12_method_1_code 4 = .ok (.aload_n 0, 1) := by decide +kernel
theorem tf_d10_5 : decode prog_12_method_1_code 5 = .ok (.bipush 6, 2) := by decide +kernel
theorem tf_d10_7 : decode prog_12_method_1_code 7 = .ok (.newarray .int, 2) := by decide +kernel
theorem tf_d10_9 : decode prog_12_method_1_code 9 = .ok (.putfield 9, 3) := by decide +kernel
theorem tf_d10_12 : decode prog_12_method_1_code 12 = .ok (.aload_n 0, 1) := by decide +kernel
theorem tf_d10_13 : decode prog_12_method_1_code 13 = .ok (.iconst 4, 1) := by decide +kernel
theorem tf_d10_14 : decode prog_12_method_1_code 14 = .ok (.newarray .int, 2) := by decide +kernel
theorem tf_d10_16 : decode prog_12_method_1_code 16 = .ok (.putfield 15, 3) := by decide +kernel
theorem tf_d10_19 : decode prog_12_method_1_code 19 = .ok (.aload_n 0, 1) := by decide +kernel
theorem tf_d10_20 : decode prog_12_method_1_code 20 = .ok (.iconst 4, 1) := by decide +kernel
theorem tf_d10_21 : decode prog_12_method_1_code 21 = .ok (.newarray .int, 2) := by decide +kernel
theorem tf_d10_23 : decode prog_12_method_1_code 23 = .ok (.putfield 18, 3) := by decide +kernel
theorem tf_d10_26 : decode prog_12_method_1_code 26 = .ok (.aload_n 0, 1) := by decide +kernel
theorem tf_d10_27 : decode prog_12_method_1_code 27 = .ok (.bipush 8, 2) := by decide +kernel
theorem tf_d10_29 : decode prog_12_method_1_code 29 = .ok (.newarray .int, 2) := by decide +kernel
theorem tf_d10_31 : decode prog_12_method_1_code 31 = .ok (.putfield 21, 3) := by decide +kernel
theorem tf_d10_34 : decode prog_12_method_1_code 34 = .ok (.aload_n 0, 1) := by decide +kernel
theorem tf_d10_35 : decode prog_12_method_1_code 35 = .ok (.sipush 201, 3) := by decide +kernel
theorem tf_d10_38 : decode prog_12_method_1_code 38 = .ok (.newarray .int, 2) := by decide +kernel
theorem tf_d10_40 : decode prog_12_method_1_code 40 = .ok (.putfield 24, 3) := by decide +kernel
theorem tf_d10_43 : decode prog_12_method_1_code 43 = .ok (.return_, 1) := by decide +kernel
theorem tf_d12_0 : decode prog_14_method_1_code 0 = .ok (.aload_n 0, 1) := by decide +kernel
theorem tf_d12_1 : decode prog_14_method_1_code 1 = .ok (.invokespecial 1, 3) := by decide +kernel
theorem tf_d12_4 : decode prog_14_method_1_code 4 = .ok (.aload_n 0, 1) := by decide +kernel
theorem tf_d12_5 : decode prog_14_method_1_code 5 = .ok (.sipush 900, 3) := by decide +kernel
theorem tf_d12_8 : decode prog_14_method_1_code 8 = .ok (.newarray .int, 2) := by decide +kernel
theorem tf_d12_10 : decode prog_14_method_1_code 10 = .ok (.putfield 7, 3) := by decide +kernel
theorem tf_d12_13 : decode prog_14_method_1_code 13 = .ok (.aload_n 0, 1) := by decide +kernel
theorem tf_d12_14 : decode prog_14_method_1_code 14 = .ok (.iconst (-1), 1) := by decide +kernel
theorem tf_d12_15 : decode prog_14_method_1_code 15 = .ok (.putfield 13, 3) := by decide +kernel
theorem tf_d12_18 : decode prog_14_method_1_code 18 = .ok (.aload_n 0, 1) := by decide +kernel
theorem tf_d12_19 : decode prog_14_method_1_code 19 = .ok (.bipush 8, 2) := by decide +kernel
theorem tf_d12_21 : decode prog_14_method_1_code 21 = .ok (.newarray .int, 2) := by decide +kernel
theorem tf_d12_23 : decode prog_14_method_1_code 23 = .ok (.putfield 17, 3) := by decide +kernel
theorem tf_d12_26 : decode prog_14_method_1_code 26 = .ok (.aload_n 0, 1) := by decide +kernel
theorem tf_d12_27 : decode prog_14_method_1_code 27 = .ok (.sipush 362, 3) := by decide +kernel
theorem tf_d12_30 : decode prog_14_method_1_code 30 = .ok (.newarray .int, 2) := by decide +kernel
theorem tf_d12_32 : decode prog_14_method_1_code 32 = .ok (.putfield 20, 3) := by decide +kernel
theorem tf_d12_35 : decode prog_14_method_1_code 35 = .ok (.aload_n 0, 1) := by decide +kernel
theorem tf_d12_36 : decode prog_14_method_1_code 36 = .ok (.sipush 362, 3) := by decide +kernel
theorem tf_d12_39 : decode prog_14_method_1_code 39 = .ok (.newarray .int, 2) := by decide +kernel
theorem tf_d12_41 : decode prog_14_method_1_code 41 = .ok (.putfield 23, 3) := by decide +kernel
theorem tf_d12_44 : decode prog_14_method_1_code 44 = .ok (.aload_n 0, 1) := by decide +kernel
theorem tf_d12_45 : decode prog_14_method_1_code 45 = .ok (.sipush 453, 3) := by decide +kernel
theorem tf_d12_48 : decode prog_14_method_1_code 48 = .ok (.newarray .int, 2) := by decide +kernel
theorem tf_d12_50 : decode prog_14_method_1_code 50 = .ok (.putfield 26, 3) := by decide +kernel
theorem tf_d12_53 : decode prog_14_method_1_code 53 = .ok (.aload_n 0, 1) := by decide +kernel
theorem tf_d12_54 : decode prog_14_method_1_code 54 = .ok (.sipush 1812, 3) := by decide +kernel
theorem tf_d12_57 : decode prog_14_method_1_code 57 = .ok (.newarray .int, 2) := by decide +kernel
theorem tf_d12_59 : decode prog_14_method_1_code 59 = .ok (.putfield 29, 3) := by decide +kernel
theorem tf_d12_62 : decode prog_14_method_1_code 62 = .ok (.aload_n 0, 1) := by decide +kernel
theorem tf_d12_63 : decode prog_14_method_1_code 63 = .ok (.bipush 30, 2) := by decide +kernel
theorem tf_d12_65 : decode prog_14_method_1_code 65 = .ok (.newarray .int, 2) := by decide +kernel
theorem tf_d12_67 : decode prog_14_method_1_code 67 = .ok (.putfield 32, 3) := by decide +kernel
theorem tf_d12_70 : decode prog_14_method_1_code 70 = .ok (.aload_n 0, 1) := by decide +kernel
theorem tf_d12_71 : decode prog_14_method_1_code 71 = .ok (.bipush 30, 2) := by decide +kernel
theorem tf_d12_73 : decode prog_14_method_1_code 73 = .ok (.newarray .int, 2) := by decide +kernel
theorem tf_d12_75 : decode prog_14_method_1_code 75 = .ok (.putfield 35, 3) := by decide +kernel
theorem tf_d12_78 : decode prog_14_method_1_code 78 = .ok (.aload_n 0, 1) := by decide +kernel
theorem tf_d12_79 : decode prog_14_method_1_code 79 = .ok (.bipush 30, 2) := by decide +kernel
theorem tf_d12_81 : decode prog_14_method_1_code 81 = .ok (.newarray .int, 2) := by decide +kernel
theorem tf_d12_83 : decode prog_14_method_1_code 83 = .ok (.putfield 38, 3) := by decide +kernel
theorem tf_d12_86 : decode prog_14_method_1_code 86 = .ok (.aload_n 0, 1) := by decide +kernel
theorem tf_d12_87 : decode prog_14_method_1_code 87 = .ok (.bipush 6, 2) := by decide +kernel
theorem tf_d12_89 : decode prog_14_method_1_code 89 = .ok (.newarray .int, 2) := by decide +kernel
theorem tf_d12_91 : decode prog_14_method_1_code 91 = .ok (.putfield 41, 3) := by decide +kernel
theorem tf_d12_94 : decode prog_14_method_1_code 94 = .ok (.aload_n 0, 1) := by decide +kernel
theorem tf_d12_95 : decode prog_14_method_1_code 95 = .ok (.bipush 6, 2) := by decide +kernel
theorem tf_d12_97 : decode prog_14_method_1_code 97 = .ok (.newarray .int, 2) := by decide +kernel
theorem tf_d12_99 : decode prog_14_method_1_code 99 = .ok (.putfield 44, 3) := by decide +kernel
theorem tf_d12_102 : decode prog_14_method_1_code 102 = .ok (.aload_n 0, 1) := by decide +kernel
theorem tf_d12_103 : decode prog_14_method_1_code 103 = .ok (.bipush 6, 2) := by decide +kernel
theorem tf_d12_105 : decode prog_14_method_1_code 105 = .ok (.newarray .int, 2) := by decide +kernel
theorem tf_d12_107 : decode prog_14_method_1_code 107 = .ok (.putfield 47, 3) := by decide +kernel
theorem tf_d12_110 : decode prog_14_method_1_code 110 = .ok (.aload_n 0, 1) := by decide +kernel
theorem tf_d12_111 : decode prog_14_method_1_code 111 = .ok (.iconst 4, 1) := by decide +kernel
theorem tf_d12_112 : decode prog_14_method_1_code 112 = .ok (.newarray .int, 2) := by decide +kernel
theorem tf_d12_114 : decode prog_14_method_1_code 114 = .ok (.putfield 50, 3) := by decide +kernel
theorem tf_d12_117 : decode prog_14_method_1_code 117 = .ok (.aload_n 0, 1) := by decide +kernel
theorem tf_d12_118 : decode prog_14_method_1_code 118 = .ok (.iconst 4, 1) := by decide +kernel
theorem tf_d12_119 : decode prog_14_method_1_code 119 = .ok (.newarray .int, 2) := by decide +kernel
theorem tf_d12_121 : decode prog_14_method_1_code 121 = .ok (.putfield 53, 3) := by decide +kernel
theorem tf_d12_124 : decode prog_14_method_1_code 124 = .ok (.aload_n 0, 1) := by decide +kernel
theorem tf_d12_125 : decode prog_14_method_1_code 125 = .ok (.sipush 800, 3) := by decide +kernel
theorem tf_d12_128 : decode prog_14_method_1_code 128 = .ok (.newarray .int, 2) := by decide +kernel
theorem tf_d12_130 : decode prog_14_method_1_code 130 = .ok (.putfield 56, 3) := by decide +kernel
theorem tf_d12_133 : decode prog_14_method_1_code 133 = .ok (.aload_n 0, 1) := by decide +kernel
theorem tf_d12_134 : decode prog_14_method_1_code 134 = .ok (.sipush 800, 3) := by decide +kernel
theorem tf_d12_137 : decode prog_14_method_1_code 137 = .ok (.newarray .int, 2) := by decide +kernel
theorem tf_d12_139 : decode prog_14_method_1_code 139 = .ok (.putfield 59, 3) := by decide +kernel
theorem tf_d12_142 : decode prog_14_method_1_code 142 = .ok (.aload_n 0, 1) := by decide +kernel
theorem tf_d12_143 : decode prog_14_method_1_code 143 = .ok (.bipush 40, 2) := by decide +kernel
theorem tf_d12_145 : decode prog_14_method_1_code 145 = .ok (.newarray .int, 2) := by decide +kernel
theorem tf_d12_147 : decode prog_14_method_1_code 147 = .ok (.putfield 62, 3) := by decide +kernel
theorem tf_d12_150 : decode prog_14_method_1_code 150 = .ok (.aload_n 0, 1) := by decide +kernel
theorem tf_d12_151 : decode prog_14_method_1_code 151 = .ok (.sipush 800, 3) := by decide +kernel
theorem tf_d12_154 : decode prog_14_method_1_code 154 = .ok (.newarray .boolean, 2) := by decide +kernel
theorem tf_d12_156 : decode prog_14_method_1_code 156 = .ok (.putfield 65, 3) := by decide +kernel
theorem tf_d12_159 : decode prog_14_method_1_code 159 = .ok (.aload_n 0, 1) := by decide +kernel
theorem tf_d12_160 : decode prog_14_method_1_code 160 = .ok (.sipush 11200, 3) := by decide +kernel
theorem tf_d12_163 : decode prog_14_method_1_code 163 = .ok (.newarray .long, 2) := by decide +kernel
theorem tf_d12_165 : decode prog_14_method_1_code 165 = .ok (.putfield 69, 3) := by decide +kernel
theorem tf_d12_168 : decode prog_14_method_1_code 168 = .ok (.aload_n 0, 1) := by decide +kernel
theorem tf_d12_169 : decode prog_14_method_1_code 169 = .ok (.sipush 11200, 3) := by decide +kernel
theorem tf_d12_172 : decode prog_14_method_1_code 172 = .ok (.newarray .long, 2) := by decide +kernel
theorem tf_d12_174 : decode prog_14_method_1_code 174 = .ok (.putfield 73, 3) := by decide +kernel
theorem tf_d12_177 : decode prog_14_method_1_code 177 = .ok (.aload_n 0, 1) := by decide +kernel
theorem tf_d12_178 : decode prog_14_method_1_code 178 = .ok (.bipush 100, 2) := by decide +kernel
theorem tf_d12_180 : decode prog_14_method_1_code 180 = .ok (.newarray .boolean, 2) := by decide +kernel
theorem tf_d12_182 : decode prog_14_method_1_code 182 = .ok (.putfield 76, 3) := by decide +kernel
theorem tf_d12_185 : decode prog_14_method_1_code 185 = .ok (.aload_n 0, 1) := by decide +kernel
theorem tf_d12_186 : decode prog_14_method_1_code 186 = .ok (.sipush 16800, 3) := by decide +kernel
theorem tf_d12_189 : decode prog_14_method_1_code 189 = .ok (.newarray .boolean, 2) := by decide +kernel
theorem tf_d12_191 : decode prog_14_method_1_code 191 = .ok (.putfield 79, 3) := by decide +kernel
theorem tf_d12_194 : decode prog_14_method_1_code 194 = .ok (.aload_n 0, 1) := by decide +kernel
theorem tf_d12_195 : decode prog_14_method_1_code 195 = .ok (.sipush 16800, 3) := by decide +kernel
theorem tf_d12_198 : decode prog_14_method_1_code 198 = .ok (.newarray .boolean, 2) := by decide +kernel
theorem tf_d12_200 : decode prog_14_method_1_code 200 = .ok (.putfield 82, 3) := by decide +kernel
theorem tf_d12_203 : decode prog_14_method_1_code 203 = .ok (.return_, 1) := by decide +kernel
theorem tf_d4_0 : decode prog_6_method_1_code 0 = .ok (.aload_n 0, 1) := by decide +kernel
theorem tf_d4_1 : decode prog_6_method_1_code 1 = .ok (.invokespecial 3, 3) := by decide +kernel
theorem tf_d4_4 : decode prog_6_method_1_code 4 = .ok (.aload_n 0, 1) := by decide +kernel
theorem tf_d4_5 : decode prog_6_method_1_code 5 = .ok (.new 9, 3) := by decide +kernel
theorem tf_d4_8 : decode prog_6_method_1_code 8 = .ok (.dup, 1) := by decide +kernel
theorem tf_d4_9 : decode prog_6_method_1_code 9 = .ok (.invokespecial 11, 3) := by decide +kernel
theorem tf_d4_12 : decode prog_6_method_1_code 12 = .ok (.putfield 12, 3) := by decide +kernel
theorem tf_d4_15 : decode prog_6_method_1_code 15 = .ok (.aload_n 0, 1) := by decide +kernel
theorem tf_d4_16 : decode prog_6_method_1_code 16 = .ok (.new 18, 3) := by decide +kernel
theorem tf_d4_19 : decode prog_6_method_1_code 19 = .ok (.dup, 1) := by decide +kernel
theorem tf_d4_20 : decode prog_6_method_1_code 20 = .ok (.invokespecial 20, 3) := by decide +kernel
theorem tf_d4_23 : decode prog_6_method_1_code 23 = .ok (.putfield 21, 3) := by decide +kernel
theorem tf_d4_26 : decode prog_6_method_1_code 26 = .ok (.return_, 1) := by decide +kernel
theorem tf_d11_0 : decode prog_1_method_1_code 0 = .ok (.aload_n 0, 1) := by decide +kernel
theorem tf_d11_1 : decode prog_1_method_1_code 1 = .ok (.invokespecial 1, 3) := by decide +kernel
theorem tf_d11_4 : decode prog_1_method_1_code 4 = .ok (.aload_n 0, 1) := by decide +kernel
theorem tf_d11_5 : decode prog_1_method_1_code 5 = .ok (.new 7, 3) := by decide +kernel
theorem tf_d11_8 : decode prog_1_method_1_code 8 = .ok (.dup, 1) := by decide +kernel
theorem tf_d11_9 : decode prog_1_method_1_code 9 = .ok (.invokespecial 9, 3) := by decide +kernel
theorem tf_d11_12 : decode prog_1_method_1_code 12 = .ok (.putfield 10, 3) := by decide +kernel
theorem tf_d11_15 : decode prog_1_method_1_code 15 = .ok (.aload_n 0, 1) := by decide +kernel
theorem tf_d11_16 : decode prog_1_method_1_code 16 = .ok (.new 16, 3) := by decide +kernel
theorem tf_d11_19 : decode prog_1_method_1_code 19 = .ok (.dup, 1) := by decide +kernel
theorem tf_d11_20 : decode prog_1_method_1_code 20 = .ok (.invokespecial 18, 3) := by decide +kernel
theorem tf_d11_23 : decode prog_1_method_1_code 23 = .ok (.putfield 19, 3) := by decide +kernel
theorem tf_d11_26 : decode prog_1_method_1_code 26 = .ok (.aload_n 0, 1) := by decide +kernel
theorem tf_d11_27 : decode prog_1_method_1_code 27 = .ok (.iconst 4, 1) := by decide +kernel
theorem tf_d11_28 : decode prog_1_method_1_code 28 = .ok (.anewarray 23, 3) := by decide +kernel
theorem tf_d11_31 : decode prog_1_method_1_code 31 = .ok (.putfield 25, 3) := by decide +kernel
theorem tf_d11_34 : decode prog_1_method_1_code 34 = .ok (.aload_n 0, 1) := by decide +kernel
theorem tf_d11_35 : decode prog_1_method_1_code 35 = .ok (.new 29, 3) := by decide +kernel
theorem tf_d11_38 : decode prog_1_method_1_code 38 = .ok (.dup, 1) := by decide +kernel
theorem tf_d11_39 : decode prog_1_method_1_code 39 = .ok (.invokespecial 31, 3) := by decide +kernel
theorem tf_d11_42 : decode prog_1_method_1_code 42 = .ok (.putfield 32, 3) := by decide +kernel
theorem tf_d11_45 : decode prog_1_method_1_code 45 = .ok (.aload_n 0, 1) := by decide +kernel
theorem tf_d11_46 : decode prog_1_method_1_code 46 = .ok (.new 36, 3) := by decide +kernel
theorem tf_d11_49 : decode prog_1_method_1_code 49 = .ok (.dup, 1) := by decide +kernel
theorem tf_d11_50 : decode prog_1_method_1_code 50 = .ok (.invokespecial 38, 3) := by decide +kernel
theorem tf_d11_53 : decode prog_1_method_1_code 53 = .ok (.putfield 39, 3) := by decide +kernel
theorem tf_d11_56 : decode prog_1_method_1_code 56 = .ok (.aload_n 0, 1) := by decide +kernel
theorem tf_d11_57 : decode prog_1_method_1_code 57 = .ok (.new 43, 3) := by decide +kernel
theorem tf_d11_60 : decode prog_1_method_1_code 60 = .ok (.dup, 1) := by decide +kernel
theorem tf_d11_61 : decode prog_1_method_1_code 61 = .ok (.invokespecial 45, 3) := by decide +kernel
theorem tf_d11_64 : decode prog_1_method_1_code 64 = .ok (.putfield 46, 3) := by decide +kernel
theorem tf_d11_67 : decode prog_1_method_1_code 67 = .ok (.aload_n 0, 1) := by decide +kernel
theorem tf_d11_68 : decode prog_1_method_1_code 68 = .ok (.new 50, 3) := by decide +kernel
theorem tf_d11_71 : decode prog_1_method_1_code 71 = .ok (.dup, 1) := by decide +kernel
theorem tf_d11_72 : decode prog_1_method_1_code 72 = .ok (.invokespecial 52, 3) := by decide +kernel
theorem tf_d11_75 : decode prog_1_method_1_code 75 = .ok (.putfield 53, 3) := by decide +kernel
theorem tf_d11_78 : decode prog_1_method_1_code 78 = .ok (.aload_n 0, 1) := by decide +kernel
theorem tf_d11_79 : decode prog_1_method_1_code 79 = .ok (.new 57, 3) := by decide +kernel
theorem tf_d11_82 : decode prog_1_method_1_code 82 = .ok (.dup, 1) := by decide +kernel
theorem tf_d11_83 : decode prog_1_method_1_code 83 = .ok (.invokespecial 59, 3) := by decide +kernel
theorem tf_d11_86 : decode prog_1_method_1_code 86 = .ok (.putfield 60, 3) := by decide +kernel
theorem tf_d11_89 : decode prog_1_method_1_code 89 = .ok (.aload_n 0, 1) := by decide +kernel
theorem tf_d11_90 : decode prog_1_method_1_code 90 = .ok (.new 64, 3) := by decide +kernel
theorem tf_d11_93 : decode prog_1_method_1_code 93 = .ok (.dup, 1) := by decide +kernel
theorem tf_d11_94 : decode prog_1_method_1_code 94 = .ok (.invokespecial 66, 3) := by decide +kernel
theorem tf_d11_97 : decode prog_1_method_1_code 97 = .ok (.putfield 67, 3) := by decide +kernel
theorem tf_d11_100 : decode prog_1_method_1_code 100 = .ok (.aload_n 0, 1) := by decide +kernel
theorem tf_d11_101 : decode prog_1_method_1_code 101 = .ok (.iconst (-1), 1) := by decide +kernel
theorem tf_d11_102 : decode prog_1_method_1_code 102 = .ok (.putfield 71, 3) := by decide +kernel
theorem tf_d11_105 : decode prog_1_method_1_code 105 = .ok (.iconst 0, 1) := by decide +kernel
theorem tf_d11_106 : decode prog_1_method_1_code 106 = .ok (.istore_n 1, 1) := by decide +kernel
theorem tf_d11_107 : decode prog_1_method_1_code 107 = .ok (.iload_n 1, 1) := by decide +kernel
theorem tf_d11_108 : decode prog_1_method_1_code 108 = .ok (.aload_n 0, 1) := by decide +kernel
theorem tf_d11_109 : decode prog_1_method_1_code 109 = .ok (.getfield 25, 3) := by decide +kernel
theorem tf_d11_112 : decode prog_1_method_1_code 112 = .ok (.arraylength, 1) := by decide +kernel
theorem tf_d11_113 : decode prog_1_method_1_code 113 = .ok (.if_icmp .ge 22, 3) := by decide +kernel
theorem tf_d11_116 : decode prog_1_method_1_code 116 = .ok (.aload_n 0, 1) := by decide +kernel
theorem tf_d11_117 : decode prog_1_method_1_code 117 = .ok (.getfield 25, 3) := by decide +kernel
theorem tf_d11_120 : decode prog_1_method_1_code 120 = .ok (.iload_n 1, 1) := by decide +kernel
theorem tf_d11_121 : decode prog_1_method_1_code 121 = .ok (.new 23, 3) := by decide +kernel
theorem tf_d11_124 : decode prog_1_method_1_code 124 = .ok (.dup, 1) := by decide +kernel
theorem tf_d11_125 : decode prog_1_method_1_code 125 = .ok (.invokespecial 75, 3) := by decide +kernel
theorem tf_d11_128 : decode prog_1_method_1_code 128 = .ok (.aastore, 1) := by decide +kernel
theorem tf_d11_129 : decode prog_1_method_1_code 129 = .ok (.iinc 1 1, 3) := by decide +kernel
theorem tf_d11_132 : decode prog_1_method_1_code 132 = .ok (.goto (-25), 3) := by decide +kernel
theorem tf_d11_135 : decode prog_1_method_1_code 135 = .ok (.return_, 1) := by decide +kernel
def tf_W0 (cT : Nat → ClassId) (h0 : Nat) (u : Nat → Nat) : va_W := (h0, .inr (0, [.ref (u 0), .ref (u 1), .ref (u 2), .int 0, .int 0])) :: [(u 0, tf_ar cT 0 30), (u 1, tf_ar cT 0 30), (u 2, tf_ar cT 0 30)]
set_option maxRecDepth 100000 in
set_option maxHeartbeats 16000000 in
theorem tf_c0 (l : Launch) (D : va_G) (cT : Nat → ClassId) (cS : ClassId) : tf_Ctor l D cT cS tf_y0 prog_2_method_1_code 1 { frames := 1, cells := 3, slots := 90, locals := 12 } 0 [.null, .null, .null, .int 0, .int 0] (tf_W0 cT) := by
  intro h0 sz
  refine Met.ofW (cc := prog_2_method_1_code) (maxL := 1) (ret := none) (by decide) rfl ?_
  intro p e s m args below meth c s₁ B hml hv
  obtain ⟨rfl, hsz, hP, hK, hD0, hN⟩ := hv
  have hx := B.exec
  have hb := B.bytes
  have hr := B.returns
  have hts0 := atoms_spec (ws := Cond.code tf_y0 prog_2_method_1_code 1 none :: tb_gt) B.pre
  have hts : ∀ w ∈ tb_gt, w.before _ s = true := fun w h => hts0 w (List.mem_cons_of_mem _ h)
  have hown : s.vm.findClass (tb_ci 0).1 = some m.cls := findClass_of_methodNamed B.named
  have hlocks := B.notSynchronized
  have hin : meth.name = "<init>" := (name_of_methodNamed B.named B.method).1
  subst hsz
  have hD := hD0.self (sz := s.heap.size)
  generalize hAe : va_A [(h0, (.inr (0, [.null, .null, .null, .int 0, .int 0]) : va_E))] s.heap.size = A at hD ⊢
  have hA : ∀ q : Nat, s.heap.size ≤ q → A q := fun q h => by rw [← hAe]; exact Or.inr h
  have hS : va_S A s.heap s.heap [] := va_S.rf
  have hl := lv_entry ([.ref h0]) (n := 1) (Nat.le_of_ble_eq_true rfl)
  rw [lg_entry_eq]
  generalize (lg_sl ([.ref h0]) ++ List.replicate (1 - (lg_sl ([.ref h0])).length) Slot.unset).toArray = ls at hl ⊢
  have hl : lv_has ls 1 [(0, .ref h0)] := hl
  refine lv_aload_n hx hb tf_d0_0 rfl (lv_at hl 0 rfl) ?_
  refine W.objInit hx hb hown (hts _ tf_w0) (hts _ tf_w1) (hts _ tf_w2) rfl (by rw [hml]; exact hl.1) rfl tf_d0_1 (Nat.le_of_ble_eq_true rfl) (Nat.le_of_ble_eq_true rfl) ?_
  refine W.eq (g2 := F0 m 4 ls []) rfl ?_
  have hP : va_P D tb_cl ((h0, .inr (0, [.null, .null, .null, .int 0, .int 0])) :: []) s.heap := hP
  have hD : va_D A ((h0, .inr (0, [.null, .null, .null, .int 0, .int 0])) :: []) := hD
  refine tf_fld (k := 0) (i := 9) (t := 0) (N := 30) (n := 30) (te := .int) hx hb hts hin hown hK hA hl hP hD hS (by decide) (by decide +kernel) tf_w3 tf_w4 (by decide +kernel) (by decide +kernel) (Nat.le_of_ble_eq_true rfl) (Nat.le_of_ble_eq_true rfl) (Nat.le_of_ble_eq_true rfl) (Nat.le_of_ble_eq_true rfl) tf_d0_4 (fun k => lv_bipush (v := 30) hx hb tf_d0_5 (by decide +kernel) k) tf_d0_7 tf_d0_9 (fun q4 H locs hP hD hS => ?_)
  have hP : va_P D tb_cl ((h0, .inr (0, [.ref q4, .null, .null, .int 0, .int 0])) :: [(q4, tf_ar cT 0 30)]) H := hP
  have hD : va_D A ((h0, .inr (0, [.ref q4, .null, .null, .int 0, .int 0])) :: [(q4, tf_ar cT 0 30)]) := hD
  refine tf_fld (k := 1) (i := 13) (t := 0) (N := 30) (n := 30) (te := .int) hx hb hts hin hown hK hA hl hP hD hS (by decide) (by decide +kernel) tf_w3 tf_w5 (by decide +kernel) (by decide +kernel) (Nat.le_of_ble_eq_true rfl) (Nat.le_of_ble_eq_true rfl) (Nat.le_of_ble_eq_true rfl) (Nat.le_of_ble_eq_true rfl) tf_d0_12 (fun k => lv_bipush (v := 30) hx hb tf_d0_13 (by decide +kernel) k) tf_d0_15 tf_d0_17 (fun q12 H locs hP hD hS => ?_)
  have hP : va_P D tb_cl ((h0, .inr (0, [.ref q4, .ref q12, .null, .int 0, .int 0])) :: [(q4, tf_ar cT 0 30), (q12, tf_ar cT 0 30)]) H := hP
  have hD : va_D A ((h0, .inr (0, [.ref q4, .ref q12, .null, .int 0, .int 0])) :: [(q4, tf_ar cT 0 30), (q12, tf_ar cT 0 30)]) := hD
  refine tf_fld (k := 2) (i := 16) (t := 0) (N := 30) (n := 30) (te := .int) hx hb hts hin hown hK hA hl hP hD hS (by decide) (by decide +kernel) tf_w3 tf_w6 (by decide +kernel) (by decide +kernel) (Nat.le_of_ble_eq_true rfl) (Nat.le_of_ble_eq_true rfl) (Nat.le_of_ble_eq_true rfl) (Nat.le_of_ble_eq_true rfl) tf_d0_20 (fun k => lv_bipush (v := 30) hx hb tf_d0_21 (by decide +kernel) k) tf_d0_23 tf_d0_25 (fun q20 H locs hP hD hS => ?_)
  have hP : va_P D tb_cl ((h0, .inr (0, [.ref q4, .ref q12, .ref q20, .int 0, .int 0])) :: [(q4, tf_ar cT 0 30), (q12, tf_ar cT 0 30), (q20, tf_ar cT 0 30)]) H := hP
  have hD : va_D A ((h0, .inr (0, [.ref q4, .ref q12, .ref q20, .int 0, .int 0])) :: [(q4, tf_ar cT 0 30), (q12, tf_ar cT 0 30), (q20, tf_ar cT 0 30)]) := hD
  have hP9 : va_P D tb_cl (tf_W0 cT h0 (fun i => [q4, q12, q20].getD i 0)) H := hP
  have hD9 : va_D A (tf_W0 cT h0 (fun i => [q4, q12, q20].getD i 0)) := hD
  refine W.widen (k := 3) (n := 90) (Nat.le_of_ble_eq_true rfl) (Nat.le_of_ble_eq_true rfl) ?_
  exact W.vret hx hb hr (fun t ht hW => ⟨⟨(fun i => [q4, q12, q20].getD i 0), rfl, trivial, by rw [ht]; exact hP9, hD9⟩, hS.F ht⟩) hS.2.2 tf_d0_28
def tf_W1 (cT : Nat → ClassId) (h0 : Nat) (u : Nat → Nat) : va_W := (h0, .inr (1, [.ref (u 0), .ref (u 1), .ref (u 2), .ref (u 3), .int 0])) :: [(u 0, tf_ar cT 0 9), (u 1, tf_ar cT 0 432), (u 2, tf_ar cT 3 22), (u 3, tf_ar cT 0 22)]
set_option maxRecDepth 100000 in
set_option maxHeartbeats 16000000 in
theorem tf_c1 (l : Launch) (D : va_G) (cT : Nat → ClassId) (cS : ClassId) : tf_Ctor l D cT cS tf_y1 prog_3_method_1_code 1 { frames := 1, cells := 4, slots := 485, locals := 12 } 1 [.null, .null, .null, .null, .int 0] (tf_W1 cT) := by
  intro h0 sz
  refine Met.ofW (cc := prog_3_method_1_code) (maxL := 1) (ret := none) (by decide) rfl ?_
  intro p e s m args below meth c s₁ B hml hv
  obtain ⟨rfl, hsz, hP, hK, hD0, hN⟩ := hv
  have hx := B.exec
  have hb := B.bytes
  have hr := B.returns
  have hts0 := atoms_spec (ws := Cond.code tf_y1 prog_3_method_1_code 1 none :: tb_gt) B.pre
  have hts : ∀ w ∈ tb_gt, w.before _ s = true := fun w h => hts0 w (List.mem_cons_of_mem _ h)
  have hown : s.vm.findClass (tb_ci 1).1 = some m.cls := findClass_of_methodNamed B.named
  have hlocks := B.notSynchronized
  have hin : meth.name = "<init>" := (name_of_methodNamed B.named B.method).1
  subst hsz
  have hD := hD0.self (sz := s.heap.size)
  generalize hAe : va_A [(h0, (.inr (1, [.null, .null, .null, .null, .int 0]) : va_E))] s.heap.size = A at hD ⊢
  have hA : ∀ q : Nat, s.heap.size ≤ q → A q := fun q h => by rw [← hAe]; exact Or.inr h
  have hS : va_S A s.heap s.heap [] := va_S.rf
  have hl := lv_entry ([.ref h0]) (n := 1) (Nat.le_of_ble_eq_true rfl)
  rw [lg_entry_eq]
  generalize (lg_sl ([.ref h0]) ++ List.replicate (1 - (lg_sl ([.ref h0])).length) Slot.unset).toArray = ls at hl ⊢
  have hl : lv_has ls 1 [(0, .ref h0)] := hl
  refine lv_aload_n hx hb tf_d1_0 rfl (lv_at hl 0 rfl) ?_
  refine W.objInit hx hb hown (hts _ tf_w7) (hts _ tf_w1) (hts _ tf_w2) rfl (by rw [hml]; exact hl.1) rfl tf_d1_1 (Nat.le_of_ble_eq_true rfl) (Nat.le_of_ble_eq_true rfl) ?_
  refine W.eq (g2 := F0 m 4 ls []) rfl ?_
  have hP : va_P D tb_cl ((h0, .inr (1, [.null, .null, .null, .null, .int 0])) :: []) s.heap := hP
  have hD : va_D A ((h0, .inr (1, [.null, .null, .null, .null, .int 0])) :: []) := hD
  refine tf_fld (k := 0) (i := 11) (t := 0) (N := 9) (n := 9) (te := .int) hx hb hts hin hown hK hA hl hP hD hS (by decide) (by decide +kernel) tf_w3 tf_w8 (by decide +kernel) (by decide +kernel) (Nat.le_of_ble_eq_true rfl) (Nat.le_of_ble_eq_true rfl) (Nat.le_of_ble_eq_true rfl) (Nat.le_of_ble_eq_true rfl) tf_d1_4 (fun k => lv_bipush (v := 9) hx hb tf_d1_5 (by decide +kernel) k) tf_d1_7 tf_d1_9 (fun q4 H locs hP hD hS => ?_)
  have hP : va_P D tb_cl ((h0, .inr (1, [.ref q4, .null, .null, .null, .int 0])) :: [(q4, tf_ar cT 0 9)]) H := hP
  have hD : va_D A ((h0, .inr (1, [.ref q4, .null, .null, .null, .int 0])) :: [(q4, tf_ar cT 0 9)]) := hD
  refine tf_fld (k := 1) (i := 15) (t := 0) (N := 432) (n := 432) (te := .int) hx hb hts hin hown hK hA hl hP hD hS (by decide) (by decide +kernel) tf_w3 tf_w9 (by decide +kernel) (by decide +kernel) (Nat.le_of_ble_eq_true rfl) (Nat.le_of_ble_eq_true rfl) (Nat.le_of_ble_eq_true rfl) (Nat.le_of_ble_eq_true rfl) tf_d1_12 (fun k => lv_sipush (v := 432) hx hb tf_d1_13 (by decide +kernel) k) tf_d1_16 tf_d1_18 (fun q12 H locs hP hD hS => ?_)
  have hP : va_P D tb_cl ((h0, .inr (1, [.ref q4, .ref q12, .null, .null, .int 0])) :: [(q4, tf_ar cT 0 9), (q12, tf_ar cT 0 432)]) H := hP
  have hD : va_D A ((h0, .inr (1, [.ref q4, .ref q12, .null, .null, .int 0])) :: [(q4, tf_ar cT 0 9), (q12, tf_ar cT 0 432)]) := hD
  refine tf_fld (k := 2) (i := 18) (t := 3) (N := 22) (n := 22) (te := .long) hx hb hts hin hown hK hA hl hP hD hS (by decide) (by decide +kernel) tf_w10 tf_w11 (by decide +kernel) (by decide +kernel) (Nat.le_of_ble_eq_true rfl) (Nat.le_of_ble_eq_true rfl) (Nat.le_of_ble_eq_true rfl) (Nat.le_of_ble_eq_true rfl) tf_d1_21 (fun k => lv_bipush (v := 22) hx hb tf_d1_22 (by decide +kernel) k) tf_d1_24 tf_d1_26 (fun q21 H locs hP hD hS => ?_)
  have hP : va_P D tb_cl ((h0, .inr (1, [.ref q4, .ref q12, .ref q21, .null, .int 0])) :: [(q4, tf_ar cT 0 9), (q12, tf_ar cT 0 432), (q21, tf_ar cT 3 22)]) H := hP
  have hD : va_D A ((h0, .inr (1, [.ref q4, .ref q12, .ref q21, .null, .int 0])) :: [(q4, tf_ar cT 0 9), (q12, tf_ar cT 0 432), (q21, tf_ar cT 3 22)]) := hD
  refine tf_fld (k := 3) (i := 22) (t := 0) (N := 22) (n := 22) (te := .int) hx hb hts hin hown hK hA hl hP hD hS (by decide) (by decide +kernel) tf_w3 tf_w12 (by decide +kernel) (by decide +kernel) (Nat.le_of_ble_eq_true rfl) (Nat.le_of_ble_eq_true rfl) (Nat.le_of_ble_eq_true rfl) (Nat.le_of_ble_eq_true rfl) tf_d1_29 (fun k => lv_bipush (v := 22) hx hb tf_d1_30 (by decide +kernel) k) tf_d1_32 tf_d1_34 (fun q29 H locs hP hD hS => ?_)
  have hP : va_P D tb_cl ((h0, .inr (1, [.ref q4, .ref q12, .ref q21, .ref q29, .int 0])) :: [(q4, tf_ar cT 0 9), (q12, tf_ar cT 0 432), (q21, tf_ar cT 3 22), (q29, tf_ar cT 0 22)]) H := hP
  have hD : va_D A ((h0, .inr (1, [.ref q4, .ref q12, .ref q21, .ref q29, .int 0])) :: [(q4, tf_ar cT 0 9), (q12, tf_ar cT 0 432), (q21, tf_ar cT 3 22), (q29, tf_ar cT 0 22)]) := hD
  have hP9 : va_P D tb_cl (tf_W1 cT h0 (fun i => [q4, q12, q21, q29].getD i 0)) H := hP
  have hD9 : va_D A (tf_W1 cT h0 (fun i => [q4, q12, q21, q29].getD i 0)) := hD
  refine W.widen (k := 4) (n := 485) (Nat.le_of_ble_eq_true rfl) (Nat.le_of_ble_eq_true rfl) ?_
  exact W.vret hx hb hr (fun t ht hW => ⟨⟨(fun i => [q4, q12, q21, q29].getD i 0), rfl, trivial, by rw [ht]; exact hP9, hD9⟩, hS.F ht⟩) hS.2.2 tf_d1_37
def tf_W2 (cT : Nat → ClassId) (h0 : Nat) (u : Nat → Nat) : va_W := (h0, .inr (2, [.ref (u 0), .ref (u 1), .ref (u 2)])) :: [(u 0, tf_ar cT 0 10400), (u 1, tf_ar cT 0 10400), (u 2, tf_ar cT 0 100)]
set_option maxRecDepth 100000 in
set_option maxHeartbeats 16000000 in
theorem tf_c2 (l : Launch) (D : va_G) (cT : Nat → ClassId) (cS : ClassId) : tf_Ctor l D cT cS tf_y2 prog_4_method_1_code 1 { frames := 1, cells := 3, slots := 20900, locals := 12 } 2 [.null, .null, .null] (tf_W2 cT) := by
  intro h0 sz
  refine Met.ofW (cc := prog_4_method_1_code) (maxL := 1) (ret := none) (by decide) rfl ?_
  intro p e s m args below meth c s₁ B hml hv
  obtain ⟨rfl, hsz, hP, hK, hD0, hN⟩ := hv
  have hx := B.exec
  have hb := B.bytes
  have hr := B.returns
  have hts0 := atoms_spec (ws := Cond.code tf_y2 prog_4_method_1_code 1 none :: tb_gt) B.pre
  have hts : ∀ w ∈ tb_gt, w.before _ s = true := fun w h => hts0 w (List.mem_cons_of_mem _ h)
  have hown : s.vm.findClass (tb_ci 2).1 = some m.cls := findClass_of_methodNamed B.named
  have hlocks := B.notSynchronized
  have hin : meth.name = "<init>" := (name_of_methodNamed B.named B.method).1
  subst hsz
  have hD := hD0.self (sz := s.heap.size)
  generalize hAe : va_A [(h0, (.inr (2, [.null, .null, .null]) : va_E))] s.heap.size = A at hD ⊢
  have hA : ∀ q : Nat, s.heap.size ≤ q → A q := fun q h => by rw [← hAe]; exact Or.inr h
  have hS : va_S A s.heap s.heap [] := va_S.rf
  have hl := lv_entry ([.ref h0]) (n := 1) (Nat.le_of_ble_eq_true rfl)
  rw [lg_entry_eq]
  generalize (lg_sl ([.ref h0]) ++ List.replicate (1 - (lg_sl ([.ref h0])).length) Slot.unset).toArray = ls at hl ⊢
  have hl : lv_has ls 1 [(0, .ref h0)] := hl
  refine lv_aload_n hx hb tf_d2_0 rfl (lv_at hl 0 rfl) ?_
  refine W.objInit hx hb hown (hts _ tf_w13) (hts _ tf_w1) (hts _ tf_w2) rfl (by rw [hml]; exact hl.1) rfl tf_d2_1 (Nat.le_of_ble_eq_true rfl) (Nat.le_of_ble_eq_true rfl) ?_
  refine W.eq (g2 := F0 m 4 ls []) rfl ?_
  have hP : va_P D tb_cl ((h0, .inr (2, [.null, .null, .null])) :: []) s.heap := hP
  have hD : va_D A ((h0, .inr (2, [.null, .null, .null])) :: []) := hD
  refine tf_fld (k := 0) (i := 13) (t := 0) (N := 10400) (n := 10400) (te := .int) hx hb hts hin hown hK hA hl hP hD hS (by decide) (by decide +kernel) tf_w3 tf_w14 (by decide +kernel) (by decide +kernel) (Nat.le_of_ble_eq_true rfl) (Nat.le_of_ble_eq_true rfl) (Nat.le_of_ble_eq_true rfl) (Nat.le_of_ble_eq_true rfl) tf_d2_4 (fun k => lv_sipush (v := 10400) hx hb tf_d2_5 (by decide +kernel) k) tf_d2_8 tf_d2_10 (fun q4 H locs hP hD hS => ?_)
  have hP : va_P D tb_cl ((h0, .inr (2, [.ref q4, .null, .null])) :: [(q4, tf_ar cT 0 10400)]) H := hP
  have hD : va_D A ((h0, .inr (2, [.ref q4, .null, .null])) :: [(q4, tf_ar cT 0 10400)]) := hD
  refine tf_fld (k := 1) (i := 17) (t := 0) (N := 10400) (n := 10400) (te := .int) hx hb hts hin hown hK hA hl hP hD hS (by decide) (by decide +kernel) tf_w3 tf_w15 (by decide +kernel) (by decide +kernel) (Nat.le_of_ble_eq_true rfl) (Nat.le_of_ble_eq_true rfl) (Nat.le_of_ble_eq_true rfl) (Nat.le_of_ble_eq_true rfl) tf_d2_13 (fun k => lv_sipush (v := 10400) hx hb tf_d2_14 (by decide +kernel) k) tf_d2_17 tf_d2_19 (fun q13 H locs hP hD hS => ?_)
  have hP : va_P D tb_cl ((h0, .inr (2, [.ref q4, .ref q13, .null])) :: [(q4, tf_ar cT 0 10400), (q13, tf_ar cT 0 10400)]) H := hP
  have hD : va_D A ((h0, .inr (2, [.ref q4, .ref q13, .null])) :: [(q4, tf_ar cT 0 10400), (q13, tf_ar cT 0 10400)]) := hD
  refine tf_fld (k := 2) (i := 20) (t := 0) (N := 100) (n := 100) (te := .int) hx hb hts hin hown hK hA hl hP hD hS (by decide) (by decide +kernel) tf_w3 tf_w16 (by decide +kernel) (by decide +kernel) (Nat.le_of_ble_eq_true rfl) (Nat.le_of_ble_eq_true rfl) (Nat.le_of_ble_eq_true rfl) (Nat.le_of_ble_eq_true rfl) tf_d2_22 (fun k => lv_bipush (v := 100) hx hb tf_d2_23 (by decide +kernel) k) tf_d2_25 tf_d2_27 (fun q22 H locs hP hD hS => ?_)
  have hP : va_P D tb_cl ((h0, .inr (2, [.ref q4, .ref q13, .ref q22])) :: [(q4, tf_ar cT 0 10400), (q13, tf_ar cT 0 10400), (q22, tf_ar cT 0 100)]) H := hP
  have hD : va_D A ((h0, .inr (2, [.ref q4, .ref q13, .ref q22])) :: [(q4, tf_ar cT 0 10400), (q13, tf_ar cT 0 10400), (q22, tf_ar cT 0 100)]) := hD
  have hP9 : va_P D tb_cl (tf_W2 cT h0 (fun i => [q4, q13, q22].getD i 0)) H := hP
  have hD9 : va_D A (tf_W2 cT h0 (fun i => [q4, q13, q22].getD i 0)) := hD
  refine W.widen (k := 3) (n := 20900) (Nat.le_of_ble_eq_true rfl) (Nat.le_of_ble_eq_true rfl) ?_
  exact W.vret hx hb hr (fun t ht hW => ⟨⟨(fun i => [q4, q13, q22].getD i 0), rfl, trivial, by rw [ht]; exact hP9, hD9⟩, hS.F ht⟩) hS.2.2 tf_d2_30
def tf_W3 (cT : Nat → ClassId) (h0 : Nat) (u : Nat → Nat) : va_W := (h0, .inr (3, [.ref (u 0), .ref (u 1), .ref (u 2), .ref (u 3), .ref (u 4), .int 0])) :: [(u 0, tf_ar cT 0 800), (u 1, tf_ar cT 0 800), (u 2, tf_ar cT 0 800), (u 3, tf_ar cT 0 800), (u 4, tf_ar cT 0 40)]
set_option maxRecDepth 100000 in
set_option maxHeartbeats 16000000 in
theorem tf_c3 (l : Launch) (D : va_G) (cT : Nat → ClassId) (cS : ClassId) : tf_Ctor l D cT cS tf_y3 prog_5_method_1_code 1 { frames := 1, cells := 5, slots := 3240, locals := 12 } 3 [.null, .null, .null, .null, .null, .int 0] (tf_W3 cT) := by
  intro h0 sz
  refine Met.ofW (cc := prog_5_method_1_code) (maxL := 1) (ret := none) (by decide) rfl ?_
  intro p e s m args below meth c s₁ B hml hv
  obtain ⟨rfl, hsz, hP, hK, hD0, hN⟩ := hv
  have hx := B.exec
  have hb := B.bytes
  have hr := B.returns
  have hts0 := atoms_spec (ws := Cond.code tf_y3 prog_5_method_1_code 1 none :: tb_gt) B.pre
  have hts : ∀ w ∈ tb_gt, w.before _ s = true := fun w h => hts0 w (List.mem_cons_of_mem _ h)
  have hown : s.vm.findClass (tb_ci 3).1 = some m.cls := findClass_of_methodNamed B.named
  have hlocks := B.notSynchronized
  have hin : meth.name = "<init>" := (name_of_methodNamed B.named B.method).1
  subst hsz
  have hD := hD0.self (sz := s.heap.size)
  generalize hAe : va_A [(h0, (.inr (3, [.null, .null, .null, .null, .null, .int 0]) : va_E))] s.heap.size = A at hD ⊢
  have hA : ∀ q : Nat, s.heap.size ≤ q → A q := fun q h => by rw [← hAe]; exact Or.inr h
  have hS : va_S A s.heap s.heap [] := va_S.rf
  have hl := lv_entry ([.ref h0]) (n := 1) (Nat.le_of_ble_eq_true rfl)
  rw [lg_entry_eq]
  generalize (lg_sl ([.ref h0]) ++ List.replicate (1 - (lg_sl ([.ref h0])).length) Slot.unset).toArray = ls at hl ⊢
  have hl : lv_has ls 1 [(0, .ref h0)] := hl
  refine lv_aload_n hx hb tf_d3_0 rfl (lv_at hl 0 rfl) ?_
  refine W.objInit hx hb hown (hts _ tf_w17) (hts _ tf_w1) (hts _ tf_w2) rfl (by rw [hml]; exact hl.1) rfl tf_d3_1 (Nat.le_of_ble_eq_true rfl) (Nat.le_of_ble_eq_true rfl) ?_
  refine W.eq (g2 := F0 m 4 ls []) rfl ?_
  have hP : va_P D tb_cl ((h0, .inr (3, [.null, .null, .null, .null, .null, .int 0])) :: []) s.heap := hP
  have hD : va_D A ((h0, .inr (3, [.null, .null, .null, .null, .null, .int 0])) :: []) := hD
  refine tf_fld (k := 0) (i := 11) (t := 0) (N := 800) (n := 800) (te := .int) hx hb hts hin hown hK hA hl hP hD hS (by decide) (by decide +kernel) tf_w3 tf_w18 (by decide +kernel) (by decide +kernel) (Nat.le_of_ble_eq_true rfl) (Nat.le_of_ble_eq_true rfl) (Nat.le_of_ble_eq_true rfl) (Nat.le_of_ble_eq_true rfl) tf_d3_4 (fun k => lv_sipush (v := 800) hx hb tf_d3_5 (by decide +kernel) k) tf_d3_8 tf_d3_10 (fun q4 H locs hP hD hS => ?_)
  have hP : va_P D tb_cl ((h0, .inr (3, [.ref q4, .null, .null, .null, .null, .int 0])) :: [(q4, tf_ar cT 0 800)]) H := hP
  have hD : va_D A ((h0, .inr (3, [.ref q4, .null, .null, .null, .null, .int 0])) :: [(q4, tf_ar cT 0 800)]) := hD
  refine tf_fld (k := 1) (i := 17) (t := 0) (N := 800) (n := 800) (te := .int) hx hb hts hin hown hK hA hl hP hD hS (by decide) (by decide +kernel) tf_w3 tf_w19 (by decide +kernel) (by decide +kernel) (Nat.le_of_ble_eq_true rfl) (Nat.le_of_ble_eq_true rfl) (Nat.le_of_ble_eq_true rfl) (Nat.le_of_ble_eq_true rfl) tf_d3_13 (fun k => lv_sipush (v := 800) hx hb tf_d3_14 (by decide +kernel) k) tf_d3_17 tf_d3_19 (fun q13 H locs hP hD hS => ?_)
  have hP : va_P D tb_cl ((h0, .inr (3, [.ref q4, .ref q13, .null, .null, .null, .int 0])) :: [(q4, tf_ar cT 0 800), (q13, tf_ar cT 0 800)]) H := hP
  have hD : va_D A ((h0, .inr (3, [.ref q4, .ref q13, .null, .null, .null, .int 0])) :: [(q4, tf_ar cT 0 800), (q13, tf_ar cT 0 800)]) := hD
  refine tf_fld (k := 2) (i := 20) (t := 0) (N := 800) (n := 800) (te := .int) hx hb hts hin hown hK hA hl hP hD hS (by decide) (by decide +kernel) tf_w3 tf_w20 (by decide +kernel) (by decide +kernel) (Nat.le_of_ble_eq_true rfl) (Nat.le_of_ble_eq_true rfl) (Nat.le_of_ble_eq_true rfl) (Nat.le_of_ble_eq_true rfl) tf_d3_22 (fun k => lv_sipush (v := 800) hx hb tf_d3_23 (by decide +kernel) k) tf_d3_26 tf_d3_28 (fun q22 H locs hP hD hS => ?_)
  have hP : va_P D tb_cl ((h0, .inr (3, [.ref q4, .ref q13, .ref q22, .null, .null, .int 0])) :: [(q4, tf_ar cT 0 800), (q13, tf_ar cT 0 800), (q22, tf_ar cT 0 800)]) H := hP
  have hD : va_D A ((h0, .inr (3, [.ref q4, .ref q13, .ref q22, .null, .null, .int 0])) :: [(q4, tf_ar cT 0 800), (q13, tf_ar cT 0 800), (q22, tf_ar cT 0 800)]) := hD
  refine tf_fld (k := 3) (i := 23) (t := 0) (N := 800) (n := 800) (te := .int) hx hb hts hin hown hK hA hl hP hD hS (by decide) (by decide +kernel) tf_w3 tf_w21 (by decide +kernel) (by decide +kernel) (Nat.le_of_ble_eq_true rfl) (Nat.le_of_ble_eq_true rfl) (Nat.le_of_ble_eq_true rfl) (Nat.le_of_ble_eq_true rfl) tf_d3_31 (fun k => lv_sipush (v := 800) hx hb tf_d3_32 (by decide +kernel) k) tf_d3_35 tf_d3_37 (fun q31 H locs hP hD hS => ?_)
  have hP : va_P D tb_cl ((h0, .inr (3, [.ref q4, .ref q13, .ref q22, .ref q31, .null, .int 0])) :: [(q4, tf_ar cT 0 800), (q13, tf_ar cT 0 800), (q22, tf_ar cT 0 800), (q31, tf_ar cT 0 800)]) H := hP
  have hD : va_D A ((h0, .inr (3, [.ref q4, .ref q13, .ref q22, .ref q31, .null, .int 0])) :: [(q4, tf_ar cT 0 800), (q13, tf_ar cT 0 800), (q22, tf_ar cT 0 800), (q31, tf_ar cT 0 800)]) := hD
  refine tf_fld (k := 4) (i := 26) (t := 0) (N := 40) (n := 40) (te := .int) hx hb hts hin hown hK hA hl hP hD hS (by decide) (by decide +kernel) tf_w3 tf_w22 (by decide +kernel) (by decide +kernel) (Nat.le_of_ble_eq_true rfl) (Nat.le_of_ble_eq_true rfl) (Nat.le_of_ble_eq_true rfl) (Nat.le_of_ble_eq_true rfl) tf_d3_40 (fun k => lv_bipush (v := 40) hx hb tf_d3_41 (by decide +kernel) k) tf_d3_43 tf_d3_45 (fun q40 H locs hP hD hS => ?_)
  have hP : va_P D tb_cl ((h0, .inr (3, [.ref q4, .ref q13, .ref q22, .ref q31, .ref q40, .int 0])) :: [(q4, tf_ar cT 0 800), (q13, tf_ar cT 0 800), (q22, tf_ar cT 0 800), (q31, tf_ar cT 0 800), (q40, tf_ar cT 0 40)]) H := hP
  have hD : va_D A ((h0, .inr (3, [.ref q4, .ref q13, .ref q22, .ref q31, .ref q40, .int 0])) :: [(q4, tf_ar cT 0 800), (q13, tf_ar cT 0 800), (q22, tf_ar cT 0 800), (q31, tf_ar cT 0 800), (q40, tf_ar cT 0 40)]) := hD
  have hP9 : va_P D tb_cl (tf_W3 cT h0 (fun i => [q4, q13, q22, q31, q40].getD i 0)) H := hP
  have hD9 : va_D A (tf_W3 cT h0 (fun i => [q4, q13, q22, q31, q40].getD i 0)) := hD
  refine W.widen (k := 5) (n := 3240) (Nat.le_of_ble_eq_true rfl) (Nat.le_of_ble_eq_true rfl) ?_
  exact W.vret hx hb hr (fun t ht hW => ⟨⟨(fun i => [q4, q13, q22, q31, q40].getD i 0), rfl, trivial, by rw [ht]; exact hP9, hD9⟩, hS.F ht⟩) hS.2.2 tf_d3_48
def tf_W5 (cT : Nat → ClassId) (h0 : Nat) (u : Nat → Nat) : va_W := (h0, .inr (5, [.ref (u 0), .ref (u 1), .ref (u 2), .ref (u 3), .ref (u 4), .ref (u 5), .ref (u 6), .ref (u 7), .ref (u 8), .ref (u 9), .int 0, .int 0, .int 0])) :: [(u 0, tf_ar cT 0 4), (u 1, tf_ar cT 0 4), (u 2, tf_ar cT 0 4), (u 3, tf_ar cT 0 4), (u 4, tf_ar cT 0 8), (u 5, tf_ar cT 0 8), (u 6, tf_ar cT 0 8), (u 7, tf_ar cT 0 8), (u 8, tf_ar cT 0 8), (u 9, tf_ar cT 0 9)]
set_option maxRecDepth 100000 in
set_option maxHeartbeats 16000000 in
theorem tf_c5 (l : Launch) (D : va_G) (cT : Nat → ClassId) (cS : ClassId) : tf_Ctor l D cT cS tf_y5 prog_7_method_1_code 1 { frames := 1, cells := 10, slots := 65, locals := 12 } 5 [.null, .null, .null, .null, .null, .null, .null, .null, .null, .null, .int 0, .int 0, .int 0] (tf_W5 cT) := by
  intro h0 sz
  refine Met.ofW (cc := prog_7_method_1_code) (maxL := 1) (ret := none) (by decide) rfl ?_
  intro p e s m args below meth c s₁ B hml hv
  obtain ⟨rfl, hsz, hP, hK, hD0, hN⟩ := hv
  have hx := B.exec
  have hb := B.bytes
  have hr := B.returns
  have hts0 := atoms_spec (ws := Cond.code tf_y5 prog_7_method_1_code 1 none :: tb_gt) B.pre
  have hts : ∀ w ∈ tb_gt, w.before _ s = true := fun w h => hts0 w (List.mem_cons_of_mem _ h)
  have hown : s.vm.findClass (tb_ci 5).1 = some m.cls := findClass_of_methodNamed B.named
  have hlocks := B.notSynchronized
  have hin : meth.name = "<init>" := (name_of_methodNamed B.named B.method).1
  subst hsz
  have hD := hD0.self (sz := s.heap.size)
  generalize hAe : va_A [(h0, (.inr (5, [.null, .null, .null, .null, .null, .null, .null, .null, .null, .null, .int 0, .int 0, .int 0]) : va_E))] s.heap.size = A at hD ⊢
  have hA : ∀ q : Nat, s.heap.size ≤ q → A q := fun q h => by rw [← hAe]; exact Or.inr h
  have hS : va_S A s.heap s.heap [] := va_S.rf
  have hl := lv_entry ([.ref h0]) (n := 1) (Nat.le_of_ble_eq_true rfl)
  rw [lg_entry_eq]
  generalize (lg_sl ([.ref h0]) ++ List.replicate (1 - (lg_sl ([.ref h0])).length) Slot.unset).toArray = ls at hl ⊢
  have hl : lv_has ls 1 [(0, .ref h0)] := hl
  refine lv_aload_n hx hb tf_d5_0 rfl (lv_at hl 0 rfl) ?_
  refine W.objInit hx hb hown (hts _ tf_w23) (hts _ tf_w1) (hts _ tf_w2) rfl (by rw [hml]; exact hl.1) rfl tf_d5_1 (Nat.le_of_ble_eq_true rfl) (Nat.le_of_ble_eq_true rfl) ?_
  refine W.eq (g2 := F0 m 4 ls []) rfl ?_
  have hP : va_P D tb_cl ((h0, .inr (5, [.null, .null, .null, .null, .null, .null, .null, .null, .null, .null, .int 0, .int 0, .int 0])) :: []) s.heap := hP
  have hD : va_D A ((h0, .inr (5, [.null, .null, .null, .null, .null, .null, .null, .null, .null, .null, .int 0, .int 0, .int 0])) :: []) := hD
  refine tf_fld (k := 0) (i := 11) (t := 0) (N := 4) (n := 4) (te := .int) hx hb hts hin hown hK hA hl hP hD hS (by decide) (by decide +kernel) tf_w3 tf_w24 (by decide +kernel) (by decide +kernel) (Nat.le_of_ble_eq_true rfl) (Nat.le_of_ble_eq_true rfl) (Nat.le_of_ble_eq_true rfl) (Nat.le_of_ble_eq_true rfl) tf_d5_4 (fun k => lv_iconst (v := 4) hx hb tf_d5_5 (by decide +kernel) k) tf_d5_6 tf_d5_8 (fun q4 H locs hP hD hS => ?_)
  have hP : va_P D tb_cl ((h0, .inr (5, [.ref q4, .null, .null, .null, .null, .null, .null, .null, .null, .null, .int 0, .int 0, .int 0])) :: [(q4, tf_ar cT 0 4)]) H := hP
  have hD : va_D A ((h0, .inr (5, [.ref q4, .null, .null, .null, .null, .null, .null, .null, .null, .null, .int 0, .int 0, .int 0])) :: [(q4, tf_ar cT 0 4)]) := hD
  refine tf_fld (k := 1) (i := 15) (t := 0) (N := 4) (n := 4) (te := .int) hx hb hts hin hown hK hA hl hP hD hS (by decide) (by decide +kernel) tf_w3 tf_w25 (by decide +kernel) (by decide +kernel) (Nat.le_of_ble_eq_true rfl) (Nat.le_of_ble_eq_true rfl) (Nat.le_of_ble_eq_true rfl) (Nat.le_of_ble_eq_true rfl) tf_d5_11 (fun k => lv_iconst (v := 4) hx hb tf_d5_12 (by decide +kernel) k) tf_d5_13 tf_d5_15 (fun q11 H locs hP hD hS => ?_)
  have hP : va_P D tb_cl ((h0, .inr (5, [.ref q4, .ref q11, .null, .null, .null, .null, .null, .null, .null, .null, .int 0, .int 0, .int 0])) :: [(q4, tf_ar cT 0 4), (q11, tf_ar cT 0 4)]) H := hP
  have hD : va_D A ((h0, .inr (5, [.ref q4, .ref q11, .null, .null, .null, .null, .null, .null, .null, .null, .int 0, .int 0, .int 0])) :: [(q4, tf_ar cT 0 4), (q11, tf_ar cT 0 4)]) := hD
  refine tf_fld (k := 2) (i := 18) (t := 0) (N := 4) (n := 4) (te := .int) hx hb hts hin hown hK hA hl hP hD hS (by decide) (by decide +kernel) tf_w3 tf_w26 (by decide +kernel) (by decide +kernel) (Nat.le_of_ble_eq_true rfl) (Nat.le_of_ble_eq_true rfl) (Nat.le_of_ble_eq_true rfl) (Nat.le_of_ble_eq_true rfl) tf_d5_18 (fun k => lv_iconst (v := 4) hx hb tf_d5_19 (by decide +kernel) k) tf_d5_20 tf_d5_22 (fun q18 H locs hP hD hS => ?_)
  have hP : va_P D tb_cl ((h0, .inr (5, [.ref q4, .ref q11, .ref q18, .null, .null, .null, .null, .null, .null, .null, .int 0, .int 0, .int 0])) :: [(q4, tf_ar cT 0 4), (q11, tf_ar cT 0 4), (q18, tf_ar cT 0 4)]) H := hP
  have hD : va_D A ((h0, .inr (5, [.ref q4, .ref q11, .ref q18, .null, .null, .null, .null, .null, .null, .null, .int 0, .int 0, .int 0])) :: [(q4, tf_ar cT 0 4), (q11, tf_ar cT 0 4), (q18, tf_ar cT 0 4)]) := hD
  refine tf_fld (k := 3) (i := 21) (t := 0) (N := 4) (n := 4) (te := .int) hx hb hts hin hown hK hA hl hP hD hS (by decide) (by decide +kernel) tf_w3 tf_w27 (by decide +kernel) (by decide +kernel) (Nat.le_of_ble_eq_true rfl) (Nat.le_of_ble_eq_true rfl) (Nat.le_of_ble_eq_true rfl) (Nat.le_of_ble_eq_true rfl) tf_d5_25 (fun k => lv_iconst (v := 4) hx hb tf_d5_26 (by decide +kernel) k) tf_d5_27 tf_d5_29 (fun q25 H locs hP hD hS => ?_)
  have hP : va_P D tb_cl ((h0, .inr (5, [.ref q4, .ref q11, .ref q18, .ref q25, .null, .null, .null, .null, .null, .null, .int 0, .int 0, .int 0])) :: [(q4, tf_ar cT 0 4), (q11, tf_ar cT 0 4), (q18, tf_ar cT 0 4), (q25, tf_ar cT 0 4)]) H := hP
  have hD : va_D A ((h0, .inr (5, [.ref q4, .ref q11, .ref q18, .ref q25, .null, .null, .null, .null, .null, .null, .int 0, .int 0, .int 0])) :: [(q4, tf_ar cT 0 4), (q11, tf_ar cT 0 4), (q18, tf_ar cT 0 4), (q25, tf_ar cT 0 4)]) := hD
  refine tf_fld (k := 4) (i := 24) (t := 0) (N := 8) (n := 8) (te := .int) hx hb hts hin hown hK hA hl hP hD hS (by decide) (by decide +kernel) tf_w3 tf_w28 (by decide +kernel) (by decide +kernel) (Nat.le_of_ble_eq_true rfl) (Nat.le_of_ble_eq_true rfl) (Nat.le_of_ble_eq_true rfl) (Nat.le_of_ble_eq_true rfl) tf_d5_32 (fun k => lv_bipush (v := 8) hx hb tf_d5_33 (by decide +kernel) k) tf_d5_35 tf_d5_37 (fun q32 H locs hP hD hS => ?_)
  have hP : va_P D tb_cl ((h0, .inr (5, [.ref q4, .ref q11, .ref q18, .ref q25, .ref q32, .null, .null, .null, .null, .null, .int 0, .int 0, .int 0])) :: [(q4, tf_ar cT 0 4), (q11, tf_ar cT 0 4), (q18, tf_ar cT 0 4), (q25, tf_ar cT 0 4), (q32, tf_ar cT 0 8)]) H := hP
  have hD : va_D A ((h0, .inr (5, [.ref q4, .ref q11, .ref q18, .ref q25, .ref q32, .null, .null, .null, .null, .null, .int 0, .int 0, .int 0])) :: [(q4, tf_ar cT 0 4), (q11, tf_ar cT 0 4), (q18, tf_ar cT 0 4), (q25, tf_ar cT 0 4), (q32, tf_ar cT 0 8)]) := hD
  refine tf_fld (k := 5) (i := 27) (t := 0) (N := 8) (n := 8) (te := .int) hx hb hts hin hown hK hA hl hP hD hS (by decide) (by decide +kernel) tf_w3 tf_w29 (by decide +kernel) (by decide +kernel) (Nat.le_of_ble_eq_true rfl) (Nat.le_of_ble_eq_true rfl) (Nat.le_of_ble_eq_true rfl) (Nat.le_of_ble_eq_true rfl) tf_d5_40 (fun k => lv_bipush (v := 8) hx hb tf_d5_41 (by decide +kernel) k) tf_d5_43 tf_d5_45 (fun q40 H locs hP hD hS => ?_)
  have hP : va_P D tb_cl ((h0, .inr (5, [.ref q4, .ref q11, .ref q18, .ref q25, .ref q32, .ref q40, .null, .null, .null, .null, .int 0, .int 0, .int 0])) :: [(q4, tf_ar cT 0 4), (q11, tf_ar cT 0 4), (q18, tf_ar cT 0 4), (q25, tf_ar cT 0 4), (q32, tf_ar cT 0 8), (q40, tf_ar cT 0 8)]) H := hP
  have hD : va_D A ((h0, .inr (5, [.ref q4, .ref q11, .ref q18, .ref q25, .ref q32, .ref q40, .null, .null, .null, .null, .int 0, .int 0, .int 0])) :: [(q4, tf_ar cT 0 4), (q11, tf_ar cT 0 4), (q18, tf_ar cT 0 4), (q25, tf_ar cT 0 4), (q32, tf_ar cT 0 8), (q40, tf_ar cT 0 8)]) := hD
  refine tf_fld (k := 6) (i := 30) (t := 0) (N := 8) (n := 8) (te := .int) hx hb hts hin hown hK hA hl hP hD hS (by decide) (by decide +kernel) tf_w3 tf_w30 (by decide +kernel) (by decide +kernel) (Nat.le_of_ble_eq_true rfl) (Nat.le_of_ble_eq_true rfl) (Nat.le_of_ble_eq_true rfl) (Nat.le_of_ble_eq_true rfl) tf_d5_48 (fun k => lv_bipush (v := 8) hx hb tf_d5_49 (by decide +kernel) k) tf_d5_51 tf_d5_53 (fun q48 H locs hP hD hS => ?_)
  have hP : va_P D tb_cl ((h0, .inr (5, [.ref q4, .ref q11, .ref q18, .ref q25, .ref q32, .ref q40, .ref q48, .null, .null, .null, .int 0, .int 0, .int 0])) :: [(q4, tf_ar cT 0 4), (q11, tf_ar cT 0 4), (q18, tf_ar cT 0 4), (q25, tf_ar cT 0 4), (q32, tf_ar cT 0 8), (q40, tf_ar cT 0 8), (q48, tf_ar cT 0 8)]) H := hP
  have hD : va_D A ((h0, .inr (5, [.ref q4, .ref q11, .ref q18, .ref q25, .ref q32, .ref q40, .ref q48, .null, .null, .null, .int 0, .int 0, .int 0])) :: [(q4, tf_ar cT 0 4), (q11, tf_ar cT 0 4), (q18, tf_ar cT 0 4), (q25, tf_ar cT 0 4), (q32, tf_ar cT 0 8), (q40, tf_ar cT 0 8), (q48, tf_ar cT 0 8)]) := hD
  refine tf_fld (k := 7) (i := 33) (t := 0) (N := 8) (n := 8) (te := .int) hx hb hts hin hown hK hA hl hP hD hS (by decide) (by decide +kernel) tf_w3 tf_w31 (by decide +kernel) (by decide +kernel) (Nat.le_of_ble_eq_true rfl) (Nat.le_of_ble_eq_true rfl) (Nat.le_of_ble_eq_true rfl) (Nat.le_of_ble_eq_true rfl) tf_d5_56 (fun k => lv_bipush (v := 8) hx hb tf_d5_57 (by decide +kernel) k) tf_d5_59 tf_d5_61 (fun q56 H locs hP hD hS => ?_)
  have hP : va_P D tb_cl ((h0, .inr (5, [.ref q4, .ref q11, .ref q18, .ref q25, .ref q32, .ref q40, .ref q48, .ref q56, .null, .null, .int 0, .int 0, .int 0])) :: [(q4, tf_ar cT 0 4), (q11, tf_ar cT 0 4), (q18, tf_ar cT 0 4), (q25, tf_ar cT 0 4), (q32, tf_ar cT 0 8), (q40, tf_ar cT 0 8), (q48, tf_ar cT 0 8), (q56, tf_ar cT 0 8)]) H := hP
  have hD : va_D A ((h0, .inr (5, [.ref q4, .ref q11, .ref q18, .ref q25, .ref q32, .ref q40, .ref q48, .ref q56, .null, .null, .int 0, .int 0, .int 0])) :: [(q4, tf_ar cT 0 4), (q11, tf_ar cT 0 4), (q18, tf_ar cT 0 4), (q25, tf_ar cT 0 4), (q32, tf_ar cT 0 8), (q40, tf_ar cT 0 8), (q48, tf_ar cT 0 8), (q56, tf_ar cT 0 8)]) := hD
  refine tf_fld (k := 8) (i := 36) (t := 0) (N := 8) (n := 8) (te := .int) hx hb hts hin hown hK hA hl hP hD hS (by decide) (by decide +kernel) tf_w3 tf_w32 (by decide +kernel) (by decide +kernel) (Nat.le_of_ble_eq_true rfl) (Nat.le_of_ble_eq_true rfl) (Nat.le_of_ble_eq_true rfl) (Nat.le_of_ble_eq_true rfl) tf_d5_64 (fun k => lv_bipush (v := 8) hx hb tf_d5_65 (by decide +kernel) k) tf_d5_67 tf_d5_69 (fun q64 H locs hP hD hS => ?_)
  have hP : va_P D tb_cl ((h0, .inr (5, [.ref q4, .ref q11, .ref q18, .ref q25, .ref q32, .ref q40, .ref q48, .ref q56, .ref q64, .null, .int 0, .int 0, .int 0])) :: [(q4, tf_ar cT 0 4), (q11, tf_ar cT 0 4), (q18, tf_ar cT 0 4), (q25, tf_ar cT 0 4), (q32, tf_ar cT 0 8), (q40, tf_ar cT 0 8), (q48, tf_ar cT 0 8), (q56, tf_ar cT 0 8), (q64, tf_ar cT 0 8)]) H := hP
  have hD : va_D A ((h0, .inr (5, [.ref q4, .ref q11, .ref q18, .ref q25, .ref q32, .ref q40, .ref q48, .ref q56, .ref q64, .null, .int 0, .int 0, .int 0])) :: [(q4, tf_ar cT 0 4), (q11, tf_ar cT 0 4), (q18, tf_ar cT 0 4), (q25, tf_ar cT 0 4), (q32, tf_ar cT 0 8), (q40, tf_ar cT 0 8), (q48, tf_ar cT 0 8), (q56, tf_ar cT 0 8), (q64, tf_ar cT 0 8)]) := hD
  refine tf_fld (k := 9) (i := 39) (t := 0) (N := 9) (n := 9) (te := .int) hx hb hts hin hown hK hA hl hP hD hS (by decide) (by decide +kernel) tf_w3 tf_w33 (by decide +kernel) (by decide +kernel) (Nat.le_of_ble_eq_true rfl) (Nat.le_of_ble_eq_true rfl) (Nat.le_of_ble_eq_true rfl) (Nat.le_of_ble_eq_true rfl) tf_d5_72 (fun k => lv_bipush (v := 9) hx hb tf_d5_73 (by decide +kernel) k) tf_d5_75 tf_d5_77 (fun q72 H locs hP hD hS => ?_)
  have hP : va_P D tb_cl ((h0, .inr (5, [.ref q4, .ref q11, .ref q18, .ref q25, .ref q32, .ref q40, .ref q48, .ref q56, .ref q64, .ref q72, .int 0, .int 0, .int 0])) :: [(q4, tf_ar cT 0 4), (q11, tf_ar cT 0 4), (q18, tf_ar cT 0 4), (q25, tf_ar cT 0 4), (q32, tf_ar cT 0 8), (q40, tf_ar cT 0 8), (q48, tf_ar cT 0 8), (q56, tf_ar cT 0 8), (q64, tf_ar cT 0 8), (q72, tf_ar cT 0 9)]) H := hP
  have hD : va_D A ((h0, .inr (5, [.ref q4, .ref q11, .ref q18, .ref q25, .ref q32, .ref q40, .ref q48, .ref q56, .ref q64, .ref q72, .int 0, .int 0, .int 0])) :: [(q4, tf_ar cT 0 4), (q11, tf_ar cT 0 4), (q18, tf_ar cT 0 4), (q25, tf_ar cT 0 4), (q32, tf_ar cT 0 8), (q40, tf_ar cT 0 8), (q48, tf_ar cT 0 8), (q56, tf_ar cT 0 8), (q64, tf_ar cT 0 8), (q72, tf_ar cT 0 9)]) := hD
  have hP9 : va_P D tb_cl (tf_W5 cT h0 (fun i => [q4, q11, q18, q25, q32, q40, q48, q56, q64, q72].getD i 0)) H := hP
  have hD9 : va_D A (tf_W5 cT h0 (fun i => [q4, q11, q18, q25, q32, q40, q48, q56, q64, q72].getD i 0)) := hD
  refine W.widen (k := 10) (n := 65) (Nat.le_of_ble_eq_true rfl) (Nat.le_of_ble_eq_true rfl) ?_
  exact W.vret hx hb hr (fun t ht hW => ⟨⟨(fun i => [q4, q11, q18, q25, q32, q40, q48, q56, q64, q72].getD i 0), rfl, trivial, by rw [ht]; exact hP9, hD9⟩, hS.F ht⟩) hS.2.2 tf_d5_80
def tf_W6 (cT : Nat → ClassId) (h0 : Nat) (u : Nat → Nat) : va_W := (h0, .inr (6, [.ref (u 0), .ref (u 1), .int 0, .int 0, .int 0, .int 0, .int 0, .long 0, .int 0, .int 0, .int 0, .int 0])) :: [(u 0, tf_ar cT 2 900), (u 1, tf_ar cT 0 6)]
set_option maxRecDepth 100000 in
set_option maxHeartbeats 16000000 in
theorem tf_c6 (l : Launch) (D : va_G) (cT : Nat → ClassId) (cS : ClassId) : tf_Ctor l D cT cS tf_y6 prog_8_method_1_code 1 { frames := 1, cells := 2, slots := 906, locals := 12 } 6 [.null, .null, .int 0, .int 0, .int 0, .int 0, .int 0, .long 0, .int 0, .int 0, .int 0, .int 0] (tf_W6 cT) := by
  intro h0 sz
  refine Met.ofW (cc := prog_8_method_1_code) (maxL := 1) (ret := none) (by decide) rfl ?_
  intro p e s m args below meth c s₁ B hml hv
  obtain ⟨rfl, hsz, hP, hK, hD0, hN⟩ := hv
  have hx := B.exec
  have hb := B.bytes
  have hr := B.returns
  have hts0 := atoms_spec (ws := Cond.code tf_y6 prog_8_method_1_code 1 none :: tb_gt) B.pre
  have hts : ∀ w ∈ tb_gt, w.before _ s = true := fun w h => hts0 w (List.mem_cons_of_mem _ h)
  have hown : s.vm.findClass (tb_ci 6).1 = some m.cls := findClass_of_methodNamed B.named
  have hlocks := B.notSynchronized
  have hin : meth.name = "<init>" := (name_of_methodNamed B.named B.method).1
  subst hsz
  have hD := hD0.self (sz := s.heap.size)
  generalize hAe : va_A [(h0, (.inr (6, [.null, .null, .int 0, .int 0, .int 0, .int 0, .int 0, .long 0, .int 0, .int 0, .int 0, .int 0]) : va_E))] s.heap.size = A at hD ⊢
  have hA : ∀ q : Nat, s.heap.size ≤ q → A q := fun q h => by rw [← hAe]; exact Or.inr h
  have hS : va_S A s.heap s.heap [] := va_S.rf
  have hl := lv_entry ([.ref h0]) (n := 1) (Nat.le_of_ble_eq_true rfl)
  rw [lg_entry_eq]
  generalize (lg_sl ([.ref h0]) ++ List.replicate (1 - (lg_sl ([.ref h0])).length) Slot.unset).toArray = ls at hl ⊢
  have hl : lv_has ls 1 [(0, .ref h0)] := hl
  refine lv_aload_n hx hb tf_d6_0 rfl (lv_at hl 0 rfl) ?_
  refine W.objInit hx hb hown (hts _ tf_w34) (hts _ tf_w1) (hts _ tf_w2) rfl (by rw [hml]; exact hl.1) rfl tf_d6_1 (Nat.le_of_ble_eq_true rfl) (Nat.le_of_ble_eq_true rfl) ?_
  refine W.eq (g2 := F0 m 4 ls []) rfl ?_
  have hP : va_P D tb_cl ((h0, .inr (6, [.null, .null, .int 0, .int 0, .int 0, .int 0, .int 0, .long 0, .int 0, .int 0, .int 0, .int 0])) :: []) s.heap := hP
  have hD : va_D A ((h0, .inr (6, [.null, .null, .int 0, .int 0, .int 0, .int 0, .int 0, .long 0, .int 0, .int 0, .int 0, .int 0])) :: []) := hD
  refine tf_fld (k := 0) (i := 11) (t := 2) (N := 900) (n := 900) (te := .byte) hx hb hts hin hown hK hA hl hP hD hS (by decide) (by decide +kernel) tf_w35 tf_w36 (by decide +kernel) (by decide +kernel) (Nat.le_of_ble_eq_true rfl) (Nat.le_of_ble_eq_true rfl) (Nat.le_of_ble_eq_true rfl) (Nat.le_of_ble_eq_true rfl) tf_d6_4 (fun k => lv_sipush (v := 900) hx hb tf_d6_5 (by decide +kernel) k) tf_d6_8 tf_d6_10 (fun q4 H locs hP hD hS => ?_)
  have hP : va_P D tb_cl ((h0, .inr (6, [.ref q4, .null, .int 0, .int 0, .int 0, .int 0, .int 0, .long 0, .int 0, .int 0, .int 0, .int 0])) :: [(q4, tf_ar cT 2 900)]) H := hP
  have hD : va_D A ((h0, .inr (6, [.ref q4, .null, .int 0, .int 0, .int 0, .int 0, .int 0, .long 0, .int 0, .int 0, .int 0, .int 0])) :: [(q4, tf_ar cT 2 900)]) := hD
  refine tf_fld (k := 1) (i := 17) (t := 0) (N := 6) (n := 6) (te := .int) hx hb hts hin hown hK hA hl hP hD hS (by decide) (by decide +kernel) tf_w3 tf_w37 (by decide +kernel) (by decide +kernel) (Nat.le_of_ble_eq_true rfl) (Nat.le_of_ble_eq_true rfl) (Nat.le_of_ble_eq_true rfl) (Nat.le_of_ble_eq_true rfl) tf_d6_13 (fun k => lv_bipush (v := 6) hx hb tf_d6_14 (by decide +kernel) k) tf_d6_16 tf_d6_18 (fun q13 H locs hP hD hS => ?_)
  have hP : va_P D tb_cl ((h0, .inr (6, [.ref q4, .ref q13, .int 0, .int 0, .int 0, .int 0, .int 0, .long 0, .int 0, .int 0, .int 0, .int 0])) :: [(q4, tf_ar cT 2 900), (q13, tf_ar cT 0 6)]) H := hP
  have hD : va_D A ((h0, .inr (6, [.ref q4, .ref q13, .int 0, .int 0, .int 0, .int 0, .int 0, .long 0, .int 0, .int 0, .int 0, .int 0])) :: [(q4, tf_ar cT 2 900), (q13, tf_ar cT 0 6)]) := hD
  have hP9 : va_P D tb_cl (tf_W6 cT h0 (fun i => [q4, q13].getD i 0)) H := hP
  have hD9 : va_D A (tf_W6 cT h0 (fun i => [q4, q13].getD i 0)) := hD
  refine W.widen (k := 2) (n := 906) (Nat.le_of_ble_eq_true rfl) (Nat.le_of_ble_eq_true rfl) ?_
  exact W.vret hx hb hr (fun t ht hW => ⟨⟨(fun i => [q4, q13].getD i 0), rfl, trivial, by rw [ht]; exact hP9, hD9⟩, hS.F ht⟩) hS.2.2 tf_d6_21
def tf_W9 (cT : Nat → ClassId) (h0 : Nat) (u : Nat → Nat) : va_W := (h0, .inr (9, [.ref (u 0), .ref (u 1), .int 0, .ref (u 2), .ref (u 3), .ref (u 4)])) :: [(u 0, tf_ar cT 0 6), (u 1, tf_ar cT 0 6), (u 2, tf_ar cT 0 2100), (u 3, tf_ar cT 0 100), (u 4, tf_ar cT 0 100)]
set_option maxRecDepth 100000 in
set_option maxHeartbeats 16000000 in
theorem tf_c9 (l : Launch) (D : va_G) (cT : Nat → ClassId) (cS : ClassId) : tf_Ctor l D cT cS tf_y9 prog_11_method_1_code 1 { frames := 1, cells := 5, slots := 2312, locals := 12 } 9 [.null, .null, .int 0, .null, .null, .null] (tf_W9 cT) := by
  intro h0 sz
  refine Met.ofW (cc := prog_11_method_1_code) (maxL := 1) (ret := none) (by decide) rfl ?_
  intro p e s m args below meth c s₁ B hml hv
  obtain ⟨rfl, hsz, hP, hK, hD0, hN⟩ := hv
  have hx := B.exec
  have hb := B.bytes
  have hr := B.returns
  have hts0 := atoms_spec (ws := Cond.code tf_y9 prog_11_method_1_code 1 none :: tb_gt) B.pre
  have hts : ∀ w ∈ tb_gt, w.before _ s = true := fun w h => hts0 w (List.mem_cons_of_mem _ h)
  have hown : s.vm.findClass (tb_ci 9).1 = some m.cls := findClass_of_methodNamed B.named
  have hlocks := B.notSynchronized
  have hin : meth.name = "<init>" := (name_of_methodNamed B.named B.method).1
  subst hsz
  have hD := hD0.self (sz := s.heap.size)
  generalize hAe : va_A [(h0, (.inr (9, [.null, .null, .int 0, .null, .null, .null]) : va_E))] s.heap.size = A at hD ⊢
  have hA : ∀ q : Nat, s.heap.size ≤ q → A q := fun q h => by rw [← hAe]; exact Or.inr h
  have hS : va_S A s.heap s.heap [] := va_S.rf
  have hl := lv_entry ([.ref h0]) (n := 1) (Nat.le_of_ble_eq_true rfl)
  rw [lg_entry_eq]
  generalize (lg_sl ([.ref h0]) ++ List.replicate (1 - (lg_sl ([.ref h0])).length) Slot.unset).toArray = ls at hl ⊢
  have hl : lv_has ls 1 [(0, .ref h0)] := hl
  refine lv_aload_n hx hb tf_d9_0 rfl (lv_at hl 0 rfl) ?_
  refine W.objInit hx hb hown (hts _ tf_w38) (hts _ tf_w1) (hts _ tf_w2) rfl (by rw [hml]; exact hl.1) rfl tf_d9_1 (Nat.le_of_ble_eq_true rfl) (Nat.le_of_ble_eq_true rfl) ?_
  refine W.eq (g2 := F0 m 4 ls []) rfl ?_
  have hP : va_P D tb_cl ((h0, .inr (9, [.null, .null, .int 0, .null, .null, .null])) :: []) s.heap := hP
  have hD : va_D A ((h0, .inr (9, [.null, .null, .int 0, .null, .null, .null])) :: []) := hD
  refine tf_fld (k := 0) (i := 9) (t := 0) (N := 6) (n := 6) (te := .int) hx hb hts hin hown hK hA hl hP hD hS (by decide) (by decide +kernel) tf_w3 tf_w39 (by decide +kernel) (by decide +kernel) (Nat.le_of_ble_eq_true rfl) (Nat.le_of_ble_eq_true rfl) (Nat.le_of_ble_eq_true rfl) (Nat.le_of_ble_eq_true rfl) tf_d9_4 (fun k => lv_bipush (v := 6) hx hb tf_d9_5 (by decide +kernel) k) tf_d9_7 tf_d9_9 (fun q4 H locs hP hD hS => ?_)
  have hP : va_P D tb_cl ((h0, .inr (9, [.ref q4, .null, .int 0, .null, .null, .null])) :: [(q4, tf_ar cT 0 6)]) H := hP
  have hD : va_D A ((h0, .inr (9, [.ref q4, .null, .int 0, .null, .null, .null])) :: [(q4, tf_ar cT 0 6)]) := hD
  refine tf_fld (k := 1) (i := 13) (t := 0) (N := 6) (n := 6) (te := .int) hx hb hts hin hown hK hA hl hP hD hS (by decide) (by decide +kernel) tf_w3 tf_w40 (by decide +kernel) (by decide +kernel) (Nat.le_of_ble_eq_true rfl) (Nat.le_of_ble_eq_true rfl) (Nat.le_of_ble_eq_true rfl) (Nat.le_of_ble_eq_true rfl) tf_d9_12 (fun k => lv_bipush (v := 6) hx hb tf_d9_13 (by decide +kernel) k) tf_d9_15 tf_d9_17 (fun q12 H locs hP hD hS => ?_)
  have hP : va_P D tb_cl ((h0, .inr (9, [.ref q4, .ref q12, .int 0, .null, .null, .null])) :: [(q4, tf_ar cT 0 6), (q12, tf_ar cT 0 6)]) H := hP
  have hD : va_D A ((h0, .inr (9, [.ref q4, .ref q12, .int 0, .null, .null, .null])) :: [(q4, tf_ar cT 0 6), (q12, tf_ar cT 0 6)]) := hD
  refine tf_fld (k := 3) (i := 18) (t := 0) (N := 2100) (n := 2100) (te := .int) hx hb hts hin hown hK hA hl hP hD hS (by decide) (by decide +kernel) tf_w3 tf_w41 (by decide +kernel) (by decide +kernel) (Nat.le_of_ble_eq_true rfl) (Nat.le_of_ble_eq_true rfl) (Nat.le_of_ble_eq_true rfl) (Nat.le_of_ble_eq_true rfl) tf_d9_20 (fun k => lv_sipush (v := 2100) hx hb tf_d9_21 (by decide +kernel) k) tf_d9_24 tf_d9_26 (fun q20 H locs hP hD hS => ?_)
  have hP : va_P D tb_cl ((h0, .inr (9, [.ref q4, .ref q12, .int 0, .ref q20, .null, .null])) :: [(q4, tf_ar cT 0 6), (q12, tf_ar cT 0 6), (q20, tf_ar cT 0 2100)]) H := hP
  have hD : va_D A ((h0, .inr (9, [.ref q4, .ref q12, .int 0, .ref q20, .null, .null])) :: [(q4, tf_ar cT 0 6), (q12, tf_ar cT 0 6), (q20, tf_ar cT 0 2100)]) := hD
  refine tf_fld (k := 4) (i := 21) (t := 0) (N := 100) (n := 100) (te := .int) hx hb hts hin hown hK hA hl hP hD hS (by decide) (by decide +kernel) tf_w3 tf_w42 (by decide +kernel) (by decide +kernel) (Nat.le_of_ble_eq_true rfl) (Nat.le_of_ble_eq_true rfl) (Nat.le_of_ble_eq_true rfl) (Nat.le_of_ble_eq_true rfl) tf_d9_29 (fun k => lv_bipush (v := 100) hx hb tf_d9_30 (by decide +kernel) k) tf_d9_32 tf_d9_34 (fun q29 H locs hP hD hS => ?_)
  have hP : va_P D tb_cl ((h0, .inr (9, [.ref q4, .ref q12, .int 0, .ref q20, .ref q29, .null])) :: [(q4, tf_ar cT 0 6), (q12, tf_ar cT 0 6), (q20, tf_ar cT 0 2100), (q29, tf_ar cT 0 100)]) H := hP
  have hD : va_D A ((h0, .inr (9, [.ref q4, .ref q12, .int 0, .ref q20, .ref q29, .null])) :: [(q4, tf_ar cT 0 6), (q12, tf_ar cT 0 6), (q20, tf_ar cT 0 2100), (q29, tf_ar cT 0 100)]) := hD
  refine tf_fld (k := 5) (i := 24) (t := 0) (N := 100) (n := 100) (te := .int) hx hb hts hin hown hK hA hl hP hD hS (by decide) (by decide +kernel) tf_w3 tf_w43 (by decide +kernel) (by decide +kernel) (Nat.le_of_ble_eq_true rfl) (Nat.le_of_ble_eq_true rfl) (Nat.le_of_ble_eq_true rfl) (Nat.le_of_ble_eq_true rfl) tf_d9_37 (fun k => lv_bipush (v := 100) hx hb tf_d9_38 (by decide +kernel) k) tf_d9_40 tf_d9_42 (fun q37 H locs hP hD hS => ?_)
  have hP : va_P D tb_cl ((h0, .inr (9, [.ref q4, .ref q12, .int 0, .ref q20, .ref q29, .ref q37])) :: [(q4, tf_ar cT 0 6), (q12, tf_ar cT 0 6), (q20, tf_ar cT 0 2100), (q29, tf_ar cT 0 100), (q37, tf_ar cT 0 100)]) H := hP
  have hD : va_D A ((h0, .inr (9, [.ref q4, .ref q12, .int 0, .ref q20, .ref q29, .ref q37])) :: [(q4, tf_ar cT 0 6), (q12, tf_ar cT 0 6), (q20, tf_ar cT 0 2100), (q29, tf_ar cT 0 100), (q37, tf_ar cT 0 100)]) := hD
  have hP9 : va_P D tb_cl (tf_W9 cT h0 (fun i => [q4, q12, q20, q29, q37].getD i 0)) H := hP
  have hD9 : va_D A (tf_W9 cT h0 (fun i => [q4, q12, q20, q29, q37].getD i 0)) := hD
  refine W.widen (k := 5) (n := 2312) (Nat.le_of_ble_eq_true rfl) (Nat.le_of_ble_eq_true rfl) ?_
  exact W.vret hx hb hr (fun t ht hW => ⟨⟨(fun i => [q4, q12, q20, q29, q37].getD i 0), rfl, trivial, by rw [ht]; exact hP9, hD9⟩, hS.F ht⟩) hS.2.2 tf_d9_45
def tf_W10 (cT : Nat → ClassId) (h0 : Nat) (u : Nat → Nat) : va_W := (h0, .inr (10, [.int 0, .int 0, .int 0, .int 0, .int 0, .int 0, .int 0, .int 0, .int 0, .int 0, .int 0, .int 0, .ref (u 0), .ref (u 1), .ref (u 2), .ref (u 3), .ref (u 4)])) :: [(u 0, tf_ar cT 0 6), (u 1, tf_ar cT 0 4), (u 2, tf_ar cT 0 4), (u 3, tf_ar cT 0 8), (u 4, tf_ar cT 0 201)]
set_option maxRecDepth 100000 in
set_option maxHeartbeats 16000000 in
theorem tf_c10 (l : Launch) (D : va_G) (cT : Nat → ClassId) (cS : ClassId) : tf_Ctor l D cT cS tf_y10 prog_12_method_1_code 1 { frames := 1, cells := 5, slots := 223, locals := 12 } 10 [.int 0, .int 0, .int 0, .int 0, .int 0, .int 0, .int 0, .int 0, .int 0, .int 0, .int 0, .int 0, .null, .null, .null, .null, .null] (tf_W10 cT) := by
  intro h0 sz
  refine Met.ofW (cc := prog_12_method_1_code) (maxL := 1) (ret := none) (by decide) rfl ?_
  intro p e s m args below meth c s₁ B hml hv
  obtain ⟨rfl, hsz, hP, hK, hD0, hN⟩ := hv
  have hx := B.exec
  have hb := B.bytes
  have hr := B.returns
  have hts0 := atoms_spec (ws := Cond.code tf_y10 prog_12_method_1_code 1 none :: tb_gt) B.pre
  have hts : ∀ w ∈ tb_gt, w.before _ s = true := fun w h => hts0 w (List.mem_cons_of_mem _ h)
  have hown : s.vm.findClass (tb_ci 10).1 = some m.cls := findClass_of_methodNamed B.named
  have hlocks := B.notSynchronized
  have hin : meth.name = "<init>" := (name_of_methodNamed B.named B.method).1
  subst hsz
  have hD := hD0.self (sz := s.heap.size)
  generalize hAe : va_A [(h0, (.inr (10, [.int 0, .int 0, .int 0, .int 0, .int 0, .int 0, .int 0, .int 0, .int 0, .int 0, .int 0, .int 0, .null, .null, .null, .null, .null]) : va_E))] s.heap.size = A at hD ⊢
  have hA : ∀ q : Nat, s.heap.size ≤ q → A q := fun q h => by rw [← hAe]; exact Or.inr h
  have hS : va_S A s.heap s.heap [] := va_S.rf
  have hl := lv_entry ([.ref h0]) (n := 1) (Nat.le_of_ble_eq_true rfl)
  rw [lg_entry_eq]
  generalize (lg_sl ([.ref h0]) ++ List.replicate (1 - (lg_sl ([.ref h0])).length) Slot.unset).toArray = ls at hl ⊢
  have hl : lv_has ls 1 [(0, .ref h0)] := hl
  refine lv_aload_n hx hb tf_d10_0 rfl (lv_at hl 0 rfl) ?_
  refine W.objInit hx hb hown (hts _ tf_w44) (hts _ tf_w1) (hts _ tf_w2) rfl (by rw [hml]; exact hl.1) rfl tf_d10_1 (Nat.le_of_ble_eq_true rfl) (Nat.le_of_ble_eq_true rfl) ?_
  refine W.eq (g2 := F0 m 4 ls []) rfl ?_
  have hP : va_P D tb_cl ((h0, .inr (10, [.int 0, .int 0, .int 0, .int 0, .int 0, .int 0, .int 0, .int 0, .int 0, .int 0, .int 0, .int 0, .null, .null, .null, .null, .null])) :: []) s.heap := hP
  have hD : va_D A ((h0, .inr (10, [.int 0, .int 0, .int 0, .int 0, .int 0, .int 0, .int 0, .int 0, .int 0, .int 0, .int 0, .int 0, .null, .null, .null, .null, .null])) :: []) := hD
  refine tf_fld (k := 12) (i := 9) (t := 0) (N := 6) (n := 6) (te := .int) hx hb hts hin hown hK hA hl hP hD hS (by decide) (by decide +kernel) tf_w3 tf_w45 (by decide +kernel) (by decide +kernel) (Nat.le_of_ble_eq_true rfl) (Nat.le_of_ble_eq_true rfl) (Nat.le_of_ble_eq_true rfl) (Nat.le_of_ble_eq_true rfl) tf_d10_4 (fun k => lv_bipush (v := 6) hx hb tf_d10_5 (by decide +kernel) k) tf_d10_7 tf_d10_9 (fun q4 H locs hP hD hS => ?_)
  have hP : va_P D tb_cl ((h0, .inr (10, [.int 0, .int 0, .int 0, .int 0, .int 0, .int 0, .int 0, .int 0, .int 0, .int 0, .int 0, .int 0, .ref q4, .null, .null, .null, .null])) :: [(q4, tf_ar cT 0 6)]) H := hP
  have hD : va_D A ((h0, .inr (10, [.int 0, .int 0, .int 0, .int 0, .int 0, .int 0, .int 0, .int 0, .int 0, .int 0, .int 0, .int 0, .ref q4, .null, .null, .null, .null])) :: [(q4, tf_ar cT 0 6)]) := hD
  refine tf_fld (k := 13) (i := 15) (t := 0) (N := 4) (n := 4) (te := .int) hx hb hts hin hown hK hA hl hP hD hS (by decide) (by decide +kernel) tf_w3 tf_w46 (by decide +kernel) (by decide +kernel) (Nat.le_of_ble_eq_true rfl) (Nat.le_of_ble_eq_true rfl) (Nat.le_of_ble_eq_true rfl) (Nat.le_of_ble_eq_true rfl) tf_d10_12 (fun k => lv_iconst (v := 4) hx hb tf_d10_13 (by decide +kernel) k) tf_d10_14 tf_d10_16 (fun q12 H locs hP hD hS => ?_)
  have hP : va_P D tb_cl ((h0, .inr (10, [.int 0, .int 0, .int 0, .int 0, .int 0, .int 0, .int 0, .int 0, .int 0, .int 0, .int 0, .int 0, .ref q4, .ref q12, .null, .null, .null])) :: [(q4, tf_ar cT 0 6), (q12, tf_ar cT 0 4)]) H := hP
  have hD : va_D A ((h0, .inr (10, [.int 0, .int 0, .int 0, .int 0, .int 0, .int 0, .int 0, .int 0, .int 0, .int 0, .int 0, .int 0, .ref q4, .ref q12, .null, .null, .null])) :: [(q4, tf_ar cT 0 6), (q12, tf_ar cT 0 4)]) := hD
  refine tf_fld (k := 14) (i := 18) (t := 0) (N := 4) (n := 4) (te := .int) hx hb hts hin hown hK hA hl hP hD hS (by decide) (by decide +kernel) tf_w3 tf_w47 (by decide +kernel) (by decide +kernel) (Nat.le_of_ble_eq_true rfl) (Nat.le_of_ble_eq_true rfl) (Nat.le_of_ble_eq_true rfl) (Nat.le_of_ble_eq_true rfl) tf_d10_19 (fun k => lv_iconst (v := 4) hx hb tf_d10_20 (by decide +kernel) k) tf_d10_21 tf_d10_23 (fun q19 H locs hP hD hS => ?_)
  have hP : va_P D tb_cl ((h0, .inr (10, [.int 0, .int 0, .int 0, .int 0, .int 0, .int 0, .int 0, .int 0, .int 0, .int 0, .int 0, .int 0, .ref q4, .ref q12, .ref q19, .null, .null])) :: [(q4, tf_ar cT 0 6), (q12, tf_ar cT 0 4), (q19, tf_ar cT 0 4)]) H := hP
  have hD : va_D A ((h0, .inr (10, [.int 0, .int 0, .int 0, .int 0, .int 0, .int 0, .int 0, .int 0, .int 0, .int 0, .int 0, .int 0, .ref q4, .ref q12, .ref q19, .null, .null])) :: [(q4, tf_ar cT 0 6), (q12, tf_ar cT 0 4), (q19, tf_ar cT 0 4)]) := hD
  refine tf_fld (k := 15) (i := 21) (t := 0) (N := 8) (n := 8) (te := .int) hx hb hts hin hown hK hA hl hP hD hS (by decide) (by decide +kernel) tf_w3 tf_w48 (by decide +kernel) (by decide +kernel) (Nat.le_of_ble_eq_true rfl) (Nat.le_of_ble_eq_true rfl) (Nat.le_of_ble_eq_true rfl) (Nat.le_of_ble_eq_true rfl) tf_d10_26 (fun k => lv_bipush (v := 8) hx hb tf_d10_27 (by decide +kernel) k) tf_d10_29 tf_d10_31 (fun q26 H locs hP hD hS => ?_)
  have hP : va_P D tb_cl ((h0, .inr (10, [.int 0, .int 0, .int 0, .int 0, .int 0, .int 0, .int 0, .int 0, .int 0, .int 0, .int 0, .int 0, .ref q4, .ref q12, .ref q19, .ref q26, .null])) :: [(q4, tf_ar cT 0 6), (q12, tf_ar cT 0 4), (q19, tf_ar cT 0 4), (q26, tf_ar cT 0 8)]) H := hP
  have hD : va_D A ((h0, .inr (10, [.int 0, .int 0, .int 0, .int 0, .int 0, .int 0, .int 0, .int 0, .int 0, .int 0, .int 0, .int 0, .ref q4, .ref q12, .ref q19, .ref q26, .null])) :: [(q4, tf_ar cT 0 6), (q12, tf_ar cT 0 4), (q19, tf_ar cT 0 4), (q26, tf_ar cT 0 8)]) := hD
  refine tf_fld (k := 16) (i := 24) (t := 0) (N := 201) (n := 201) (te := .int) hx hb hts hin hown hK hA hl hP hD hS (by decide) (by decide +kernel) tf_w3 tf_w49 (by decide +kernel) (by decide +kernel) (Nat.le_of_ble_eq_true rfl) (Nat.le_of_ble_eq_true rfl) (Nat.le_of_ble_eq_true rfl) (Nat.le_of_ble_eq_true rfl) tf_d10_34 (fun k => lv_sipush (v := 201) hx hb tf_d10_35 (by decide +kernel) k) tf_d10_38 tf_d10_40 (fun q34 H locs hP hD hS => ?_)
  have hP : va_P D tb_cl ((h0, .inr (10, [.int 0, .int 0, .int 0, .int 0, .int 0, .int 0, .int 0, .int 0, .int 0, .int 0, .int 0, .int 0, .ref q4, .ref q12, .ref q19, .ref q26, .ref q34])) :: [(q4, tf_ar cT 0 6), (q12, tf_ar cT 0 4), (q19, tf_ar cT 0 4), (q26, tf_ar cT 0 8), (q34, tf_ar cT 0 201)]) H := hP
  have hD : va_D A ((h0, .inr (10, [.int 0, .int 0, .int 0, .int 0, .int 0, .int 0, .int 0, .int 0, .int 0, .int 0, .int 0, .int 0, .ref q4, .ref q12, .ref q19, .ref q26, .ref q34])) :: [(q4, tf_ar cT 0 6), (q12, tf_ar cT 0 4), (q19, tf_ar cT 0 4), (q26, tf_ar cT 0 8), (q34, tf_ar cT 0 201)]) := hD
  have hP9 : va_P D tb_cl (tf_W10 cT h0 (fun i => [q4, q12, q19, q26, q34].getD i 0)) H := hP
  have hD9 : va_D A (tf_W10 cT h0 (fun i => [q4, q12, q19, q26, q34].getD i 0)) := hD
  refine W.widen (k := 5) (n := 223) (Nat.le_of_ble_eq_true rfl) (Nat.le_of_ble_eq_true rfl) ?_
  exact W.vret hx hb hr (fun t ht hW => ⟨⟨(fun i => [q4, q12, q19, q26, q34].getD i 0), rfl, trivial, by rw [ht]; exact hP9, hD9⟩, hS.F ht⟩) hS.2.2 tf_d10_43
def tf_W12 (cT : Nat → ClassId) (h0 : Nat) (u : Nat → Nat) : va_W := (h0, .inr (12, [.int 0, .ref (u 0), .int 0, .int 0, .int 0, .int 0, .int 0, .int 0, .int 0, .int 0, .int (-1), .int 0, .ref (u 1), .int 0, .int 0, .ref (u 2), .ref (u 3), .ref (u 4), .ref (u 5), .int 0, .ref (u 6), .ref (u 7), .ref (u 8), .int 0, .ref (u 9), .ref (u 10), .ref (u 11), .int 0, .int 0, .int 0, .int 0, .ref (u 12), .ref (u 13), .ref (u 14), .ref (u 15), .ref (u 16), .ref (u 17), .ref (u 18), .ref (u 19), .ref (u 20), .ref (u 21), .ref (u 22)])) :: [(u 0, tf_ar cT 0 900), (u 1, tf_ar cT 0 8), (u 2, tf_ar cT 0 362), (u 3, tf_ar cT 0 362), (u 4, tf_ar cT 0 453), (u 5, tf_ar cT 0 1812), (u 6, tf_ar cT 0 30), (u 7, tf_ar cT 0 30), (u 8, tf_ar cT 0 30), (u 9, tf_ar cT 0 6), (u 10, tf_ar cT 0 6), (u 11, tf_ar cT 0 6), (u 12, tf_ar cT 0 4), (u 13, tf_ar cT 0 4), (u 14, tf_ar cT 0 800), (u 15, tf_ar cT 0 800), (u 16, tf_ar cT 0 40), (u 17, tf_ar cT 1 800), (u 18, tf_ar cT 3 11200), (u 19, tf_ar cT 3 11200), (u 20, tf_ar cT 1 100), (u 21, tf_ar cT 1 16800), (u 22, tf_ar cT 1 16800)]
set_option maxRecDepth 100000 in
set_option maxHeartbeats 16000000 in
theorem tf_c12 (l : Launch) (D : va_G) (cT : Nat → ClassId) (cS : ClassId) : tf_Ctor l D cT cS tf_y12 prog_14_method_1_code 1 { frames := 1, cells := 23, slots := 62553, locals := 12 } 12 [.int 0, .null, .int 0, .int 0, .int 0, .int 0, .int 0, .int 0, .int 0, .int 0, .int 0, .int 0, .null, .int 0, .int 0, .null, .null, .null, .null, .int 0, .null, .null, .null, .int 0, .null, .null, .null, .int 0, .int 0, .int 0, .int 0, .null, .null, .null, .null, .null, .null, .null, .null, .null, .null, .null] (tf_W12 cT) := by
  intro h0 sz
  refine Met.ofW (cc := prog_14_method_1_code) (maxL := 1) (ret := none) (by decide) rfl ?_
  intro p e s m args below meth c s₁ B hml hv
  obtain ⟨rfl, hsz, hP, hK, hD0, hN⟩ := hv
  have hx := B.exec
  have hb := B.bytes
  have hr := B.returns
  have hts0 := atoms_spec (ws := Cond.code tf_y12 prog_14_method_1_code 1 none :: tb_gt) B.pre
  have hts : ∀ w ∈ tb_gt, w.before _ s = true := fun w h => hts0 w (List.mem_cons_of_mem _ h)
  have hown : s.vm.findClass (tb_ci 12).1 = some m.cls := findClass_of_methodNamed B.named
  have hlocks := B.notSynchronized
  have hin : meth.name = "<init>" := (name_of_methodNamed B.named B.method).1
  subst hsz
  have hD := hD0.self (sz := s.heap.size)
  generalize hAe : va_A [(h0, (.inr (12, [.int 0, .null, .int 0, .int 0, .int 0, .int 0, .int 0, .int 0, .int 0, .int 0, .int 0, .int 0, .null, .int 0, .int 0, .null, .null, .null, .null, .int 0, .null, .null, .null, .int 0, .null, .null, .null, .int 0, .int 0, .int 0, .int 0, .null, .null, .null, .null, .null, .null, .null, .null, .null, .null, .null]) : va_E))] s.heap.size = A at hD ⊢
  have hA : ∀ q : Nat, s.heap.size ≤ q → A q := fun q h => by rw [← hAe]; exact Or.inr h
  have hS : va_S A s.heap s.heap [] := va_S.rf
  have hl := lv_entry ([.ref h0]) (n := 1) (Nat.le_of_ble_eq_true rfl)
  rw [lg_entry_eq]
  generalize (lg_sl ([.ref h0]) ++ List.replicate (1 - (lg_sl ([.ref h0])).length) Slot.unset).toArray = ls at hl ⊢
  have hl : lv_has ls 1 [(0, .ref h0)] := hl
  refine lv_aload_n hx hb tf_d12_0 rfl (lv_at hl 0 rfl) ?_
  refine W.objInit hx hb hown (hts _ tf_w50) (hts _ tf_w1) (hts _ tf_w2) rfl (by rw [hml]; exact hl.1) rfl tf_d12_1 (Nat.le_of_ble_eq_true rfl) (Nat.le_of_ble_eq_true rfl) ?_
  refine W.eq (g2 := F0 m 4 ls []) rfl ?_
  have hP : va_P D tb_cl ((h0, .inr (12, [.int 0, .null, .int 0, .int 0, .int 0, .int 0, .int 0, .int 0, .int 0, .int 0, .int 0, .int 0, .null, .int 0, .int 0, .null, .null, .null, .null, .int 0, .null, .null, .null, .int 0, .null, .null, .null, .int 0, .int 0, .int 0, .int 0, .null, .null, .null, .null, .null, .null, .null, .null, .null, .null, .null])) :: []) s.heap := hP
  have hD : va_D A ((h0, .inr (12, [.int 0, .null, .int 0, .int 0, .int 0, .int 0, .int 0, .int 0, .int 0, .int 0, .int 0, .int 0, .null, .int 0, .int 0, .null, .null, .null, .null, .int 0, .null, .null, .null, .int 0, .null, .null, .null, .int 0, .int 0, .int 0, .int 0, .null, .null, .null, .null, .null, .null, .null, .null, .null, .null, .null])) :: []) := hD
  refine tf_fld (k := 1) (i := 7) (t := 0) (N := 900) (n := 900) (te := .int) hx hb hts hin hown hK hA hl hP hD hS (by decide) (by decide +kernel) tf_w3 tf_w51 (by decide +kernel) (by decide +kernel) (Nat.le_of_ble_eq_true rfl) (Nat.le_of_ble_eq_true rfl) (Nat.le_of_ble_eq_true rfl) (Nat.le_of_ble_eq_true rfl) tf_d12_4 (fun k => lv_sipush (v := 900) hx hb tf_d12_5 (by decide +kernel) k) tf_d12_8 tf_d12_10 (fun q4 H locs hP hD hS => ?_)
  have hP : va_P D tb_cl ((h0, .inr (12, [.int 0, .ref q4, .int 0, .int 0, .int 0, .int 0, .int 0, .int 0, .int 0, .int 0, .int 0, .int 0, .null, .int 0, .int 0, .null, .null, .null, .null, .int 0, .null, .null, .null, .int 0, .null, .null, .null, .int 0, .int 0, .int 0, .int 0, .null, .null, .null, .null, .null, .null, .null, .null, .null, .null, .null])) :: [(q4, tf_ar cT 0 900)]) H := hP
  have hD : va_D A ((h0, .inr (12, [.int 0, .ref q4, .int 0, .int 0, .int 0, .int 0, .int 0, .int 0, .int 0, .int 0, .int 0, .int 0, .null, .int 0, .int 0, .null, .null, .null, .null, .int 0, .null, .null, .null, .int 0, .null, .null, .null, .int 0, .int 0, .int 0, .int 0, .null, .null, .null, .null, .null, .null, .null, .null, .null, .null, .null])) :: [(q4, tf_ar cT 0 900)]) := hD
  refine lv_aload_n hx hb tf_d12_13 rfl (lv_at hl 0 rfl) ?_
  refine lv_iconst (v := (-1)) hx hb tf_d12_14 (by decide +kernel) ?_
  refine tf_put (k := 10) (i := 13) (ty := .int) (rest := []) hx hb hts hin (by decide +kernel) (by decide +kernel) hown hK hP hD hS tf_w52 (by decide +kernel) (by decide +kernel) rfl rfl (Nat.le_of_ble_eq_true rfl) tf_d12_15 (fun H locs hP hD hS => ?_)
  have hP : va_P D tb_cl ((h0, .inr (12, [.int 0, .ref q4, .int 0, .int 0, .int 0, .int 0, .int 0, .int 0, .int 0, .int 0, .int (-1), .int 0, .null, .int 0, .int 0, .null, .null, .null, .null, .int 0, .null, .null, .null, .int 0, .null, .null, .null, .int 0, .int 0, .int 0, .int 0, .null, .null, .null, .null, .null, .null, .null, .null, .null, .null, .null])) :: [(q4, tf_ar cT 0 900)]) H := hP
  have hD : va_D A ((h0, .inr (12, [.int 0, .ref q4, .int 0, .int 0, .int 0, .int 0, .int 0, .int 0, .int 0, .int 0, .int (-1), .int 0, .null, .int 0, .int 0, .null, .null, .null, .null, .int 0, .null, .null, .null, .int 0, .null, .null, .null, .int 0, .int 0, .int 0, .int 0, .null, .null, .null, .null, .null, .null, .null, .null, .null, .null, .null])) :: [(q4, tf_ar cT 0 900)]) := hD
  refine tf_fld (k := 12) (i := 17) (t := 0) (N := 8) (n := 8) (te := .int) hx hb hts hin hown hK hA hl hP hD hS (by decide) (by decide +kernel) tf_w3 tf_w53 (by decide +kernel) (by decide +kernel) (Nat.le_of_ble_eq_true rfl) (Nat.le_of_ble_eq_true rfl) (Nat.le_of_ble_eq_true rfl) (Nat.le_of_ble_eq_true rfl) tf_d12_18 (fun k => lv_bipush (v := 8) hx hb tf_d12_19 (by decide +kernel) k) tf_d12_21 tf_d12_23 (fun q18 H locs hP hD hS => ?_)
  have hP : va_P D tb_cl ((h0, .inr (12, [.int 0, .ref q4, .int 0, .int 0, .int 0, .int 0, .int 0, .int 0, .int 0, .int 0, .int (-1), .int 0, .ref q18, .int 0, .int 0, .null, .null, .null, .null, .int 0, .null, .null, .null, .int 0, .null, .null, .null, .int 0, .int 0, .int 0, .int 0, .null, .null, .null, .null, .null, .null, .null, .null, .null, .null, .null])) :: [(q4, tf_ar cT 0 900), (q18, tf_ar cT 0 8)]) H := hP
  have hD : va_D A ((h0, .inr (12, [.int 0, .ref q4, .int 0, .int 0, .int 0, .int 0, .int 0, .int 0, .int 0, .int 0, .int (-1), .int 0, .ref q18, .int 0, .int 0, .null, .null, .null, .null, .int 0, .null, .null, .null, .int 0, .null, .null, .null, .int 0, .int 0, .int 0, .int 0, .null, .null, .null, .null, .null, .null, .null, .null, .null, .null, .null])) :: [(q4, tf_ar cT 0 900), (q18, tf_ar cT 0 8)]) := hD
  refine tf_fld (k := 15) (i := 20) (t := 0) (N := 362) (n := 362) (te := .int) hx hb hts hin hown hK hA hl hP hD hS (by decide) (by decide +kernel) tf_w3 tf_w54 (by decide +kernel) (by decide +kernel) (Nat.le_of_ble_eq_true rfl) (Nat.le_of_ble_eq_true rfl) (Nat.le_of_ble_eq_true rfl) (Nat.le_of_ble_eq_true rfl) tf_d12_26 (fun k => lv_sipush (v := 362) hx hb tf_d12_27 (by decide +kernel) k) tf_d12_30 tf_d12_32 (fun q26 H locs hP hD hS => ?_)
  have hP : va_P D tb_cl ((h0, .inr (12, [.int 0, .ref q4, .int 0, .int 0, .int 0, .int 0, .int 0, .int 0, .int 0, .int 0, .int (-1), .int 0, .ref q18, .int 0, .int 0, .ref q26, .null, .null, .null, .int 0, .null, .null, .null, .int 0, .null, .null, .null, .int 0, .int 0, .int 0, .int 0, .null, .null, .null, .null, .null, .null, .null, .null, .null, .null, .null])) :: [(q4, tf_ar cT 0 900), (q18, tf_ar cT 0 8), (q26, tf_ar cT 0 362)]) H := hP
  have hD : va_D A ((h0, .inr (12, [.int 0, .ref q4, .int 0, .int 0, .int 0, .int 0, .int 0, .int 0, .int 0, .int 0, .int (-1), .int 0, .ref q18, .int 0, .int 0, .ref q26, .null, .null, .null, .int 0, .null, .null, .null, .int 0, .null, .null, .null, .int 0, .int 0, .int 0, .int 0, .null, .null, .null, .null, .null, .null, .null, .null, .null, .null, .null])) :: [(q4, tf_ar cT 0 900), (q18, tf_ar cT 0 8), (q26, tf_ar cT 0 362)]) := hD
  refine tf_fld (k := 16) (i := 23) (t := 0) (N := 362) (n := 362) (te := .int) hx hb hts hin hown hK hA hl hP hD hS (by decide) (by decide +kernel) tf_w3 tf_w55 (by decide +kernel) (by decide +kernel) (Nat.le_of_ble_eq_true rfl) (Nat.le_of_ble_eq_true rfl) (Nat.le_of_ble_eq_true rfl) (Nat.le_of_ble_eq_true rfl) tf_d12_35 (fun k => lv_sipush (v := 362) hx hb tf_d12_36 (by decide +kernel) k) tf_d12_39 tf_d12_41 (fun q35 H locs hP hD hS => ?_)
  have hP : va_P D tb_cl ((h0, .inr (12, [.int 0, .ref q4, .int 0, .int 0, .int 0, .int 0, .int 0, .int 0, .int 0, .int 0, .int (-1), .int 0, .ref q18, .int 0, .int 0, .ref q26, .ref q35, .null, .null, .int 0, .null, .null, .null, .int 0, .null, .null, .null, .int 0, .int 0, .int 0, .int 0, .null, .null, .null, .null, .null, .null, .null, .null, .null, .null, .null])) :: [(q4, tf_ar cT 0 900), (q18, tf_ar cT 0 8), (q26, tf_ar cT 0 362), (q35, tf_ar cT 0 362)]) H := hP
  have hD : va_D A ((h0, .inr (12, [.int 0, .ref q4, .int 0, .int 0, .int 0, .int 0, .int 0, .int 0, .int 0, .int 0, .int (-1), .int 0, .ref q18, .int 0, .int 0, .ref q26, .ref q35, .null, .null, .int 0, .null, .null, .null, .int 0, .null, .null, .null, .int 0, .int 0, .int 0, .int 0, .null, .null, .null, .null, .null, .null, .null, .null, .null, .null, .null])) :: [(q4, tf_ar cT 0 900), (q18, tf_ar cT 0 8), (q26, tf_ar cT 0 362), (q35, tf_ar cT 0 362)]) := hD
  refine tf_fld (k := 17) (i := 26) (t := 0) (N := 453) (n := 453) (te := .int) hx hb hts hin hown hK hA hl hP hD hS (by decide) (by decide +kernel) tf_w3 tf_w56 (by decide +kernel) (by decide +kernel) (Nat.le_of_ble_eq_true rfl) (Nat.le_of_ble_eq_true rfl) (Nat.le_of_ble_eq_true rfl) (Nat.le_of_ble_eq_true rfl) tf_d12_44 (fun k => lv_sipush (v := 453) hx hb tf_d12_45 (by decide +kernel) k) tf_d12_48 tf_d12_50 (fun q44 H locs hP hD hS => ?_)
  have hP : va_P D tb_cl ((h0, .inr (12, [.int 0, .ref q4, .int 0, .int 0, .int 0, .int 0, .int 0, .int 0, .int 0, .int 0, .int (-1), .int 0, .ref q18, .int 0, .int 0, .ref q26, .ref q35, .ref q44, .null, .int 0, .null, .null, .null, .int 0, .null, .null, .null, .int 0, .int 0, .int 0, .int 0, .null, .null, .null, .null, .null, .null, .null, .null, .null, .null, .null])) :: [(q4, tf_ar cT 0 900), (q18, tf_ar cT 0 8), (q26, tf_ar cT 0 362), (q35, tf_ar cT 0 362), (q44, tf_ar cT 0 453)]) H := hP
  have hD : va_D A ((h0, .inr (12, [.int 0, .ref q4, .int 0, .int 0, .int 0, .int 0, .int 0, .int 0, .int 0, .int 0, .int (-1), .int 0, .ref q18, .int 0, .int 0, .ref q26, .ref q35, .ref q44, .null, .int 0, .null, .null, .null, .int 0, .null, .null, .null, .int 0, .int 0, .int 0, .int 0, .null, .null, .null, .null, .null, .null, .null, .null, .null, .null, .null])) :: [(q4, tf_ar cT 0 900), (q18, tf_ar cT 0 8), (q26, tf_ar cT 0 362), (q35, tf_ar cT 0 362), (q44, tf_ar cT 0 453)]) := hD
  refine tf_fld (k := 18) (i := 29) (t := 0) (N := 1812) (n := 1812) (te := .int) hx hb hts hin hown hK hA hl hP hD hS (by decide) (by decide +kernel) tf_w3 tf_w57 (by decide +kernel) (by decide +kernel) (Nat.le_of_ble_eq_true rfl) (Nat.le_of_ble_eq_true rfl) (Nat.le_of_ble_eq_true rfl) (Nat.le_of_ble_eq_true rfl) tf_d12_53 (fun k => lv_sipush (v := 1812) hx hb tf_d12_54 (by decide +kernel) k) tf_d12_57 tf_d12_59 (fun q53 H locs hP hD hS => ?_)
  have hP : va_P D tb_cl ((h0, .inr (12, [.int 0, .ref q4, .int 0, .int 0, .int 0, .int 0, .int 0, .int 0, .int 0, .int 0, .int (-1), .int 0, .ref q18, .int 0, .int 0, .ref q26, .ref q35, .ref q44, .ref q53, .int 0, .null, .null, .null, .int 0, .null, .null, .null, .int 0, .int 0, .int 0, .int 0, .null, .null, .null, .null, .null, .null, .null, .null, .null, .null, .null])) :: [(q4, tf_ar cT 0 900), (q18, tf_ar cT 0 8), (q26, tf_ar cT 0 362), (q35, tf_ar cT 0 362), (q44, tf_ar cT 0 453), (q53, tf_ar cT 0 1812)]) H := hP
  have hD : va_D A ((h0, .inr (12, [.int 0, .ref q4, .int 0, .int 0, .int 0, .int 0, .int 0, .int 0, .int 0, .int 0, .int (-1), .int 0, .ref q18, .int 0, .int 0, .ref q26, .ref q35, .ref q44, .ref q53, .int 0, .null, .null, .null, .int 0, .null, .null, .null, .int 0, .int 0, .int 0, .int 0, .null, .null, .null, .null, .null, .null, .null, .null, .null, .null, .null])) :: [(q4, tf_ar cT 0 900), (q18, tf_ar cT 0 8), (q26, tf_ar cT 0 362), (q35, tf_ar cT 0 362), (q44, tf_ar cT 0 453), (q53, tf_ar cT 0 1812)]) := hD
  refine tf_fld (k := 20) (i := 32) (t := 0) (N := 30) (n := 30) (te := .int) hx hb hts hin hown hK hA hl hP hD hS (by decide) (by decide +kernel) tf_w3 tf_w58 (by decide +kernel) (by decide +kernel) (Nat.le_of_ble_eq_true rfl) (Nat.le_of_ble_eq_true rfl) (Nat.le_of_ble_eq_true rfl) (Nat.le_of_ble_eq_true rfl) tf_d12_62 (fun k => lv_bipush (v := 30) hx hb tf_d12_63 (by decide +kernel) k) tf_d12_65 tf_d12_67 (fun q62 H locs hP hD hS => ?_)
  have hP : va_P D tb_cl ((h0, .inr (12, [.int 0, .ref q4, .int 0, .int 0, .int 0, .int 0, .int 0, .int 0, .int 0, .int 0, .int (-1), .int 0, .ref q18, .int 0, .int 0, .ref q26, .ref q35, .ref q44, .ref q53, .int 0, .ref q62, .null, .null, .int 0, .null, .null, .null, .int 0, .int 0, .int 0, .int 0, .null, .null, .null, .null, .null, .null, .null, .null, .null, .null, .null])) :: [(q4, tf_ar cT 0 900), (q18, tf_ar cT 0 8), (q26, tf_ar cT 0 362), (q35, tf_ar cT 0 362), (q44, tf_ar cT 0 453), (q53, tf_ar cT 0 1812), (q62, tf_ar cT 0 30)]) H := hP
  have hD : va_D A ((h0, .inr (12, [.int 0, .ref q4, .int 0, .int 0, .int 0, .int 0, .int 0, .int 0, .int 0, .int 0, .int (-1), .int 0, .ref q18, .int 0, .int 0, .ref q26, .ref q35, .ref q44, .ref q53, .int 0, .ref q62, .null, .null, .int 0, .null, .null, .null, .int 0, .int 0, .int 0, .int 0, .null, .null, .null, .null, .null, .null, .null, .null, .null, .null, .null])) :: [(q4, tf_ar cT 0 900), (q18, tf_ar cT 0 8), (q26, tf_ar cT 0 362), (q35, tf_ar cT 0 362), (q44, tf_ar cT 0 453), (q53, tf_ar cT 0 1812), (q62, tf_ar cT 0 30)]) := hD
  refine tf_fld (k := 21) (i := 35) (t := 0) (N := 30) (n := 30) (te := .int) hx hb hts hin hown hK hA hl hP hD hS (by decide) (by decide +kernel) tf_w3 tf_w59 (by decide +kernel) (by decide +kernel) (Nat.le_of_ble_eq_true rfl) (Nat.le_of_ble_eq_true rfl) (Nat.le_of_ble_eq_true rfl) (Nat.le_of_ble_eq_true rfl) tf_d12_70 (fun k => lv_bipush (v := 30) hx hb tf_d12_71 (by decide +kernel) k) tf_d12_73 tf_d12_75 (fun q70 H locs hP hD hS => ?_)
  have hP : va_P D tb_cl ((h0, .inr (12, [.int 0, .ref q4, .int 0, .int 0, .int 0, .int 0, .int 0, .int 0, .int 0, .int 0, .int (-1), .int 0, .ref q18, .int 0, .int 0, .ref q26, .ref q35, .ref q44, .ref q53, .int 0, .ref q62, .ref q70, .null, .int 0, .null, .null, .null, .int 0, .int 0, .int 0, .int 0, .null, .null, .null, .null, .null, .null, .null, .null, .null, .null, .null])) :: [(q4, tf_ar cT 0 900), (q18, tf_ar cT 0 8), (q26, tf_ar cT 0 362), (q35, tf_ar cT 0 362), (q44, tf_ar cT 0 453), (q53, tf_ar cT 0 1812), (q62, tf_ar cT 0 30), (q70, tf_ar cT 0 30)]) H := hP
  have hD : va_D A ((h0, .inr (12, [.int 0, .ref q4, .int 0, .int 0, .int 0, .int 0, .int 0, .int 0, .int 0, .int 0, .int (-1), .int 0, .ref q18, .int 0, .int 0, .ref q26, .ref q35, .ref q44, .ref q53, .int 0, .ref q62, .ref q70, .null, .int 0, .null, .null, .null, .int 0, .int 0, .int 0, .int 0, .null, .null, .null, .null, .null, .null, .null, .null, .null, .null, .null])) :: [(q4, tf_ar cT 0 900), (q18, tf_ar cT 0 8), (q26, tf_ar cT 0 362), (q35, tf_ar cT 0 362), (q44, tf_ar cT 0 453), (q53, tf_ar cT 0 1812), (q62, tf_ar cT 0 30), (q70, tf_ar cT 0 30)]) := hD
  refine tf_fld (k := 22) (i := 38) (t := 0) (N := 30) (n := 30) (te := .int) hx hb hts hin hown hK hA hl hP hD hS (by decide) (by decide +kernel) tf_w3 tf_w60 (by decide +kernel) (by decide +kernel) (Nat.le_of_ble_eq_true rfl) (Nat.le_of_ble_eq_true rfl) (Nat.le_of_ble_eq_true rfl) (Nat.le_of_ble_eq_true rfl) tf_d12_78 (fun k => lv_bipush (v := 30) hx hb tf_d12_79 (by decide +kernel) k) tf_d12_81 tf_d12_83 (fun q78 H locs hP hD hS => ?_)
  have hP : va_P D tb_cl ((h0, .inr (12, [.int 0, .ref q4, .int 0, .int 0, .int 0, .int 0, .int 0, .int 0, .int 0, .int 0, .int (-1), .int 0, .ref q18, .int 0, .int 0, .ref q26, .ref q35, .ref q44, .ref q53, .int 0, .ref q62, .ref q70, .ref q78, .int 0, .null, .null, .null, .int 0, .int 0, .int 0, .int 0, .null, .null, .null, .null, .null, .null, .null, .null, .null, .null, .null])) :: [(q4, tf_ar cT 0 900), (q18, tf_ar cT 0 8), (q26, tf_ar cT 0 362), (q35, tf_ar cT 0 362), (q44, tf_ar cT 0 453), (q53, tf_ar cT 0 1812), (q62, tf_ar cT 0 30), (q70, tf_ar cT 0 30), (q78, tf_ar cT 0 30)]) H := hP
  have hD : va_D A ((h0, .inr (12, [.int 0, .ref q4, .int 0, .int 0, .int 0, .int 0, .int 0, .int 0, .int 0, .int 0, .int (-1), .int 0, .ref q18, .int 0, .int 0, .ref q26, .ref q35, .ref q44, .ref q53, .int 0, .ref q62, .ref q70, .ref q78, .int 0, .null, .null, .null, .int 0, .int 0, .int 0, .int 0, .null, .null, .null, .null, .null, .null, .null, .null, .null, .null, .null])) :: [(q4, tf_ar cT 0 900), (q18, tf_ar cT 0 8), (q26, tf_ar cT 0 362), (q35, tf_ar cT 0 362), (q44, tf_ar cT 0 453), (q53, tf_ar cT 0 1812), (q62, tf_ar cT 0 30), (q70, tf_ar cT 0 30), (q78, tf_ar cT 0 30)]) := hD
  refine tf_fld (k := 24) (i := 41) (t := 0) (N := 6) (n := 6) (te := .int) hx hb hts hin hown hK hA hl hP hD hS (by decide) (by decide +kernel) tf_w3 tf_w61 (by decide +kernel) (by decide +kernel) (Nat.le_of_ble_eq_true rfl) (Nat.le_of_ble_eq_true rfl) (Nat.le_of_ble_eq_true rfl) (Nat.le_of_ble_eq_true rfl) tf_d12_86 (fun k => lv_bipush (v := 6) hx hb tf_d12_87 (by decide +kernel) k) tf_d12_89 tf_d12_91 (fun q86 H locs hP hD hS => ?_)
  have hP : va_P D tb_cl ((h0, .inr (12, [.int 0, .ref q4, .int 0, .int 0, .int 0, .int 0, .int 0, .int 0, .int 0, .int 0, .int (-1), .int 0, .ref q18, .int 0, .int 0, .ref q26, .ref q35, .ref q44, .ref q53, .int 0, .ref q62, .ref q70, .ref q78, .int 0, .ref q86, .null, .null, .int 0, .int 0, .int 0, .int 0, .null, .null, .null, .null, .null, .null, .null, .null, .null, .null, .null])) :: [(q4, tf_ar cT 0 900), (q18, tf_ar cT 0 8), (q26, tf_ar cT 0 362), (q35, tf_ar cT 0 362), (q44, tf_ar cT 0 453), (q53, tf_ar cT 0 1812), (q62, tf_ar cT 0 30), (q70, tf_ar cT 0 30), (q78, tf_ar cT 0 30), (q86, tf_ar cT 0 6)]) H := hP
  have hD : va_D A ((h0, .inr (12, [.int 0, .ref q4, .int 0, .int 0, .int 0, .int 0, .int 0, .int 0, .int 0, .int 0, .int (-1), .int 0, .ref q18, .int 0, .int 0, .ref q26, .ref q35, .ref q44, .ref q53, .int 0, .ref q62, .ref q70, .ref q78, .int 0, .ref q86, .null, .null, .int 0, .int 0, .int 0, .int 0, .null, .null, .null, .null, .null, .null, .null, .null, .null, .null, .null])) :: [(q4, tf_ar cT 0 900), (q18, tf_ar cT 0 8), (q26, tf_ar cT 0 362), (q35, tf_ar cT 0 362), (q44, tf_ar cT 0 453), (q53, tf_ar cT 0 1812), (q62, tf_ar cT 0 30), (q70, tf_ar cT 0 30), (q78, tf_ar cT 0 30), (q86, tf_ar cT 0 6)]) := hD
  refine tf_fld (k := 25) (i := 44) (t := 0) (N := 6) (n := 6) (te := .int) hx hb hts hin hown hK hA hl hP hD hS (by decide) (by decide +kernel) tf_w3 tf_w62 (by decide +kernel) (by decide +kernel) (Nat.le_of_ble_eq_true rfl) (Nat.le_of_ble_eq_true rfl) (Nat.le_of_ble_eq_true rfl) (Nat.le_of_ble_eq_true rfl) tf_d12_94 (fun k => lv_bipush (v := 6) hx hb tf_d12_95 (by decide +kernel) k) tf_d12_97 tf_d12_99 (fun q94 H locs hP hD hS => ?_)
  have hP : va_P D tb_cl ((h0, .inr (12, [.int 0, .ref q4, .int 0, .int 0, .int 0, .int 0, .int 0, .int 0, .int 0, .int 0, .int (-1), .int 0, .ref q18, .int 0, .int 0, .ref q26, .ref q35, .ref q44, .ref q53, .int 0, .ref q62, .ref q70, .ref q78, .int 0, .ref q86, .ref q94, .null, .int 0, .int 0, .int 0, .int 0, .null, .null, .null, .null, .null, .null, .null, .null, .null, .null, .null])) :: [(q4, tf_ar cT 0 900), (q18, tf_ar cT 0 8), (q26, tf_ar cT 0 362), (q35, tf_ar cT 0 362), (q44, tf_ar cT 0 453), (q53, tf_ar cT 0 1812), (q62, tf_ar cT 0 30), (q70, tf_ar cT 0 30), (q78, tf_ar cT 0 30), (q86, tf_ar cT 0 6), (q94, tf_ar cT 0 6)]) H := hP
  have hD : va_D A ((h0, .inr (12, [.int 0, .ref q4, .int 0, .int 0, .int 0, .int 0, .int 0, .int 0, .int 0, .int 0, .int (-1), .int 0, .ref q18, .int 0, .int 0, .ref q26, .ref q35, .ref q44, .ref q53, .int 0, .ref q62, .ref q70, .ref q78, .int 0, .ref q86, .ref q94, .null, .int 0, .int 0, .int 0, .int 0, .null, .null, .null, .null, .null, .null, .null, .null, .null, .null, .null])) :: [(q4, tf_ar cT 0 900), (q18, tf_ar cT 0 8), (q26, tf_ar cT 0 362), (q35, tf_ar cT 0 362), (q44, tf_ar cT 0 453), (q53, tf_ar cT 0 1812), (q62, tf_ar cT 0 30), (q70, tf_ar cT 0 30), (q78, tf_ar cT 0 30), (q86, tf_ar cT 0 6), (q94, tf_ar cT 0 6)]) := hD
  refine tf_fld (k := 26) (i := 47) (t := 0) (N := 6) (n := 6) (te := .int) hx hb hts hin hown hK hA hl hP hD hS (by decide) (by decide +kernel) tf_w3 tf_w63 (by decide +kernel) (by decide +kernel) (Nat.le_of_ble_eq_true rfl) (Nat.le_of_ble_eq_true rfl) (Nat.le_of_ble_eq_true rfl) (Nat.le_of_ble_eq_true rfl) tf_d12_102 (fun k => lv_bipush (v := 6) hx hb tf_d12_103 (by decide +kernel) k) tf_d12_105 tf_d12_107 (fun q102 H locs hP hD hS => ?_)
  have hP : va_P D tb_cl ((h0, .inr (12, [.int 0, .ref q4, .int 0, .int 0, .int 0, .int 0, .int 0, .int 0, .int 0, .int 0, .int (-1), .int 0, .ref q18, .int 0, .int 0, .ref q26, .ref q35, .ref q44, .ref q53, .int 0, .ref q62, .ref q70, .ref q78, .int 0, .ref q86, .ref q94, .ref q102, .int 0, .int 0, .int 0, .int 0, .null, .null, .null, .null, .null, .null, .null, .null, .null, .null, .null])) :: [(q4, tf_ar cT 0 900), (q18, tf_ar cT 0 8), (q26, tf_ar cT 0 362), (q35, tf_ar cT 0 362), (q44, tf_ar cT 0 453), (q53, tf_ar cT 0 1812), (q62, tf_ar cT 0 30), (q70, tf_ar cT 0 30), (q78, tf_ar cT 0 30), (q86, tf_ar cT 0 6), (q94, tf_ar cT 0 6), (q102, tf_ar cT 0 6)]) H := hP
  have hD : va_D A ((h0, .inr (12, [.int 0, .ref q4, .int 0, .int 0, .int 0, .int 0, .int 0, .int 0, .int 0, .int 0, .int (-1), .int 0, .ref q18, .int 0, .int 0, .ref q26, .ref q35, .ref q44, .ref q53, .int 0, .ref q62, .ref q70, .ref q78, .int 0, .ref q86, .ref q94, .ref q102, .int 0, .int 0, .int 0, .int 0, .null, .null, .null, .null, .null, .null, .null, .null, .null, .null, .null])) :: [(q4, tf_ar cT 0 900), (q18, tf_ar cT 0 8), (q26, tf_ar cT 0 362), (q35, tf_ar cT 0 362), (q44, tf_ar cT 0 453), (q53, tf_ar cT 0 1812), (q62, tf_ar cT 0 30), (q70, tf_ar cT 0 30), (q78, tf_ar cT 0 30), (q86, tf_ar cT 0 6), (q94, tf_ar cT 0 6), (q102, tf_ar cT 0 6)]) := hD
  refine tf_fld (k := 31) (i := 50) (t := 0) (N := 4) (n := 4) (te := .int) hx hb hts hin hown hK hA hl hP hD hS (by decide) (by decide +kernel) tf_w3 tf_w64 (by decide +kernel) (by decide +kernel) (Nat.le_of_ble_eq_true rfl) (Nat.le_of_ble_eq_true rfl) (Nat.le_of_ble_eq_true rfl) (Nat.le_of_ble_eq_true rfl) tf_d12_110 (fun k => lv_iconst (v := 4) hx hb tf_d12_111 (by decide +kernel) k) tf_d12_112 tf_d12_114 (fun q110 H locs hP hD hS => ?_)
  have hP : va_P D tb_cl ((h0, .inr (12, [.int 0, .ref q4, .int 0, .int 0, .int 0, .int 0, .int 0, .int 0, .int 0, .int 0, .int (-1), .int 0, .ref q18, .int 0, .int 0, .ref q26, .ref q35, .ref q44, .ref q53, .int 0, .ref q62, .ref q70, .ref q78, .int 0, .ref q86, .ref q94, .ref q102, .int 0, .int 0, .int 0, .int 0, .ref q110, .null, .null, .null, .null, .null, .null, .null, .null, .null, .null])) :: [(q4, tf_ar cT 0 900), (q18, tf_ar cT 0 8), (q26, tf_ar cT 0 362), (q35, tf_ar cT 0 362), (q44, tf_ar cT 0 453), (q53, tf_ar cT 0 1812), (q62, tf_ar cT 0 30), (q70, tf_ar cT 0 30), (q78, tf_ar cT 0 30), (q86, tf_ar cT 0 6), (q94, tf_ar cT 0 6), (q102, tf_ar cT 0 6), (q110, tf_ar cT 0 4)]) H := hP
  have hD : va_D A ((h0, .inr (12, [.int 0, .ref q4, .int 0, .int 0, .int 0, .int 0, .int 0, .int 0, .int 0, .int 0, .int (-1), .int 0, .ref q18, .int 0, .int 0, .ref q26, .ref q35, .ref q44, .ref q53, .int 0, .ref q62, .ref q70, .ref q78, .int 0, .ref q86, .ref q94, .ref q102, .int 0, .int 0, .int 0, .int 0, .ref q110, .null, .null, .null, .null, .null, .null, .null, .null, .null, .null])) :: [(q4, tf_ar cT 0 900), (q18, tf_ar cT 0 8), (q26, tf_ar cT 0 362), (q35, tf_ar cT 0 362), (q44, tf_ar cT 0 453), (q53, tf_ar cT 0 1812), (q62, tf_ar cT 0 30), (q70, tf_ar cT 0 30), (q78, tf_ar cT 0 30), (q86, tf_ar cT 0 6), (q94, tf_ar cT 0 6), (q102, tf_ar cT 0 6), (q110, tf_ar cT 0 4)]) := hD
  refine tf_fld (k := 32) (i := 53) (t := 0) (N := 4) (n := 4) (te := .int) hx hb hts hin hown hK hA hl hP hD hS (by decide) (by decide +kernel) tf_w3 tf_w65 (by decide +kernel) (by decide +kernel) (Nat.le_of_ble_eq_true rfl) (Nat.le_of_ble_eq_true rfl) (Nat.le_of_ble_eq_true rfl) (Nat.le_of_ble_eq_true rfl) tf_d12_117 (fun k => lv_iconst (v := 4) hx hb tf_d12_118 (by decide +kernel) k) tf_d12_119 tf_d12_121 (fun q117 H locs hP hD hS => ?_)
  have hP : va_P D tb_cl ((h0, .inr (12, [.int 0, .ref q4, .int 0, .int 0, .int 0, .int 0, .int 0, .int 0, .int 0, .int 0, .int (-1), .int 0, .ref q18, .int 0, .int 0, .ref q26, .ref q35, .ref q44, .ref q53, .int 0, .ref q62, .ref q70, .ref q78, .int 0, .ref q86, .ref q94, .ref q102, .int 0, .int 0, .int 0, .int 0, .ref q110, .ref q117, .null, .null, .null, .null, .null, .null, .null, .null, .null])) :: [(q4, tf_ar cT 0 900), (q18, tf_ar cT 0 8), (q26, tf_ar cT 0 362), (q35, tf_ar cT 0 362), (q44, tf_ar cT 0 453), (q53, tf_ar cT 0 1812), (q62, tf_ar cT 0 30), (q70, tf_ar cT 0 30), (q78, tf_ar cT 0 30), (q86, tf_ar cT 0 6), (q94, tf_ar cT 0 6), (q102, tf_ar cT 0 6), (q110, tf_ar cT 0 4), (q117, tf_ar cT 0 4)]) H := hP
  have hD : va_D A ((h0, .inr (12, [.int 0, .ref q4, .int 0, .int 0, .int 0, .int 0, .int 0, .int 0, .int 0, .int 0, .int (-1), .int 0, .ref q18, .int 0, .int 0, .ref q26, .ref q35, .ref q44, .ref q53, .int 0, .ref q62, .ref q70, .ref q78, .int 0, .ref q86, .ref q94, .ref q102, .int 0, .int 0, .int 0, .int 0, .ref q110, .ref q117, .null, .null, .null, .null, .null, .null, .null, .null, .null])) :: [(q4, tf_ar cT 0 900), (q18, tf_ar cT 0 8), (q26, tf_ar cT 0 362), (q35, tf_ar cT 0 362), (q44, tf_ar cT 0 453), (q53, tf_ar cT 0 1812), (q62, tf_ar cT 0 30), (q70, tf_ar cT 0 30), (q78, tf_ar cT 0 30), (q86, tf_ar cT 0 6), (q94, tf_ar cT 0 6), (q102, tf_ar cT 0 6), (q110, tf_ar cT 0 4), (q117, tf_ar cT 0 4)]) := hD
  refine tf_fld (k := 33) (i := 56) (t := 0) (N := 800) (n := 800) (te := .int) hx hb hts hin hown hK hA hl hP hD hS (by decide) (by decide +kernel) tf_w3 tf_w66 (by decide +kernel) (by decide +kernel) (Nat.le_of_ble_eq_true rfl) (Nat.le_of_ble_eq_true rfl) (Nat.le_of_ble_eq_true rfl) (Nat.le_of_ble_eq_true rfl) tf_d12_124 (fun k => lv_sipush (v := 800) hx hb tf_d12_125 (by decide +kernel) k) tf_d12_128 tf_d12_130 (fun q124 H locs hP hD hS => ?_)
  have hP : va_P D tb_cl ((h0, .inr (12, [.int 0, .ref q4, .int 0, .int 0, .int 0, .int 0, .int 0, .int 0, .int 0, .int 0, .int (-1), .int 0, .ref q18, .int 0, .int 0, .ref q26, .ref q35, .ref q44, .ref q53, .int 0, .ref q62, .ref q70, .ref q78, .int 0, .ref q86, .ref q94, .ref q102, .int 0, .int 0, .int 0, .int 0, .ref q110, .ref q117, .ref q124, .null, .null, .null, .null, .null, .null, .null, .null])) :: [(q4, tf_ar cT 0 900), (q18, tf_ar cT 0 8), (q26, tf_ar cT 0 362), (q35, tf_ar cT 0 362), (q44, tf_ar cT 0 453), (q53, tf_ar cT 0 1812), (q62, tf_ar cT 0 30), (q70, tf_ar cT 0 30), (q78, tf_ar cT 0 30), (q86, tf_ar cT 0 6), (q94, tf_ar cT 0 6), (q102, tf_ar cT 0 6), (q110, tf_ar cT 0 4), (q117, tf_ar cT 0 4), (q124, tf_ar cT 0 800)]) H := hP
  have hD : va_D A ((h0, .inr (12, [.int 0, .ref q4, .int 0, .int 0, .int 0, .int 0, .int 0, .int 0, .int 0, .int 0, .int (-1), .int 0, .ref q18, .int 0, .int 0, .ref q26, .ref q35, .ref q44, .ref q53, .int 0, .ref q62, .ref q70, .ref q78, .int 0, .ref q86, .ref q94, .ref q102, .int 0, .int 0, .int 0, .int 0, .ref q110, .ref q117, .ref q124, .null, .null, .null, .null, .null, .null, .null, .null])) :: [(q4, tf_ar cT 0 900), (q18, tf_ar cT 0 8), (q26, tf_ar cT 0 362), (q35, tf_ar cT 0 362), (q44, tf_ar cT 0 453), (q53, tf_ar cT 0 1812), (q62, tf_ar cT 0 30), (q70, tf_ar cT 0 30), (q78, tf_ar cT 0 30), (q86, tf_ar cT 0 6), (q94, tf_ar cT 0 6), (q102, tf_ar cT 0 6), (q110, tf_ar cT 0 4), (q117, tf_ar cT 0 4), (q124, tf_ar cT 0 800)]) := hD
  refine tf_fld (k := 34) (i := 59) (t := 0) (N := 800) (n := 800) (te := .int) hx hb hts hin hown hK hA hl hP hD hS (by decide) (by decide +kernel) tf_w3 tf_w67 (by decide +kernel) (by decide +kernel) (Nat.le_of_ble_eq_true rfl) (Nat.le_of_ble_eq_true rfl) (Nat.le_of_ble_eq_true rfl) (Nat.le_of_ble_eq_true rfl) tf_d12_133 (fun k => lv_sipush (v := 800) hx hb tf_d12_134 (by decide +kernel) k) tf_d12_137 tf_d12_139 (fun q133 H locs hP hD hS => ?_)
  have hP : va_P D tb_cl ((h0, .inr (12, [.int 0, .ref q4, .int 0, .int 0, .int 0, .int 0, .int 0, .int 0, .int 0, .int 0, .int (-1), .int 0, .ref q18, .int 0, .int 0, .ref q26, .ref q35, .ref q44, .ref q53, .int 0, .ref q62, .ref q70, .ref q78, .int 0, .ref q86, .ref q94, .ref q102, .int 0, .int 0, .int 0, .int 0, .ref q110, .ref q117, .ref q124, .ref q133, .null, .null, .null, .null, .null, .null, .null])) :: [(q4, tf_ar cT 0 900), (q18, tf_ar cT 0 8), (q26, tf_ar cT 0 362), (q35, tf_ar cT 0 362), (q44, tf_ar cT 0 453), (q53, tf_ar cT 0 1812), (q62, tf_ar cT 0 30), (q70, tf_ar cT 0 30), (q78, tf_ar cT 0 30), (q86, tf_ar cT 0 6), (q94, tf_ar cT 0 6), (q102, tf_ar cT 0 6), (q110, tf_ar cT 0 4), (q117, tf_ar cT 0 4), (q124, tf_ar cT 0 800), (q133, tf_ar cT 0 800)]) H := hP
  have hD : va_D A ((h0, .inr (12, [.int 0, .ref q4, .int 0, .int 0, .int 0, .int 0, .int 0, .int 0, .int 0, .int 0, .int (-1), .int 0, .ref q18, .int 0, .int 0, .ref q26, .ref q35, .ref q44, .ref q53, .int 0, .ref q62, .ref q70, .ref q78, .int 0, .ref q86, .ref q94, .ref q102, .int 0, .int 0, .int 0, .int 0, .ref q110, .ref q117, .ref q124, .ref q133, .null, .null, .null, .null, .null, .null, .null])) :: [(q4, tf_ar cT 0 900), (q18, tf_ar cT 0 8), (q26, tf_ar cT 0 362), (q35, tf_ar cT 0 362), (q44, tf_ar cT 0 453), (q53, tf_ar cT 0 1812), (q62, tf_ar cT 0 30), (q70, tf_ar cT 0 30), (q78, tf_ar cT 0 30), (q86, tf_ar cT 0 6), (q94, tf_ar cT 0 6), (q102, tf_ar cT 0 6), (q110, tf_ar cT 0 4), (q117, tf_ar cT 0 4), (q124, tf_ar cT 0 800), (q133, tf_ar cT 0 800)]) := hD
  refine tf_fld (k := 35) (i := 62) (t := 0) (N := 40) (n := 40) (te := .int) hx hb hts hin hown hK hA hl hP hD hS (by decide) (by decide +kernel) tf_w3 tf_w68 (by decide +kernel) (by decide +kernel) (Nat.le_of_ble_eq_true rfl) (Nat.le_of_ble_eq_true rfl) (Nat.le_of_ble_eq_true rfl) (Nat.le_of_ble_eq_true rfl) tf_d12_142 (fun k => lv_bipush (v := 40) hx hb tf_d12_143 (by decide +kernel) k) tf_d12_145 tf_d12_147 (fun q142 H locs hP hD hS => ?_)
  have hP : va_P D tb_cl ((h0, .inr (12, [.int 0, .ref q4, .int 0, .int 0, .int 0, .int 0, .int 0, .int 0, .int 0, .int 0, .int (-1), .int 0, .ref q18, .int 0, .int 0, .ref q26, .ref q35, .ref q44, .ref q53, .int 0, .ref q62, .ref q70, .ref q78, .int 0, .ref q86, .ref q94, .ref q102, .int 0, .int 0, .int 0, .int 0, .ref q110, .ref q117, .ref q124, .ref q133, .ref q142, .null, .null, .null, .null, .null, .null])) :: [(q4, tf_ar cT 0 900), (q18, tf_ar cT 0 8), (q26, tf_ar cT 0 362), (q35, tf_ar cT 0 362), (q44, tf_ar cT 0 453), (q53, tf_ar cT 0 1812), (q62, tf_ar cT 0 30), (q70, tf_ar cT 0 30), (q78, tf_ar cT 0 30), (q86, tf_ar cT 0 6), (q94, tf_ar cT 0 6), (q102, tf_ar cT 0 6), (q110, tf_ar cT 0 4), (q117, tf_ar cT 0 4), (q124, tf_ar cT 0 800), (q133, tf_ar cT 0 800), (q142, tf_ar cT 0 40)]) H := hP
  have hD : va_D A ((h0, .inr (12, [.int 0, .ref q4, .int 0, .int 0, .int 0, .int 0, .int 0, .int 0, .int 0, .int 0, .int (-1), .int 0, .ref q18, .int 0, .int 0, .ref q26, .ref q35, .ref q44, .ref q53, .int 0, .ref q62, .ref q70, .ref q78, .int 0, .ref q86, .ref q94, .ref q102, .int 0, .int 0, .int 0, .int 0, .ref q110, .ref q117, .ref q124, .ref q133, .ref q142, .null, .null, .null, .null, .null, .null])) :: [(q4, tf_ar cT 0 900), (q18, tf_ar cT 0 8), (q26, tf_ar cT 0 362), (q35, tf_ar cT 0 362), (q44, tf_ar cT 0 453), (q53, tf_ar cT 0 1812), (q62, tf_ar cT 0 30), (q70, tf_ar cT 0 30), (q78, tf_ar cT 0 30), (q86, tf_ar cT 0 6), (q94, tf_ar cT 0 6), (q102, tf_ar cT 0 6), (q110, tf_ar cT 0 4), (q117, tf_ar cT 0 4), (q124, tf_ar cT 0 800), (q133, tf_ar cT 0 800), (q142, tf_ar cT 0 40)]) := hD
  refine tf_fld (k := 36) (i := 65) (t := 1) (N := 800) (n := 800) (te := .boolean) hx hb hts hin hown hK hA hl hP hD hS (by decide) (by decide +kernel) tf_w69 tf_w70 (by decide +kernel) (by decide +kernel) (Nat.le_of_ble_eq_true rfl) (Nat.le_of_ble_eq_true rfl) (Nat.le_of_ble_eq_true rfl) (Nat.le_of_ble_eq_true rfl) tf_d12_150 (fun k => lv_sipush (v := 800) hx hb tf_d12_151 (by decide +kernel) k) tf_d12_154 tf_d12_156 (fun q150 H locs hP hD hS => ?_)
  have hP : va_P D tb_cl ((h0, .inr (12, [.int 0, .ref q4, .int 0, .int 0, .int 0, .int 0, .int 0, .int 0, .int 0, .int 0, .int (-1), .int 0, .ref q18, .int 0, .int 0, .ref q26, .ref q35, .ref q44, .ref q53, .int 0, .ref q62, .ref q70, .ref q78, .int 0, .ref q86, .ref q94, .ref q102, .int 0, .int 0, .int 0, .int 0, .ref q110, .ref q117, .ref q124, .ref q133, .ref q142, .ref q150, .null, .null, .null, .null, .null])) :: [(q4, tf_ar cT 0 900), (q18, tf_ar cT 0 8), (q26, tf_ar cT 0 362), (q35, tf_ar cT 0 362), (q44, tf_ar cT 0 453), (q53, tf_ar cT 0 1812), (q62, tf_ar cT 0 30), (q70, tf_ar cT 0 30), (q78, tf_ar cT 0 30), (q86, tf_ar cT 0 6), (q94, tf_ar cT 0 6), (q102, tf_ar cT 0 6), (q110, tf_ar cT 0 4), (q117, tf_ar cT 0 4), (q124, tf_ar cT 0 800), (q133, tf_ar cT 0 800), (q142, tf_ar cT 0 40), (q150, tf_ar cT 1 800)]) H := hP
  have hD : va_D A ((h0, .inr (12, [.int 0, .ref q4, .int 0, .int 0, .int 0, .int 0, .int 0, .int 0, .int 0, .int 0, .int (-1), .int 0, .ref q18, .int 0, .int 0, .ref q26, .ref q35, .ref q44, .ref q53, .int 0, .ref q62, .ref q70, .ref q78, .int 0, .ref q86, .ref q94, .ref q102, .int 0, .int 0, .int 0, .int 0, .ref q110, .ref q117, .ref q124, .ref q133, .ref q142, .ref q150, .null, .null, .null, .null, .null])) :: [(q4, tf_ar cT 0 900), (q18, tf_ar cT 0 8), (q26, tf_ar cT 0 362), (q35, tf_ar cT 0 362), (q44, tf_ar cT 0 453), (q53, tf_ar cT 0 1812), (q62, tf_ar cT 0 30), (q70, tf_ar cT 0 30), (q78, tf_ar cT 0 30), (q86, tf_ar cT 0 6), (q94, tf_ar cT 0 6), (q102, tf_ar cT 0 6), (q110, tf_ar cT 0 4), (q117, tf_ar cT 0 4), (q124, tf_ar cT 0 800), (q133, tf_ar cT 0 800), (q142, tf_ar cT 0 40), (q150, tf_ar cT 1 800)]) := hD
  refine tf_fld (k := 37) (i := 69) (t := 3) (N := 11200) (n := 11200) (te := .long) hx hb hts hin hown hK hA hl hP hD hS (by decide) (by decide +kernel) tf_w10 tf_w71 (by decide +kernel) (by decide +kernel) (Nat.le_of_ble_eq_true rfl) (Nat.le_of_ble_eq_true rfl) (Nat.le_of_ble_eq_true rfl) (Nat.le_of_ble_eq_true rfl) tf_d12_159 (fun k => lv_sipush (v := 11200) hx hb tf_d12_160 (by decide +kernel) k) tf_d12_163 tf_d12_165 (fun q159 H locs hP hD hS => ?_)
  have hP : va_P D tb_cl ((h0, .inr (12, [.int 0, .ref q4, .int 0, .int 0, .int 0, .int 0, .int 0, .int 0, .int 0, .int 0, .int (-1), .int 0, .ref q18, .int 0, .int 0, .ref q26, .ref q35, .ref q44, .ref q53, .int 0, .ref q62, .ref q70, .ref q78, .int 0, .ref q86, .ref q94, .ref q102, .int 0, .int 0, .int 0, .int 0, .ref q110, .ref q117, .ref q124, .ref q133, .ref q142, .ref q150, .ref q159, .null, .null, .null, .null])) :: [(q4, tf_ar cT 0 900), (q18, tf_ar cT 0 8), (q26, tf_ar cT 0 362), (q35, tf_ar cT 0 362), (q44, tf_ar cT 0 453), (q53, tf_ar cT 0 1812), (q62, tf_ar cT 0 30), (q70, tf_ar cT 0 30), (q78, tf_ar cT 0 30), (q86, tf_ar cT 0 6), (q94, tf_ar cT 0 6), (q102, tf_ar cT 0 6), (q110, tf_ar cT 0 4), (q117, tf_ar cT 0 4), (q124, tf_ar cT 0 800), (q133, tf_ar cT 0 800), (q142, tf_ar cT 0 40), (q150, tf_ar cT 1 800), (q159, tf_ar cT 3 11200)]) H := hP
  have hD : va_D A ((h0, .inr (12, [.int 0, .ref q4, .int 0, .int 0, .int 0, .int 0, .int 0, .int 0, .int 0, .int 0, .int (-1), .int 0, .ref q18, .int 0, .int 0, .ref q26, .ref q35, .ref q44, .ref q53, .int 0, .ref q62, .ref q70, .ref q78, .int 0, .ref q86, .ref q94, .ref q102, .int 0, .int 0, .int 0, .int 0, .ref q110, .ref q117, .ref q124, .ref q133, .ref q142, .ref q150, .ref q159, .null, .null, .null, .null])) :: [(q4, tf_ar cT 0 900), (q18, tf_ar cT 0 8), (q26, tf_ar cT 0 362), (q35, tf_ar cT 0 362), (q44, tf_ar cT 0 453), (q53, tf_ar cT 0 1812), (q62, tf_ar cT 0 30), (q70, tf_ar cT 0 30), (q78, tf_ar cT 0 30), (q86, tf_ar cT 0 6), (q94, tf_ar cT 0 6), (q102, tf_ar cT 0 6), (q110, tf_ar cT 0 4), (q117, tf_ar cT 0 4), (q124, tf_ar cT 0 800), (q133, tf_ar cT 0 800), (q142, tf_ar cT 0 40), (q150, tf_ar cT 1 800), (q159, tf_ar cT 3 11200)]) := hD
  refine tf_fld (k := 38) (i := 73) (t := 3) (N := 11200) (n := 11200) (te := .long) hx hb hts hin hown hK hA hl hP hD hS (by decide) (by decide +kernel) tf_w10 tf_w72 (by decide +kernel) (by decide +kernel) (Nat.le_of_ble_eq_true rfl) (Nat.le_of_ble_eq_true rfl) (Nat.le_of_ble_eq_true rfl) (Nat.le_of_ble_eq_true rfl) tf_d12_168 (fun k => lv_sipush (v := 11200) hx hb tf_d12_169 (by decide +kernel) k) tf_d12_172 tf_d12_174 (fun q168 H locs hP hD hS => ?_)
  have hP : va_P D tb_cl ((h0, .inr (12, [.int 0, .ref q4, .int 0, .int 0, .int 0, .int 0, .int 0, .int 0, .int 0, .int 0, .int (-1), .int 0, .ref q18, .int 0, .int 0, .ref q26, .ref q35, .ref q44, .ref q53, .int 0, .ref q62, .ref q70, .ref q78, .int 0, .ref q86, .ref q94, .ref q102, .int 0, .int 0, .int 0, .int 0, .ref q110, .ref q117, .ref q124, .ref q133, .ref q142, .ref q150, .ref q159, .ref q168, .null, .null, .null])) :: [(q4, tf_ar cT 0 900), (q18, tf_ar cT 0 8), (q26, tf_ar cT 0 362), (q35, tf_ar cT 0 362), (q44, tf_ar cT 0 453), (q53, tf_ar cT 0 1812), (q62, tf_ar cT 0 30), (q70, tf_ar cT 0 30), (q78, tf_ar cT 0 30), (q86, tf_ar cT 0 6), (q94, tf_ar cT 0 6), (q102, tf_ar cT 0 6), (q110, tf_ar cT 0 4), (q117, tf_ar cT 0 4), (q124, tf_ar cT 0 800), (q133, tf_ar cT 0 800), (q142, tf_ar cT 0 40), (q150, tf_ar cT 1 800), (q159, tf_ar cT 3 11200), (q168, tf_ar cT 3 11200)]) H := hP
  have hD : va_D A ((h0, .inr (12, [.int 0, .ref q4, .int 0, .int 0, .int 0, .int 0, .int 0, .int 0, .int 0, .int 0, .int (-1), .int 0, .ref q18, .int 0, .int 0, .ref q26, .ref q35, .ref q44, .ref q53, .int 0, .ref q62, .ref q70, .ref q78, .int 0, .ref q86, .ref q94, .ref q102, .int 0, .int 0, .int 0, .int 0, .ref q110, .ref q117, .ref q124, .ref q133, .ref q142, .ref q150, .ref q159, .ref q168, .null, .null, .null])) :: [(q4, tf_ar cT 0 900), (q18, tf_ar cT 0 8), (q26, tf_ar cT 0 362), (q35, tf_ar cT 0 362), (q44, tf_ar cT 0 453), (q53, tf_ar cT 0 1812), (q62, tf_ar cT 0 30), (q70, tf_ar cT 0 30), (q78, tf_ar cT 0 30), (q86, tf_ar cT 0 6), (q94, tf_ar cT 0 6), (q102, tf_ar cT 0 6), (q110, tf_ar cT 0 4), (q117, tf_ar cT 0 4), (q124, tf_ar cT 0 800), (q133, tf_ar cT 0 800), (q142, tf_ar cT 0 40), (q150, tf_ar cT 1 800), (q159, tf_ar cT 3 11200), (q168, tf_ar cT 3 11200)]) := hD
  refine tf_fld (k := 39) (i := 76) (t := 1) (N := 100) (n := 100) (te := .boolean) hx hb hts hin hown hK hA hl hP hD hS (by decide) (by decide +kernel) tf_w69 tf_w73 (by decide +kernel) (by decide +kernel) (Nat.le_of_ble_eq_true rfl) (Nat.le_of_ble_eq_true rfl) (Nat.le_of_ble_eq_true rfl) (Nat.le_of_ble_eq_true rfl) tf_d12_177 (fun k => lv_bipush (v := 100) hx hb tf_d12_178 (by decide +kernel) k) tf_d12_180 tf_d12_182 (fun q177 H locs hP hD hS => ?_)
  have hP : va_P D tb_cl ((h0, .inr (12, [.int 0, .ref q4, .int 0, .int 0, .int 0, .int 0, .int 0, .int 0, .int 0, .int 0, .int (-1), .int 0, .ref q18, .int 0, .int 0, .ref q26, .ref q35, .ref q44, .ref q53, .int 0, .ref q62, .ref q70, .ref q78, .int 0, .ref q86, .ref q94, .ref q102, .int 0, .int 0, .int 0, .int 0, .ref q110, .ref q117, .ref q124, .ref q133, .ref q142, .ref q150, .ref q159, .ref q168, .ref q177, .null, .null])) :: [(q4, tf_ar cT 0 900), (q18, tf_ar cT 0 8), (q26, tf_ar cT 0 362), (q35, tf_ar cT 0 362), (q44, tf_ar cT 0 453), (q53, tf_ar cT 0 1812), (q62, tf_ar cT 0 30), (q70, tf_ar cT 0 30), (q78, tf_ar cT 0 30), (q86, tf_ar cT 0 6), (q94, tf_ar cT 0 6), (q102, tf_ar cT 0 6), (q110, tf_ar cT 0 4), (q117, tf_ar cT 0 4), (q124, tf_ar cT 0 800), (q133, tf_ar cT 0 800), (q142, tf_ar cT 0 40), (q150, tf_ar cT 1 800), (q159, tf_ar cT 3 11200), (q168, tf_ar cT 3 11200), (q177, tf_ar cT 1 100)]) H := hP
  have hD : va_D A ((h0, .inr (12, [.int 0, .ref q4, .int 0, .int 0, .int 0, .int 0, .int 0, .int 0, .int 0, .int 0, .int (-1), .int 0, .ref q18, .int 0, .int 0, .ref q26, .ref q35, .ref q44, .ref q53, .int 0, .ref q62, .ref q70, .ref q78, .int 0, .ref q86, .ref q94, .ref q102, .int 0, .int 0, .int 0, .int 0, .ref q110, .ref q117, .ref q124, .ref q133, .ref q142, .ref q150, .ref q159, .ref q168, .ref q177, .null, .null])) :: [(q4, tf_ar cT 0 900), (q18, tf_ar cT 0 8), (q26, tf_ar cT 0 362), (q35, tf_ar cT 0 362), (q44, tf_ar cT 0 453), (q53, tf_ar cT 0 1812), (q62, tf_ar cT 0 30), (q70, tf_ar cT 0 30), (q78, tf_ar cT 0 30), (q86, tf_ar cT 0 6), (q94, tf_ar cT 0 6), (q102, tf_ar cT 0 6), (q110, tf_ar cT 0 4), (q117, tf_ar cT 0 4), (q124, tf_ar cT 0 800), (q133, tf_ar cT 0 800), (q142, tf_ar cT 0 40), (q150, tf_ar cT 1 800), (q159, tf_ar cT 3 11200), (q168, tf_ar cT 3 11200), (q177, tf_ar cT 1 100)]) := hD
  refine tf_fld (k := 40) (i := 79) (t := 1) (N := 16800) (n := 16800) (te := .boolean) hx hb hts hin hown hK hA hl hP hD hS (by decide) (by decide +kernel) tf_w69 tf_w74 (by decide +kernel) (by decide +kernel) (Nat.le_of_ble_eq_true rfl) (Nat.le_of_ble_eq_true rfl) (Nat.le_of_ble_eq_true rfl) (Nat.le_of_ble_eq_true rfl) tf_d12_185 (fun k => lv_sipush (v := 16800) hx hb tf_d12_186 (by decide +kernel) k) tf_d12_189 tf_d12_191 (fun q185 H locs hP hD hS => ?_)
  have hP : va_P D tb_cl ((h0, .inr (12, [.int 0, .ref q4, .int 0, .int 0, .int 0, .int 0, .int 0, .int 0, .int 0, .int 0, .int (-1), .int 0, .ref q18, .int 0, .int 0, .ref q26, .ref q35, .ref q44, .ref q53, .int 0, .ref q62, .ref q70, .ref q78, .int 0, .ref q86, .ref q94, .ref q102, .int 0, .int 0, .int 0, .int 0, .ref q110, .ref q117, .ref q124, .ref q133, .ref q142, .ref q150, .ref q159, .ref q168, .ref q177, .ref q185, .null])) :: [(q4, tf_ar cT 0 900), (q18, tf_ar cT 0 8), (q26, tf_ar cT 0 362), (q35, tf_ar cT 0 362), (q44, tf_ar cT 0 453), (q53, tf_ar cT 0 1812), (q62, tf_ar cT 0 30), (q70, tf_ar cT 0 30), (q78, tf_ar cT 0 30), (q86, tf_ar cT 0 6), (q94, tf_ar cT 0 6), (q102, tf_ar cT 0 6), (q110, tf_ar cT 0 4), (q117, tf_ar cT 0 4), (q124, tf_ar cT 0 800), (q133, tf_ar cT 0 800), (q142, tf_ar cT 0 40), (q150, tf_ar cT 1 800), (q159, tf_ar cT 3 11200), (q168, tf_ar cT 3 11200), (q177, tf_ar cT 1 100), (q185, tf_ar cT 1 16800)]) H := hP
  have hD : va_D A ((h0, .inr (12, [.int 0, .ref q4, .int 0, .int 0, .int 0, .int 0, .int 0, .int 0, .int 0, .int 0, .int (-1), .int 0, .ref q18, .int 0, .int 0, .ref q26, .ref q35, .ref q44, .ref q53, .int 0, .ref q62, .ref q70, .ref q78, .int 0, .ref q86, .ref q94, .ref q102, .int 0, .int 0, .int 0, .int 0, .ref q110, .ref q117, .ref q124, .ref q133, .ref q142, .ref q150, .ref q159, .ref q168, .ref q177, .ref q185, .null])) :: [(q4, tf_ar cT 0 900), (q18, tf_ar cT 0 8), (q26, tf_ar cT 0 362), (q35, tf_ar cT 0 362), (q44, tf_ar cT 0 453), (q53, tf_ar cT 0 1812), (q62, tf_ar cT 0 30), (q70, tf_ar cT 0 30), (q78, tf_ar cT 0 30), (q86, tf_ar cT 0 6), (q94, tf_ar cT 0 6), (q102, tf_ar cT 0 6), (q110, tf_ar cT 0 4), (q117, tf_ar cT 0 4), (q124, tf_ar cT 0 800), (q133, tf_ar cT 0 800), (q142, tf_ar cT 0 40), (q150, tf_ar cT 1 800), (q159, tf_ar cT 3 11200), (q168, tf_ar cT 3 11200), (q177, tf_ar cT 1 100), (q185, tf_ar cT 1 16800)]) := hD
  refine tf_fld (k := 41) (i := 82) (t := 1) (N := 16800) (n := 16800) (te := .boolean) hx hb hts hin hown hK hA hl hP hD hS (by decide) (by decide +kernel) tf_w69 tf_w75 (by decide +kernel) (by decide +kernel) (Nat.le_of_ble_eq_true rfl) (Nat.le_of_ble_eq_true rfl) (Nat.le_of_ble_eq_true rfl) (Nat.le_of_ble_eq_true rfl) tf_d12_194 (fun k => lv_sipush (v := 16800) hx hb tf_d12_195 (by decide +kernel) k) tf_d12_198 tf_d12_200 (fun q194 H locs hP hD hS => ?_)
  have hP : va_P D tb_cl ((h0, .inr (12, [.int 0, .ref q4, .int 0, .int 0, .int 0, .int 0, .int 0, .int 0, .int 0, .int 0, .int (-1), .int 0, .ref q18, .int 0, .int 0, .ref q26, .ref q35, .ref q44, .ref q53, .int 0, .ref q62, .ref q70, .ref q78, .int 0, .ref q86, .ref q94, .ref q102, .int 0, .int 0, .int 0, .int 0, .ref q110, .ref q117, .ref q124, .ref q133, .ref q142, .ref q150, .ref q159, .ref q168, .ref q177, .ref q185, .ref q194])) :: [(q4, tf_ar cT 0 900), (q18, tf_ar cT 0 8), (q26, tf_ar cT 0 362), (q35, tf_ar cT 0 362), (q44, tf_ar cT 0 453), (q53, tf_ar cT 0 1812), (q62, tf_ar cT 0 30), (q70, tf_ar cT 0 30), (q78, tf_ar cT 0 30), (q86, tf_ar cT 0 6), (q94, tf_ar cT 0 6), (q102, tf_ar cT 0 6), (q110, tf_ar cT 0 4), (q117, tf_ar cT 0 4), (q124, tf_ar cT 0 800), (q133, tf_ar cT 0 800), (q142, tf_ar cT 0 40), (q150, tf_ar cT 1 800), (q159, tf_ar cT 3 11200), (q168, tf_ar cT 3 11200), (q177, tf_ar cT 1 100), (q185, tf_ar cT 1 16800), (q194, tf_ar cT 1 16800)]) H := hP
  have hD : va_D A ((h0, .inr (12, [.int 0, .ref q4, .int 0, .int 0, .int 0, .int 0, .int 0, .int 0, .int 0, .int 0, .int (-1), .int 0, .ref q18, .int 0, .int 0, .ref q26, .ref q35, .ref q44, .ref q53, .int 0, .ref q62, .ref q70, .ref q78, .int 0, .ref q86, .ref q94, .ref q102, .int 0, .int 0, .int 0, .int 0, .ref q110, .ref q117, .ref q124, .ref q133, .ref q142, .ref q150, .ref q159, .ref q168, .ref q177, .ref q185, .ref q194])) :: [(q4, tf_ar cT 0 900), (q18, tf_ar cT 0 8), (q26, tf_ar cT 0 362), (q35, tf_ar cT 0 362), (q44, tf_ar cT 0 453), (q53, tf_ar cT 0 1812), (q62, tf_ar cT 0 30), (q70, tf_ar cT 0 30), (q78, tf_ar cT 0 30), (q86, tf_ar cT 0 6), (q94, tf_ar cT 0 6), (q102, tf_ar cT 0 6), (q110, tf_ar cT 0 4), (q117, tf_ar cT 0 4), (q124, tf_ar cT 0 800), (q133, tf_ar cT 0 800), (q142, tf_ar cT 0 40), (q150, tf_ar cT 1 800), (q159, tf_ar cT 3 11200), (q168, tf_ar cT 3 11200), (q177, tf_ar cT 1 100), (q185, tf_ar cT 1 16800), (q194, tf_ar cT 1 16800)]) := hD
  have hP9 : va_P D tb_cl (tf_W12 cT h0 (fun i => [q4, q18, q26, q35, q44, q53, q62, q70, q78, q86, q94, q102, q110, q117, q124, q133, q142, q150, q159, q168, q177, q185, q194].getD i 0)) H := hP
  have hD9 : va_D A (tf_W12 cT h0 (fun i => [q4, q18, q26, q35, q44, q53, q62, q70, q78, q86, q94, q102, q110, q117, q124, q133, q142, q150, q159, q168, q177, q185, q194].getD i 0)) := hD
  refine W.widen (k := 23) (n := 62553) (Nat.le_of_ble_eq_true rfl) (Nat.le_of_ble_eq_true rfl) ?_
  exact W.vret hx hb hr (fun t ht hW => ⟨⟨(fun i => [q4, q18, q26, q35, q44, q53, q62, q70, q78, q86, q94, q102, q110, q117, q124, q133, q142, q150, q159, q168, q177, q185, q194].getD i 0), rfl, trivial, by rw [ht]; exact hP9, hD9⟩, hS.F ht⟩) hS.2.2 tf_d12_203
