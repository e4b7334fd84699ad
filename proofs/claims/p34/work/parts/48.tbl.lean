set_option maxRecDepth 100000 in
theorem wt0 : Cond.classLink RL 9 RX7 ∈ lw_tbl := List.mem_of_getElem? (i := 41) (by decide +kernel)
set_option maxRecDepth 100000 in
theorem wt1 : Cond.instantiable RX7 10 ∈ lw_tbl := List.mem_of_getElem? (i := 42) (by decide +kernel)
set_option maxRecDepth 100000 in
theorem wt2 : Cond.initialized RX7 ∈ lw_tbl := List.mem_of_getElem? (i := 26) (by decide +kernel)
set_option maxRecDepth 100000 in
theorem wt3 : Cond.methodLink RL 95 Lib.MathLoose.abs_long.x ∈ lw_tbl := List.mem_of_getElem? (i := 792) (by decide +kernel)
set_option maxRecDepth 100000 in
theorem wt4 : Cond.static Lib.MathLoose.abs_long.x ∈ lw_tbl := List.mem_of_getElem? (i := 495) (by decide +kernel)
set_option maxRecDepth 100000 in
theorem wt5 : Cond.initialized "java/lang/Math" ∈ lw_tbl := List.mem_of_getElem? (i := 40) (by decide +kernel)
set_option maxRecDepth 100000 in
theorem wt6 : Cond.code Lib.MathLoose.abs_long.x Lib.MathLoose.abs_long.code 2 (some .long) ∈ lw_tbl := List.mem_of_getElem? (i := 496) (by decide +kernel)
set_option maxRecDepth 100000 in
theorem wt7 : Cond.methodLink RL 11 yX7_init ∈ lw_tbl := List.mem_of_getElem? (i := 43) (by decide +kernel)
set_option maxRecDepth 100000 in
theorem wt8 : Cond.instanceMethod yX7_init ∈ lw_tbl := List.mem_of_getElem? (i := 44) (by decide +kernel)
set_option maxRecDepth 100000 in
theorem wt9 : Cond.code yX7_init cX7_init 1 none ∈ lw_tbl := List.mem_of_getElem? (i := 45) (by decide +kernel)
set_option maxRecDepth 100000 in
theorem wt10 : Cond.methodLink RX7 3 objectInit ∈ lw_tbl := List.mem_of_getElem? (i := 46) (by decide +kernel)
set_option maxRecDepth 100000 in
theorem wt11 : Cond.instanceMethod objectInit ∈ lw_tbl := List.mem_of_getElem? (i := 47) (by decide +kernel)
set_option maxRecDepth 100000 in
theorem wt12 : Cond.code objectInit ⟨#[0xb1]⟩ 1 none ∈ lw_tbl := List.mem_of_getElem? (i := 48) (by decide +kernel)
set_option maxRecDepth 100000 in
theorem wt13 : Cond.classLink RX7 9 RX0 ∈ lw_tbl := List.mem_of_getElem? (i := 49) (by decide +kernel)
set_option maxRecDepth 100000 in
theorem wt14 : Cond.instantiable RX0 6 ∈ lw_tbl := List.mem_of_getElem? (i := 50) (by decide +kernel)
set_option maxRecDepth 100000 in
theorem wt15 : Cond.initialized RX0 ∈ lw_tbl := List.mem_of_getElem? (i := 27) (by decide +kernel)
set_option maxRecDepth 100000 in
theorem wt16 : Cond.fieldLink RX7 12 "Tollgate" "accounts" "LTollgate$Accounts;" ∈ lw_tbl := List.mem_of_getElem? (i := 268) (by decide +kernel)
set_option maxRecDepth 100000 in
theorem wt17 : Cond.classLink RX7 16 RX1 ∈ lw_tbl := List.mem_of_getElem? (i := 82) (by decide +kernel)
set_option maxRecDepth 100000 in
theorem wt18 : Cond.instantiable RX1 4 ∈ lw_tbl := List.mem_of_getElem? (i := 83) (by decide +kernel)
set_option maxRecDepth 100000 in
theorem wt19 : Cond.initialized RX1 ∈ lw_tbl := List.mem_of_getElem? (i := 28) (by decide +kernel)
set_option maxRecDepth 100000 in
theorem wt20 : Cond.fieldLink RX7 19 "Tollgate" "draft" "LTollgate$Draft;" ∈ lw_tbl := List.mem_of_getElem? (i := 269) (by decide +kernel)
set_option maxRecDepth 100000 in
theorem wt21 : Cond.classLink RX7 23 RX3 ∈ lw_tbl := List.mem_of_getElem? (i := 134) (by decide +kernel)
set_option maxRecDepth 100000 in
theorem wt22 : Cond.instantiable RX3 12 ∈ lw_tbl := List.mem_of_getElem? (i := 135) (by decide +kernel)
set_option maxRecDepth 100000 in
theorem wt23 : Cond.initialized RX3 ∈ lw_tbl := List.mem_of_getElem? (i := 30) (by decide +kernel)
set_option maxRecDepth 100000 in
theorem wt24 : Cond.fieldLink RX7 26 "Tollgate" "journal" "LTollgate$Journal;" ∈ lw_tbl := List.mem_of_getElem? (i := 270) (by decide +kernel)
set_option maxRecDepth 100000 in
theorem wt25 : Cond.classLink RX7 30 RX2 ∈ lw_tbl := List.mem_of_getElem? (i := 192) (by decide +kernel)
set_option maxRecDepth 100000 in
theorem wt26 : Cond.instantiable RX2 5 ∈ lw_tbl := List.mem_of_getElem? (i := 193) (by decide +kernel)
set_option maxRecDepth 100000 in
theorem wt27 : Cond.initialized RX2 ∈ lw_tbl := List.mem_of_getElem? (i := 31) (by decide +kernel)
set_option maxRecDepth 100000 in
theorem wt28 : Cond.fieldLink RX7 33 "Tollgate" "holds" "LTollgate$Holds;" ∈ lw_tbl := List.mem_of_getElem? (i := 271) (by decide +kernel)
set_option maxRecDepth 100000 in
theorem wt29 : Cond.classLink RX7 37 RX5 ∈ lw_tbl := List.mem_of_getElem? (i := 214) (by decide +kernel)
set_option maxRecDepth 100000 in
theorem wt30 : Cond.instantiable RX5 5 ∈ lw_tbl := List.mem_of_getElem? (i := 215) (by decide +kernel)
set_option maxRecDepth 100000 in
theorem wt31 : Cond.initialized RX5 ∈ lw_tbl := List.mem_of_getElem? (i := 32) (by decide +kernel)
set_option maxRecDepth 100000 in
theorem wt32 : Cond.fieldLink RX7 40 "Tollgate" "lines" "LTollgate$Lines;" ∈ lw_tbl := List.mem_of_getElem? (i := 272) (by decide +kernel)
set_option maxRecDepth 100000 in
theorem wt33 : Cond.classLink RX7 44 RX6 ∈ lw_tbl := List.mem_of_getElem? (i := 242) (by decide +kernel)
set_option maxRecDepth 100000 in
theorem wt34 : Cond.instantiable RX6 5 ∈ lw_tbl := List.mem_of_getElem? (i := 243) (by decide +kernel)
set_option maxRecDepth 100000 in
theorem wt35 : Cond.initialized RX6 ∈ lw_tbl := List.mem_of_getElem? (i := 33) (by decide +kernel)
set_option maxRecDepth 100000 in
theorem wt36 : Cond.fieldLink RX7 49 "Tollgate" "kept" "LTollgate$Matching;" ∈ lw_tbl := List.mem_of_getElem? (i := 273) (by decide +kernel)
set_option maxRecDepth 100000 in
theorem wt37 : Cond.fieldLink RX7 53 "Tollgate" "trial" "LTollgate$Matching;" ∈ lw_tbl := List.mem_of_getElem? (i := 274) (by decide +kernel)
set_option maxRecDepth 100000 in
theorem wt38 : Cond.classLink RX7 56 RX4 ∈ lw_tbl := List.mem_of_getElem? (i := 266) (by decide +kernel)
set_option maxRecDepth 100000 in
theorem wt39 : Cond.instantiable RX4 4 ∈ lw_tbl := List.mem_of_getElem? (i := 89) (by decide +kernel)
set_option maxRecDepth 100000 in
theorem wt40 : Cond.initialized RX4 ∈ lw_tbl := List.mem_of_getElem? (i := 29) (by decide +kernel)
set_option maxRecDepth 100000 in
theorem wt41 : Cond.fieldLink RX7 59 "Tollgate" "plan" "LTollgate$LegRow;" ∈ lw_tbl := List.mem_of_getElem? (i := 275) (by decide +kernel)
set_option maxRecDepth 100000 in
theorem wt42 : Cond.fieldLink RX7 63 "Tollgate" "exchangeAccount" "I" ∈ lw_tbl := List.mem_of_getElem? (i := 276) (by decide +kernel)
set_option maxRecDepth 100000 in
theorem wt43 : Cond.fieldLink RX7 67 "Tollgate" "today" "I" ∈ lw_tbl := List.mem_of_getElem? (i := 277) (by decide +kernel)
set_option maxRecDepth 100000 in
theorem wt44 : Cond.instanceMethod yX0_init ∈ lw_tbl := List.mem_of_getElem? (i := 52) (by decide +kernel)
set_option maxRecDepth 100000 in
theorem wt45 : Cond.code yX0_init cX0_init 1 none ∈ lw_tbl := List.mem_of_getElem? (i := 53) (by decide +kernel)
set_option maxRecDepth 100000 in
theorem wt46 : Cond.methodLink RX0 3 objectInit ∈ lw_tbl := List.mem_of_getElem? (i := 54) (by decide +kernel)
set_option maxRecDepth 100000 in
theorem wt47 : Cond.arrayClass .int ∈ lw_tbl := List.mem_of_getElem? (i := 80) (by decide +kernel)
set_option maxRecDepth 100000 in
theorem wt48 : Cond.fieldLink RX0 9 "Tollgate$Accounts" "rates" "[I" ∈ lw_tbl := List.mem_of_getElem? (i := 55) (by decide +kernel)
set_option maxRecDepth 100000 in
theorem wt49 : Cond.fieldLink RX0 15 "Tollgate$Accounts" "kind" "[I" ∈ lw_tbl := List.mem_of_getElem? (i := 57) (by decide +kernel)
set_option maxRecDepth 100000 in
theorem wt50 : Cond.fieldLink RX0 18 "Tollgate$Accounts" "currency" "[I" ∈ lw_tbl := List.mem_of_getElem? (i := 59) (by decide +kernel)
set_option maxRecDepth 100000 in
theorem wt51 : Cond.fieldLink RX0 21 "Tollgate$Accounts" "floors" "[I" ∈ lw_tbl := List.mem_of_getElem? (i := 61) (by decide +kernel)
set_option maxRecDepth 100000 in
theorem wt52 : Cond.arrayClass .boolean ∈ lw_tbl := List.mem_of_getElem? (i := 81) (by decide +kernel)
set_option maxRecDepth 100000 in
theorem wt53 : Cond.fieldLink RX0 24 "Tollgate$Accounts" "hasFloor" "[Z" ∈ lw_tbl := List.mem_of_getElem? (i := 63) (by decide +kernel)
set_option maxRecDepth 100000 in
theorem wt54 : Cond.fieldLink RX0 28 "Tollgate$Accounts" "count" "I" ∈ lw_tbl := List.mem_of_getElem? (i := 65) (by decide +kernel)
set_option maxRecDepth 100000 in
theorem wt55 : Cond.instanceMethod yX1_init ∈ lw_tbl := List.mem_of_getElem? (i := 85) (by decide +kernel)
set_option maxRecDepth 100000 in
theorem wt56 : Cond.code yX1_init cX1_init 1 none ∈ lw_tbl := List.mem_of_getElem? (i := 86) (by decide +kernel)
set_option maxRecDepth 100000 in
theorem wt57 : Cond.methodLink RX1 1 objectInit ∈ lw_tbl := List.mem_of_getElem? (i := 87) (by decide +kernel)
set_option maxRecDepth 100000 in
theorem wt58 : Cond.classLink RX1 7 RX4 ∈ lw_tbl := List.mem_of_getElem? (i := 88) (by decide +kernel)
set_option maxRecDepth 100000 in
theorem wt59 : Cond.fieldLink RX1 10 "Tollgate$Draft" "legs" "LTollgate$LegRow;" ∈ lw_tbl := List.mem_of_getElem? (i := 117) (by decide +kernel)
set_option maxRecDepth 100000 in
theorem wt60 : Cond.fieldLink RX1 16 "Tollgate$Draft" "isThere" "Z" ∈ lw_tbl := List.mem_of_getElem? (i := 119) (by decide +kernel)
set_option maxRecDepth 100000 in
theorem wt61 : Cond.fieldLink RX1 20 "Tollgate$Draft" "day" "I" ∈ lw_tbl := List.mem_of_getElem? (i := 121) (by decide +kernel)
set_option maxRecDepth 100000 in
theorem wt62 : Cond.fieldLink RX1 24 "Tollgate$Draft" "note" "I" ∈ lw_tbl := List.mem_of_getElem? (i := 123) (by decide +kernel)
set_option maxRecDepth 100000 in
theorem wt63 : Cond.instanceMethod yX4_init ∈ lw_tbl := List.mem_of_getElem? (i := 91) (by decide +kernel)
set_option maxRecDepth 100000 in
theorem wt64 : Cond.code yX4_init cX4_init 1 none ∈ lw_tbl := List.mem_of_getElem? (i := 92) (by decide +kernel)
set_option maxRecDepth 100000 in
theorem wt65 : Cond.methodLink RX4 3 objectInit ∈ lw_tbl := List.mem_of_getElem? (i := 93) (by decide +kernel)
set_option maxRecDepth 100000 in
theorem wt66 : Cond.fieldLink RX4 9 "Tollgate$LegRow" "account" "[I" ∈ lw_tbl := List.mem_of_getElem? (i := 94) (by decide +kernel)
set_option maxRecDepth 100000 in
theorem wt67 : Cond.arrayClass .long ∈ lw_tbl := List.mem_of_getElem? (i := 116) (by decide +kernel)
set_option maxRecDepth 100000 in
theorem wt68 : Cond.fieldLink RX4 15 "Tollgate$LegRow" "amount" "[J" ∈ lw_tbl := List.mem_of_getElem? (i := 97) (by decide +kernel)
set_option maxRecDepth 100000 in
theorem wt69 : Cond.fieldLink RX4 19 "Tollgate$LegRow" "worth" "[J" ∈ lw_tbl := List.mem_of_getElem? (i := 100) (by decide +kernel)
set_option maxRecDepth 100000 in
theorem wt70 : Cond.fieldLink RX4 22 "Tollgate$LegRow" "count" "I" ∈ lw_tbl := List.mem_of_getElem? (i := 103) (by decide +kernel)
set_option maxRecDepth 100000 in
theorem wt71 : Cond.instanceMethod yX3_init ∈ lw_tbl := List.mem_of_getElem? (i := 137) (by decide +kernel)
set_option maxRecDepth 100000 in
theorem wt72 : Cond.code yX3_init cX3_init 1 none ∈ lw_tbl := List.mem_of_getElem? (i := 138) (by decide +kernel)
set_option maxRecDepth 100000 in
theorem wt73 : Cond.methodLink RX3 3 objectInit ∈ lw_tbl := List.mem_of_getElem? (i := 139) (by decide +kernel)
set_option maxRecDepth 100000 in
theorem wt74 : Cond.fieldLink RX3 9 "Tollgate$Journal" "day" "[I" ∈ lw_tbl := List.mem_of_getElem? (i := 140) (by decide +kernel)
set_option maxRecDepth 100000 in
theorem wt75 : Cond.fieldLink RX3 15 "Tollgate$Journal" "note" "[I" ∈ lw_tbl := List.mem_of_getElem? (i := 142) (by decide +kernel)
set_option maxRecDepth 100000 in
theorem wt76 : Cond.fieldLink RX3 18 "Tollgate$Journal" "firstLeg" "[I" ∈ lw_tbl := List.mem_of_getElem? (i := 144) (by decide +kernel)
set_option maxRecDepth 100000 in
theorem wt77 : Cond.fieldLink RX3 21 "Tollgate$Journal" "legsOf" "[I" ∈ lw_tbl := List.mem_of_getElem? (i := 147) (by decide +kernel)
set_option maxRecDepth 100000 in
theorem wt78 : Cond.fieldLink RX3 24 "Tollgate$Journal" "gone" "[Z" ∈ lw_tbl := List.mem_of_getElem? (i := 150) (by decide +kernel)
set_option maxRecDepth 100000 in
theorem wt79 : Cond.fieldLink RX3 28 "Tollgate$Journal" "isClosing" "[Z" ∈ lw_tbl := List.mem_of_getElem? (i := 152) (by decide +kernel)
set_option maxRecDepth 100000 in
theorem wt80 : Cond.fieldLink RX3 31 "Tollgate$Journal" "count" "I" ∈ lw_tbl := List.mem_of_getElem? (i := 153) (by decide +kernel)
set_option maxRecDepth 100000 in
theorem wt81 : Cond.fieldLink RX3 35 "Tollgate$Journal" "entryOf" "[I" ∈ lw_tbl := List.mem_of_getElem? (i := 155) (by decide +kernel)
set_option maxRecDepth 100000 in
theorem wt82 : Cond.fieldLink RX3 38 "Tollgate$Journal" "account" "[I" ∈ lw_tbl := List.mem_of_getElem? (i := 157) (by decide +kernel)
set_option maxRecDepth 100000 in
theorem wt83 : Cond.fieldLink RX3 41 "Tollgate$Journal" "amount" "[J" ∈ lw_tbl := List.mem_of_getElem? (i := 160) (by decide +kernel)
set_option maxRecDepth 100000 in
theorem wt84 : Cond.fieldLink RX3 45 "Tollgate$Journal" "worth" "[J" ∈ lw_tbl := List.mem_of_getElem? (i := 163) (by decide +kernel)
set_option maxRecDepth 100000 in
theorem wt85 : Cond.fieldLink RX3 48 "Tollgate$Journal" "legCount" "I" ∈ lw_tbl := List.mem_of_getElem? (i := 165) (by decide +kernel)
set_option maxRecDepth 100000 in
theorem wt86 : Cond.instanceMethod yX2_init ∈ lw_tbl := List.mem_of_getElem? (i := 195) (by decide +kernel)
set_option maxRecDepth 100000 in
theorem wt87 : Cond.code yX2_init cX2_init 1 none ∈ lw_tbl := List.mem_of_getElem? (i := 196) (by decide +kernel)
set_option maxRecDepth 100000 in
theorem wt88 : Cond.methodLink RX2 3 objectInit ∈ lw_tbl := List.mem_of_getElem? (i := 197) (by decide +kernel)
set_option maxRecDepth 100000 in
theorem wt89 : Cond.fieldLink RX2 9 "Tollgate$Holds" "account" "[I" ∈ lw_tbl := List.mem_of_getElem? (i := 198) (by decide +kernel)
set_option maxRecDepth 100000 in
theorem wt90 : Cond.fieldLink RX2 15 "Tollgate$Holds" "amount" "[I" ∈ lw_tbl := List.mem_of_getElem? (i := 199) (by decide +kernel)
set_option maxRecDepth 100000 in
theorem wt91 : Cond.fieldLink RX2 18 "Tollgate$Holds" "lastDay" "[I" ∈ lw_tbl := List.mem_of_getElem? (i := 200) (by decide +kernel)
set_option maxRecDepth 100000 in
theorem wt92 : Cond.fieldLink RX2 21 "Tollgate$Holds" "isEnded" "[Z" ∈ lw_tbl := List.mem_of_getElem? (i := 201) (by decide +kernel)
set_option maxRecDepth 100000 in
theorem wt93 : Cond.fieldLink RX2 25 "Tollgate$Holds" "count" "I" ∈ lw_tbl := List.mem_of_getElem? (i := 202) (by decide +kernel)
set_option maxRecDepth 100000 in
theorem wt94 : Cond.instanceMethod yX5_init ∈ lw_tbl := List.mem_of_getElem? (i := 217) (by decide +kernel)
set_option maxRecDepth 100000 in
theorem wt95 : Cond.code yX5_init cX5_init 1 none ∈ lw_tbl := List.mem_of_getElem? (i := 218) (by decide +kernel)
set_option maxRecDepth 100000 in
theorem wt96 : Cond.methodLink RX5 3 objectInit ∈ lw_tbl := List.mem_of_getElem? (i := 219) (by decide +kernel)
set_option maxRecDepth 100000 in
theorem wt97 : Cond.fieldLink RX5 9 "Tollgate$Lines" "account" "[I" ∈ lw_tbl := List.mem_of_getElem? (i := 220) (by decide +kernel)
set_option maxRecDepth 100000 in
theorem wt98 : Cond.fieldLink RX5 15 "Tollgate$Lines" "day" "[I" ∈ lw_tbl := List.mem_of_getElem? (i := 222) (by decide +kernel)
set_option maxRecDepth 100000 in
theorem wt99 : Cond.fieldLink RX5 18 "Tollgate$Lines" "amount" "[I" ∈ lw_tbl := List.mem_of_getElem? (i := 224) (by decide +kernel)
set_option maxRecDepth 100000 in
theorem wt100 : Cond.fieldLink RX5 21 "Tollgate$Lines" "byDay" "[I" ∈ lw_tbl := List.mem_of_getElem? (i := 226) (by decide +kernel)
set_option maxRecDepth 100000 in
theorem wt101 : Cond.fieldLink RX5 24 "Tollgate$Lines" "count" "I" ∈ lw_tbl := List.mem_of_getElem? (i := 228) (by decide +kernel)
set_option maxRecDepth 100000 in
theorem wt102 : Cond.methodLink RX7 46 yX6_init ∈ lw_tbl := List.mem_of_getElem? (i := 244) (by decide +kernel)
set_option maxRecDepth 100000 in
theorem wt103 : Cond.instanceMethod yX6_init ∈ lw_tbl := List.mem_of_getElem? (i := 245) (by decide +kernel)
set_option maxRecDepth 100000 in
theorem wt104 : Cond.code yX6_init cX6_init 4 none ∈ lw_tbl := List.mem_of_getElem? (i := 246) (by decide +kernel)
set_option maxRecDepth 100000 in
theorem wt105 : Cond.methodLink RX6 3 objectInit ∈ lw_tbl := List.mem_of_getElem? (i := 247) (by decide +kernel)
set_option maxRecDepth 100000 in
theorem wt106 : Cond.fieldLink RX6 9 "Tollgate$Matching" "lineOfLeg" "[I" ∈ lw_tbl := List.mem_of_getElem? (i := 250) (by decide +kernel)
set_option maxRecDepth 100000 in
theorem wt107 : Cond.fieldLink RX6 15 "Tollgate$Matching" "firstOfLine" "[I" ∈ lw_tbl := List.mem_of_getElem? (i := 252) (by decide +kernel)
set_option maxRecDepth 100000 in
theorem wt108 : Cond.fieldLink RX6 18 "Tollgate$Matching" "secondOfLine" "[I" ∈ lw_tbl := List.mem_of_getElem? (i := 254) (by decide +kernel)
set_option maxRecDepth 100000 in
theorem wt109 : Cond.fieldLink RX6 21 "Tollgate$Matching" "journal" "LTollgate$Journal;" ∈ lw_tbl := List.mem_of_getElem? (i := 248) (by decide +kernel)
set_option maxRecDepth 100000 in
theorem wt110 : Cond.fieldLink RX6 25 "Tollgate$Matching" "lines" "LTollgate$Lines;" ∈ lw_tbl := List.mem_of_getElem? (i := 249) (by decide +kernel)
set_option maxRecDepth 100000 in
theorem wt111 : Cond.methodLink RL 12 yL_cell ∈ lw_tbl := List.mem_of_getElem? (i := 788) (by decide +kernel)
set_option maxRecDepth 100000 in
theorem wt112 : Cond.static yL_cell ∈ lw_tbl := List.mem_of_getElem? (i := 789) (by decide +kernel)
set_option maxRecDepth 100000 in
theorem wt113 : Cond.initialized RL ∈ lw_tbl := List.mem_of_getElem? (i := 25) (by decide +kernel)
set_option maxRecDepth 100000 in
theorem wt114 : Cond.code yL_cell cL_cell 2 (some .int) ∈ lw_tbl := List.mem_of_getElem? (i := 790) (by decide +kernel)
set_option maxRecDepth 100000 in
theorem wt115 : Cond.constant RL 8 (790386105) ∈ lw_tbl := List.mem_of_getElem? (i := 791) (by decide +kernel)
set_option maxRecDepth 100000 in
theorem wt116 : Cond.methodLink RL 18 yL_below ∈ lw_tbl := List.mem_of_getElem? (i := 784) (by decide +kernel)
set_option maxRecDepth 100000 in
theorem wt117 : Cond.static yL_below ∈ lw_tbl := List.mem_of_getElem? (i := 785) (by decide +kernel)
set_option maxRecDepth 100000 in
theorem wt118 : Cond.code yL_below cL_below 2 (some .int) ∈ lw_tbl := List.mem_of_getElem? (i := 786) (by decide +kernel)
set_option maxRecDepth 100000 in
theorem wt119 : Cond.constant RL 7 (2147483647) ∈ lw_tbl := List.mem_of_getElem? (i := 787) (by decide +kernel)
set_option maxRecDepth 100000 in
theorem wt120 : Cond.methodLink RL 22 yX7_rate ∈ lw_tbl := List.mem_of_getElem? (i := 299) (by decide +kernel)
set_option maxRecDepth 100000 in
theorem wt121 : Cond.instanceMethod yX7_rate ∈ lw_tbl := List.mem_of_getElem? (i := 300) (by decide +kernel)
set_option maxRecDepth 100000 in
theorem wt122 : Cond.selects RX7 yX7_rate yX7_rate ∈ lw_tbl := List.mem_of_getElem? (i := 301) (by decide +kernel)
set_option maxRecDepth 100000 in
theorem wt123 : Cond.code yX7_rate cX7_rate 4 (some .int) ∈ lw_tbl := List.mem_of_getElem? (i := 302) (by decide +kernel)
set_option maxRecDepth 100000 in
theorem wt124 : Cond.classLink RX7 71 "java/lang/IllegalArgumentException" ∈ lw_tbl := List.mem_of_getElem? (i := 304) (by decide +kernel)
set_option maxRecDepth 100000 in
theorem wt125 : Cond.initialized "java/lang/IllegalArgumentException" ∈ lw_tbl := List.mem_of_getElem? (i := 37) (by decide +kernel)
set_option maxRecDepth 100000 in
theorem wt126 : Cond.classLink RX7 82 "java/lang/IllegalStateException" ∈ lw_tbl := List.mem_of_getElem? (i := 376) (by decide +kernel)
set_option maxRecDepth 100000 in
theorem wt127 : Cond.initialized "java/lang/IllegalStateException" ∈ lw_tbl := List.mem_of_getElem? (i := 38) (by decide +kernel)
set_option maxRecDepth 100000 in
theorem wt128 : Cond.constant RX7 70 (100000) ∈ lw_tbl := List.mem_of_getElem? (i := 303) (by decide +kernel)
set_option maxRecDepth 100000 in
theorem wt129 : Cond.fieldLink RX7 87 "Tollgate$Accounts" "rates" "[I" ∈ lw_tbl := List.mem_of_getElem? (i := 56) (by decide +kernel)
set_option maxRecDepth 100000 in
theorem wt130 : Cond.methodLink RX7 78 yX0_anyIn ∈ lw_tbl := List.mem_of_getElem? (i := 372) (by decide +kernel)
set_option maxRecDepth 100000 in
theorem wt131 : Cond.instanceMethod yX0_anyIn ∈ lw_tbl := List.mem_of_getElem? (i := 373) (by decide +kernel)
set_option maxRecDepth 100000 in
theorem wt132 : Cond.selects RX0 yX0_anyIn yX0_anyIn ∈ lw_tbl := List.mem_of_getElem? (i := 374) (by decide +kernel)
set_option maxRecDepth 100000 in
theorem wt133 : Cond.code yX0_anyIn cX0_anyIn 3 (some .boolean) ∈ lw_tbl := List.mem_of_getElem? (i := 375) (by decide +kernel)
set_option maxRecDepth 100000 in
theorem wt134 : Cond.methodLink RL 25 yX7_account ∈ lw_tbl := List.mem_of_getElem? (i := 392) (by decide +kernel)
set_option maxRecDepth 100000 in
theorem wt135 : Cond.instanceMethod yX7_account ∈ lw_tbl := List.mem_of_getElem? (i := 393) (by decide +kernel)
set_option maxRecDepth 100000 in
theorem wt136 : Cond.selects RX7 yX7_account yX7_account ∈ lw_tbl := List.mem_of_getElem? (i := 394) (by decide +kernel)
set_option maxRecDepth 100000 in
theorem wt137 : Cond.code yX7_account cX7_account 3 (some .int) ∈ lw_tbl := List.mem_of_getElem? (i := 395) (by decide +kernel)
set_option maxRecDepth 100000 in
theorem wt138 : Cond.fieldLink RX7 93 "Tollgate$Accounts" "count" "I" ∈ lw_tbl := List.mem_of_getElem? (i := 66) (by decide +kernel)
set_option maxRecDepth 100000 in
theorem wt139 : Cond.methodLink RX7 98 yX0_add ∈ lw_tbl := List.mem_of_getElem? (i := 398) (by decide +kernel)
set_option maxRecDepth 100000 in
theorem wt140 : Cond.instanceMethod yX0_add ∈ lw_tbl := List.mem_of_getElem? (i := 399) (by decide +kernel)
set_option maxRecDepth 100000 in
theorem wt141 : Cond.selects RX0 yX0_add yX0_add ∈ lw_tbl := List.mem_of_getElem? (i := 400) (by decide +kernel)
set_option maxRecDepth 100000 in
theorem wt142 : Cond.code yX0_add cX0_add 3 (some .int) ∈ lw_tbl := List.mem_of_getElem? (i := 401) (by decide +kernel)
set_option maxRecDepth 100000 in
theorem wt143 : Cond.methodLink RL 28 yX7_exchange ∈ lw_tbl := List.mem_of_getElem? (i := 402) (by decide +kernel)
set_option maxRecDepth 100000 in
theorem wt144 : Cond.instanceMethod yX7_exchange ∈ lw_tbl := List.mem_of_getElem? (i := 403) (by decide +kernel)
set_option maxRecDepth 100000 in
theorem wt145 : Cond.selects RX7 yX7_exchange yX7_exchange ∈ lw_tbl := List.mem_of_getElem? (i := 404) (by decide +kernel)
set_option maxRecDepth 100000 in
theorem wt146 : Cond.code yX7_exchange cX7_exchange 3 (some .int) ∈ lw_tbl := List.mem_of_getElem? (i := 405) (by decide +kernel)
set_option maxRecDepth 100000 in
theorem wt147 : Cond.fieldLink RX7 126 "Tollgate$Accounts" "currency" "[I" ∈ lw_tbl := List.mem_of_getElem? (i := 60) (by decide +kernel)
set_option maxRecDepth 100000 in
theorem wt148 : Cond.methodLink RX7 102 yX7_needAccount ∈ lw_tbl := List.mem_of_getElem? (i := 406) (by decide +kernel)
set_option maxRecDepth 100000 in
theorem wt149 : Cond.instanceMethod yX7_needAccount ∈ lw_tbl := List.mem_of_getElem? (i := 408) (by decide +kernel)
set_option maxRecDepth 100000 in
theorem wt150 : Cond.selects RX7 yX7_needAccount yX7_needAccount ∈ lw_tbl := List.mem_of_getElem? (i := 1) (by decide +kernel)
set_option maxRecDepth 100000 in
theorem wt151 : Cond.code yX7_needAccount cX7_needAccount 2 none ∈ lw_tbl := List.mem_of_getElem? (i := 409) (by decide +kernel)
set_option maxRecDepth 100000 in
theorem wt152 : Cond.classLink RX7 194 "java/lang/IndexOutOfBoundsException" ∈ lw_tbl := List.mem_of_getElem? (i := 410) (by decide +kernel)
set_option maxRecDepth 100000 in
theorem wt153 : Cond.initialized "java/lang/IndexOutOfBoundsException" ∈ lw_tbl := List.mem_of_getElem? (i := 39) (by decide +kernel)
set_option maxRecDepth 100000 in
theorem wt154 : Cond.methodLink RL 32 yX7_pass ∈ lw_tbl := List.mem_of_getElem? (i := 427) (by decide +kernel)
set_option maxRecDepth 100000 in
theorem wt155 : Cond.instanceMethod yX7_pass ∈ lw_tbl := List.mem_of_getElem? (i := 428) (by decide +kernel)
set_option maxRecDepth 100000 in
theorem wt156 : Cond.selects RX7 yX7_pass yX7_pass ∈ lw_tbl := List.mem_of_getElem? (i := 429) (by decide +kernel)
set_option maxRecDepth 100000 in
theorem wt157 : Cond.code yX7_pass cX7_pass 2 (some .int) ∈ lw_tbl := List.mem_of_getElem? (i := 430) (by decide +kernel)
set_option maxRecDepth 100000 in
theorem wt158 : Cond.methodLink RL 35 yX7_many ∈ lw_tbl := List.mem_of_getElem? (i := 700) (by decide +kernel)
set_option maxRecDepth 100000 in
theorem wt159 : Cond.instanceMethod yX7_many ∈ lw_tbl := List.mem_of_getElem? (i := 701) (by decide +kernel)
set_option maxRecDepth 100000 in
theorem wt160 : Cond.selects RX7 yX7_many yX7_many ∈ lw_tbl := List.mem_of_getElem? (i := 702) (by decide +kernel)
set_option maxRecDepth 100000 in
theorem wt161 : Cond.code yX7_many cX7_many 2 (some .int) ∈ lw_tbl := List.mem_of_getElem? (i := 703) (by decide +kernel)
set_option maxRecDepth 100000 in
theorem wt162 : Cond.fieldLink RX7 301 "Tollgate$Lines" "count" "I" ∈ lw_tbl := List.mem_of_getElem? (i := 230) (by decide +kernel)
set_option maxRecDepth 100000 in
theorem wt163 : Cond.methodLink RX7 337 yX3_countStanding ∈ lw_tbl := List.mem_of_getElem? (i := 704) (by decide +kernel)
set_option maxRecDepth 100000 in
theorem wt164 : Cond.instanceMethod yX3_countStanding ∈ lw_tbl := List.mem_of_getElem? (i := 705) (by decide +kernel)
set_option maxRecDepth 100000 in
theorem wt165 : Cond.selects RX3 yX3_countStanding yX3_countStanding ∈ lw_tbl := List.mem_of_getElem? (i := 706) (by decide +kernel)
set_option maxRecDepth 100000 in
theorem wt166 : Cond.code yX3_countStanding cX3_countStanding 3 (some .int) ∈ lw_tbl := List.mem_of_getElem? (i := 707) (by decide +kernel)
set_option maxRecDepth 100000 in
theorem wt167 : Cond.methodLink RX7 340 yX2_countOpen ∈ lw_tbl := List.mem_of_getElem? (i := 708) (by decide +kernel)
set_option maxRecDepth 100000 in
theorem wt168 : Cond.instanceMethod yX2_countOpen ∈ lw_tbl := List.mem_of_getElem? (i := 709) (by decide +kernel)
set_option maxRecDepth 100000 in
theorem wt169 : Cond.selects RX2 yX2_countOpen yX2_countOpen ∈ lw_tbl := List.mem_of_getElem? (i := 710) (by decide +kernel)
set_option maxRecDepth 100000 in
theorem wt170 : Cond.code yX2_countOpen cX2_countOpen 4 (some .int) ∈ lw_tbl := List.mem_of_getElem? (i := 711) (by decide +kernel)
set_option maxRecDepth 100000 in
theorem wt171 : Cond.methodLink RX2 29 yX2_isOpen ∈ lw_tbl := List.mem_of_getElem? (i := 533) (by decide +kernel)
set_option maxRecDepth 100000 in
theorem wt172 : Cond.instanceMethod yX2_isOpen ∈ lw_tbl := List.mem_of_getElem? (i := 534) (by decide +kernel)
set_option maxRecDepth 100000 in
theorem wt173 : Cond.selects RX2 yX2_isOpen yX2_isOpen ∈ lw_tbl := List.mem_of_getElem? (i := 535) (by decide +kernel)
set_option maxRecDepth 100000 in
theorem wt174 : Cond.code yX2_isOpen cX2_isOpen 3 (some .boolean) ∈ lw_tbl := List.mem_of_getElem? (i := 536) (by decide +kernel)
set_option maxRecDepth 100000 in
theorem wt175 : Cond.methodLink RX7 277 yX3_lastLocked ∈ lw_tbl := List.mem_of_getElem? (i := 478) (by decide +kernel)
set_option maxRecDepth 100000 in
theorem wt176 : Cond.instanceMethod yX3_lastLocked ∈ lw_tbl := List.mem_of_getElem? (i := 479) (by decide +kernel)
set_option maxRecDepth 100000 in
theorem wt177 : Cond.selects RX3 yX3_lastLocked yX3_lastLocked ∈ lw_tbl := List.mem_of_getElem? (i := 480) (by decide +kernel)
set_option maxRecDepth 100000 in
theorem wt178 : Cond.code yX3_lastLocked cX3_lastLocked 2 (some .int) ∈ lw_tbl := List.mem_of_getElem? (i := 481) (by decide +kernel)
set_option maxRecDepth 100000 in
theorem wt179 : Cond.methodLink RX3 65 yX3_lastClosing ∈ lw_tbl := List.mem_of_getElem? (i := 482) (by decide +kernel)
set_option maxRecDepth 100000 in
theorem wt180 : Cond.instanceMethod yX3_lastClosing ∈ lw_tbl := List.mem_of_getElem? (i := 483) (by decide +kernel)
set_option maxRecDepth 100000 in
theorem wt181 : Cond.selects RX3 yX3_lastClosing yX3_lastClosing ∈ lw_tbl := List.mem_of_getElem? (i := 484) (by decide +kernel)
set_option maxRecDepth 100000 in
theorem wt182 : Cond.code yX3_lastClosing cX3_lastClosing 2 (some .int) ∈ lw_tbl := List.mem_of_getElem? (i := 485) (by decide +kernel)
set_option maxRecDepth 100000 in
theorem wt183 : Cond.methodLink RL 38 yX7_wouldClose ∈ lw_tbl := List.mem_of_getElem? (i := 755) (by decide +kernel)
set_option maxRecDepth 100000 in
theorem wt184 : Cond.instanceMethod yX7_wouldClose ∈ lw_tbl := List.mem_of_getElem? (i := 756) (by decide +kernel)
set_option maxRecDepth 100000 in
theorem wt185 : Cond.selects RX7 yX7_wouldClose yX7_wouldClose ∈ lw_tbl := List.mem_of_getElem? (i := 757) (by decide +kernel)
set_option maxRecDepth 100000 in
theorem wt186 : Cond.code yX7_wouldClose cX7_wouldClose 2 (some .long) ∈ lw_tbl := List.mem_of_getElem? (i := 758) (by decide +kernel)
set_option maxRecDepth 100000 in
theorem wt187 : Cond.methodLink RX7 133 yX7_needDay ∈ lw_tbl := List.mem_of_getElem? (i := 436) (by decide +kernel)
set_option maxRecDepth 100000 in
theorem wt188 : Cond.static yX7_needDay ∈ lw_tbl := List.mem_of_getElem? (i := 437) (by decide +kernel)
set_option maxRecDepth 100000 in
theorem wt189 : Cond.code yX7_needDay cX7_needDay 1 none ∈ lw_tbl := List.mem_of_getElem? (i := 438) (by decide +kernel)
set_option maxRecDepth 100000 in
theorem wt190 : Cond.methodLink RX7 286 yX7_planClosing ∈ lw_tbl := List.mem_of_getElem? (i := 584) (by decide +kernel)
set_option maxRecDepth 100000 in
theorem wt191 : Cond.instanceMethod yX7_planClosing ∈ lw_tbl := List.mem_of_getElem? (i := 586) (by decide +kernel)
set_option maxRecDepth 100000 in
theorem wt192 : Cond.selects RX7 yX7_planClosing yX7_planClosing ∈ lw_tbl := List.mem_of_getElem? (i := 10) (by decide +kernel)
set_option maxRecDepth 100000 in
theorem wt193 : Cond.code yX7_planClosing cX7_planClosing 5 none ∈ lw_tbl := List.mem_of_getElem? (i := 587) (by decide +kernel)
set_option maxRecDepth 100000 in
theorem wt194 : Cond.fieldLink RX7 141 "Tollgate$LegRow" "count" "I" ∈ lw_tbl := List.mem_of_getElem? (i := 106) (by decide +kernel)
set_option maxRecDepth 100000 in
theorem wt195 : Cond.methodLink RX7 353 yX0_isClosed ∈ lw_tbl := List.mem_of_getElem? (i := 588) (by decide +kernel)
set_option maxRecDepth 100000 in
theorem wt196 : Cond.instanceMethod yX0_isClosed ∈ lw_tbl := List.mem_of_getElem? (i := 589) (by decide +kernel)
set_option maxRecDepth 100000 in
theorem wt197 : Cond.selects RX0 yX0_isClosed yX0_isClosed ∈ lw_tbl := List.mem_of_getElem? (i := 590) (by decide +kernel)
set_option maxRecDepth 100000 in
theorem wt198 : Cond.code yX0_isClosed cX0_isClosed 2 (some .boolean) ∈ lw_tbl := List.mem_of_getElem? (i := 591) (by decide +kernel)
set_option maxRecDepth 100000 in
theorem wt199 : Cond.methodLink RX7 345 yX3_amountUpTo ∈ lw_tbl := List.mem_of_getElem? (i := 509) (by decide +kernel)
set_option maxRecDepth 100000 in
theorem wt200 : Cond.instanceMethod yX3_amountUpTo ∈ lw_tbl := List.mem_of_getElem? (i := 510) (by decide +kernel)
set_option maxRecDepth 100000 in
theorem wt201 : Cond.selects RX3 yX3_amountUpTo yX3_amountUpTo ∈ lw_tbl := List.mem_of_getElem? (i := 511) (by decide +kernel)
set_option maxRecDepth 100000 in
theorem wt202 : Cond.code yX3_amountUpTo cX3_amountUpTo 6 (some .long) ∈ lw_tbl := List.mem_of_getElem? (i := 512) (by decide +kernel)
set_option maxRecDepth 100000 in
theorem wt203 : Cond.methodLink RX3 69 yX3_counts ∈ lw_tbl := List.mem_of_getElem? (i := 513) (by decide +kernel)
set_option maxRecDepth 100000 in
theorem wt204 : Cond.instanceMethod yX3_counts ∈ lw_tbl := List.mem_of_getElem? (i := 514) (by decide +kernel)
set_option maxRecDepth 100000 in
theorem wt205 : Cond.selects RX3 yX3_counts yX3_counts ∈ lw_tbl := List.mem_of_getElem? (i := 515) (by decide +kernel)
set_option maxRecDepth 100000 in
theorem wt206 : Cond.code yX3_counts cX3_counts 2 (some .boolean) ∈ lw_tbl := List.mem_of_getElem? (i := 516) (by decide +kernel)
set_option maxRecDepth 100000 in
theorem wt207 : Cond.methodLink RX3 73 yX3_dayOf ∈ lw_tbl := List.mem_of_getElem? (i := 517) (by decide +kernel)
set_option maxRecDepth 100000 in
theorem wt208 : Cond.instanceMethod yX3_dayOf ∈ lw_tbl := List.mem_of_getElem? (i := 518) (by decide +kernel)
set_option maxRecDepth 100000 in
theorem wt209 : Cond.selects RX3 yX3_dayOf yX3_dayOf ∈ lw_tbl := List.mem_of_getElem? (i := 519) (by decide +kernel)
set_option maxRecDepth 100000 in
theorem wt210 : Cond.code yX3_dayOf cX3_dayOf 2 (some .int) ∈ lw_tbl := List.mem_of_getElem? (i := 520) (by decide +kernel)
set_option maxRecDepth 100000 in
theorem wt211 : Cond.methodLink RX7 289 yX7_planLeg ∈ lw_tbl := List.mem_of_getElem? (i := 501) (by decide +kernel)
set_option maxRecDepth 100000 in
theorem wt212 : Cond.instanceMethod yX7_planLeg ∈ lw_tbl := List.mem_of_getElem? (i := 503) (by decide +kernel)
set_option maxRecDepth 100000 in
theorem wt213 : Cond.selects RX7 yX7_planLeg yX7_planLeg ∈ lw_tbl := List.mem_of_getElem? (i := 6) (by decide +kernel)
set_option maxRecDepth 100000 in
theorem wt214 : Cond.code yX7_planLeg cX7_planLeg 4 none ∈ lw_tbl := List.mem_of_getElem? (i := 504) (by decide +kernel)
set_option maxRecDepth 100000 in
theorem wt215 : Cond.methodLink RX7 155 yX0_worth ∈ lw_tbl := List.mem_of_getElem? (i := 455) (by decide +kernel)
set_option maxRecDepth 100000 in
theorem wt216 : Cond.instanceMethod yX0_worth ∈ lw_tbl := List.mem_of_getElem? (i := 456) (by decide +kernel)
set_option maxRecDepth 100000 in
theorem wt217 : Cond.selects RX0 yX0_worth yX0_worth ∈ lw_tbl := List.mem_of_getElem? (i := 457) (by decide +kernel)
set_option maxRecDepth 100000 in
theorem wt218 : Cond.code yX0_worth cX0_worth 8 (some .long) ∈ lw_tbl := List.mem_of_getElem? (i := 458) (by decide +kernel)
set_option maxRecDepth 100000 in
theorem wt219 : Cond.constantLong RX0 32 (-500) ∈ lw_tbl := List.mem_of_getElem? (i := 459) (by decide +kernel)
set_option maxRecDepth 100000 in
theorem wt220 : Cond.constantLong RX0 34 (500) ∈ lw_tbl := List.mem_of_getElem? (i := 460) (by decide +kernel)
set_option maxRecDepth 100000 in
theorem wt221 : Cond.constantLong RX0 36 (1000) ∈ lw_tbl := List.mem_of_getElem? (i := 461) (by decide +kernel)
set_option maxRecDepth 100000 in
theorem wt222 : Cond.methodLink RX7 159 yX4_add ∈ lw_tbl := List.mem_of_getElem? (i := 462) (by decide +kernel)
set_option maxRecDepth 100000 in
theorem wt223 : Cond.instanceMethod yX4_add ∈ lw_tbl := List.mem_of_getElem? (i := 463) (by decide +kernel)
set_option maxRecDepth 100000 in
theorem wt224 : Cond.selects RX4 yX4_add yX4_add ∈ lw_tbl := List.mem_of_getElem? (i := 464) (by decide +kernel)
set_option maxRecDepth 100000 in
theorem wt225 : Cond.code yX4_add cX4_add 6 none ∈ lw_tbl := List.mem_of_getElem? (i := 465) (by decide +kernel)
set_option maxRecDepth 100000 in
theorem wt226 : Cond.methodLink RX7 162 yX4_worthSum ∈ lw_tbl := List.mem_of_getElem? (i := 466) (by decide +kernel)
set_option maxRecDepth 100000 in
theorem wt227 : Cond.instanceMethod yX4_worthSum ∈ lw_tbl := List.mem_of_getElem? (i := 467) (by decide +kernel)
set_option maxRecDepth 100000 in
theorem wt228 : Cond.selects RX4 yX4_worthSum yX4_worthSum ∈ lw_tbl := List.mem_of_getElem? (i := 468) (by decide +kernel)
set_option maxRecDepth 100000 in
theorem wt229 : Cond.code yX4_worthSum cX4_worthSum 4 (some .long) ∈ lw_tbl := List.mem_of_getElem? (i := 469) (by decide +kernel)
set_option maxRecDepth 100000 in
theorem wt230 : Cond.methodLink RL 42 yX7_close ∈ lw_tbl := List.mem_of_getElem? (i := 578) (by decide +kernel)
set_option maxRecDepth 100000 in
theorem wt231 : Cond.instanceMethod yX7_close ∈ lw_tbl := List.mem_of_getElem? (i := 579) (by decide +kernel)
set_option maxRecDepth 100000 in
theorem wt232 : Cond.selects RX7 yX7_close yX7_close ∈ lw_tbl := List.mem_of_getElem? (i := 580) (by decide +kernel)
set_option maxRecDepth 100000 in
theorem wt233 : Cond.code yX7_close cX7_close 5 (some .int) ∈ lw_tbl := List.mem_of_getElem? (i := 581) (by decide +kernel)
set_option maxRecDepth 100000 in
theorem wt234 : Cond.fieldLink RX7 239 "Tollgate$Accounts" "kind" "[I" ∈ lw_tbl := List.mem_of_getElem? (i := 58) (by decide +kernel)
set_option maxRecDepth 100000 in
theorem wt235 : Cond.methodLink RX7 280 yX3_isFull ∈ lw_tbl := List.mem_of_getElem? (i := 537) (by decide +kernel)
set_option maxRecDepth 100000 in
theorem wt236 : Cond.instanceMethod yX3_isFull ∈ lw_tbl := List.mem_of_getElem? (i := 538) (by decide +kernel)
set_option maxRecDepth 100000 in
theorem wt237 : Cond.selects RX3 yX3_isFull yX3_isFull ∈ lw_tbl := List.mem_of_getElem? (i := 539) (by decide +kernel)
set_option maxRecDepth 100000 in
theorem wt238 : Cond.code yX3_isFull cX3_isFull 1 (some .boolean) ∈ lw_tbl := List.mem_of_getElem? (i := 540) (by decide +kernel)
set_option maxRecDepth 100000 in
theorem wt239 : Cond.methodLink RX7 181 yX3_enter ∈ lw_tbl := List.mem_of_getElem? (i := 542) (by decide +kernel)
set_option maxRecDepth 100000 in
theorem wt240 : Cond.instanceMethod yX3_enter ∈ lw_tbl := List.mem_of_getElem? (i := 543) (by decide +kernel)
set_option maxRecDepth 100000 in
theorem wt241 : Cond.selects RX3 yX3_enter yX3_enter ∈ lw_tbl := List.mem_of_getElem? (i := 544) (by decide +kernel)
set_option maxRecDepth 100000 in
theorem wt242 : Cond.code yX3_enter cX3_enter 7 (some .int) ∈ lw_tbl := List.mem_of_getElem? (i := 545) (by decide +kernel)
set_option maxRecDepth 100000 in
theorem wt243 : Cond.fieldLink RX3 55 "Tollgate$LegRow" "count" "I" ∈ lw_tbl := List.mem_of_getElem? (i := 105) (by decide +kernel)
set_option maxRecDepth 100000 in
theorem wt244 : Cond.fieldLink RX3 58 "Tollgate$LegRow" "account" "[I" ∈ lw_tbl := List.mem_of_getElem? (i := 95) (by decide +kernel)
set_option maxRecDepth 100000 in
theorem wt245 : Cond.fieldLink RX3 59 "Tollgate$LegRow" "amount" "[J" ∈ lw_tbl := List.mem_of_getElem? (i := 98) (by decide +kernel)
set_option maxRecDepth 100000 in
theorem wt246 : Cond.fieldLink RX3 60 "Tollgate$LegRow" "worth" "[J" ∈ lw_tbl := List.mem_of_getElem? (i := 101) (by decide +kernel)
set_option maxRecDepth 100000 in
theorem wt247 : Cond.methodLink RX3 51 yX3_isFull ∈ lw_tbl := List.mem_of_getElem? (i := 546) (by decide +kernel)
set_option maxRecDepth 100000 in
theorem wt248 : Cond.methodLink RX3 61 yX3_addLeg ∈ lw_tbl := List.mem_of_getElem? (i := 547) (by decide +kernel)
set_option maxRecDepth 100000 in
theorem wt249 : Cond.instanceMethod yX3_addLeg ∈ lw_tbl := List.mem_of_getElem? (i := 549) (by decide +kernel)
set_option maxRecDepth 100000 in
theorem wt250 : Cond.selects RX3 yX3_addLeg yX3_addLeg ∈ lw_tbl := List.mem_of_getElem? (i := 8) (by decide +kernel)
set_option maxRecDepth 100000 in
theorem wt251 : Cond.code yX3_addLeg cX3_addLeg 7 none ∈ lw_tbl := List.mem_of_getElem? (i := 550) (by decide +kernel)
set_option maxRecDepth 100000 in
theorem wt252 : Cond.methodLink RL 45 yX7_ofEntry ∈ lw_tbl := List.mem_of_getElem? (i := 559) (by decide +kernel)
set_option maxRecDepth 100000 in
theorem wt253 : Cond.instanceMethod yX7_ofEntry ∈ lw_tbl := List.mem_of_getElem? (i := 560) (by decide +kernel)
set_option maxRecDepth 100000 in
theorem wt254 : Cond.selects RX7 yX7_ofEntry yX7_ofEntry ∈ lw_tbl := List.mem_of_getElem? (i := 561) (by decide +kernel)
set_option maxRecDepth 100000 in
theorem wt255 : Cond.code yX7_ofEntry cX7_ofEntry 3 (some .int) ∈ lw_tbl := List.mem_of_getElem? (i := 562) (by decide +kernel)
set_option maxRecDepth 100000 in
theorem wt256 : Cond.fieldLink RX7 215 "Tollgate$Journal" "day" "[I" ∈ lw_tbl := List.mem_of_getElem? (i := 141) (by decide +kernel)
set_option maxRecDepth 100000 in
theorem wt257 : Cond.fieldLink RX7 210 "Tollgate$Journal" "note" "[I" ∈ lw_tbl := List.mem_of_getElem? (i := 143) (by decide +kernel)
set_option maxRecDepth 100000 in
theorem wt258 : Cond.fieldLink RX7 217 "Tollgate$Journal" "legsOf" "[I" ∈ lw_tbl := List.mem_of_getElem? (i := 149) (by decide +kernel)
set_option maxRecDepth 100000 in
theorem wt259 : Cond.fieldLink RX7 191 "Tollgate$Journal" "gone" "[Z" ∈ lw_tbl := List.mem_of_getElem? (i := 151) (by decide +kernel)
set_option maxRecDepth 100000 in
theorem wt260 : Cond.methodLink RX7 212 yX7_needEntry ∈ lw_tbl := List.mem_of_getElem? (i := 563) (by decide +kernel)
set_option maxRecDepth 100000 in
theorem wt261 : Cond.instanceMethod yX7_needEntry ∈ lw_tbl := List.mem_of_getElem? (i := 565) (by decide +kernel)
set_option maxRecDepth 100000 in
theorem wt262 : Cond.selects RX7 yX7_needEntry yX7_needEntry ∈ lw_tbl := List.mem_of_getElem? (i := 9) (by decide +kernel)
set_option maxRecDepth 100000 in
theorem wt263 : Cond.code yX7_needEntry cX7_needEntry 2 none ∈ lw_tbl := List.mem_of_getElem? (i := 566) (by decide +kernel)
set_option maxRecDepth 100000 in
theorem wt264 : Cond.methodLink RX7 188 yX3_has ∈ lw_tbl := List.mem_of_getElem? (i := 567) (by decide +kernel)
set_option maxRecDepth 100000 in
theorem wt265 : Cond.instanceMethod yX3_has ∈ lw_tbl := List.mem_of_getElem? (i := 568) (by decide +kernel)
set_option maxRecDepth 100000 in
theorem wt266 : Cond.selects RX3 yX3_has yX3_has ∈ lw_tbl := List.mem_of_getElem? (i := 569) (by decide +kernel)
set_option maxRecDepth 100000 in
theorem wt267 : Cond.code yX3_has cX3_has 2 (some .boolean) ∈ lw_tbl := List.mem_of_getElem? (i := 570) (by decide +kernel)
set_option maxRecDepth 100000 in
theorem wt268 : Cond.methodLink RL 48 yX7_ofLeg ∈ lw_tbl := List.mem_of_getElem? (i := 573) (by decide +kernel)
set_option maxRecDepth 100000 in
theorem wt269 : Cond.instanceMethod yX7_ofLeg ∈ lw_tbl := List.mem_of_getElem? (i := 574) (by decide +kernel)
set_option maxRecDepth 100000 in
theorem wt270 : Cond.selects RX7 yX7_ofLeg yX7_ofLeg ∈ lw_tbl := List.mem_of_getElem? (i := 575) (by decide +kernel)
set_option maxRecDepth 100000 in
theorem wt271 : Cond.code yX7_ofLeg cX7_ofLeg 5 (some .long) ∈ lw_tbl := List.mem_of_getElem? (i := 576) (by decide +kernel)
set_option maxRecDepth 100000 in
theorem wt272 : Cond.fieldLink RX7 224 "Tollgate$Journal" "firstLeg" "[I" ∈ lw_tbl := List.mem_of_getElem? (i := 146) (by decide +kernel)
set_option maxRecDepth 100000 in
theorem wt273 : Cond.fieldLink RX7 227 "Tollgate$Journal" "account" "[I" ∈ lw_tbl := List.mem_of_getElem? (i := 159) (by decide +kernel)
set_option maxRecDepth 100000 in
theorem wt274 : Cond.fieldLink RX7 230 "Tollgate$Journal" "amount" "[J" ∈ lw_tbl := List.mem_of_getElem? (i := 162) (by decide +kernel)
set_option maxRecDepth 100000 in
theorem wt275 : Cond.fieldLink RX7 234 "Tollgate$Journal" "worth" "[J" ∈ lw_tbl := List.mem_of_getElem? (i := 164) (by decide +kernel)
set_option maxRecDepth 100000 in
theorem wt276 : Cond.fieldLink RX7 236 "Tollgate$Matching" "lineOfLeg" "[I" ∈ lw_tbl := List.mem_of_getElem? (i := 251) (by decide +kernel)
set_option maxRecDepth 100000 in
theorem wt277 : Cond.methodLink RL 52 yX7_open ∈ lw_tbl := List.mem_of_getElem? (i := 592) (by decide +kernel)
set_option maxRecDepth 100000 in
theorem wt278 : Cond.instanceMethod yX7_open ∈ lw_tbl := List.mem_of_getElem? (i := 593) (by decide +kernel)
set_option maxRecDepth 100000 in
theorem wt279 : Cond.selects RX7 yX7_open yX7_open ∈ lw_tbl := List.mem_of_getElem? (i := 594) (by decide +kernel)
set_option maxRecDepth 100000 in
theorem wt280 : Cond.code yX7_open cX7_open 2 (some .int) ∈ lw_tbl := List.mem_of_getElem? (i := 595) (by decide +kernel)
set_option maxRecDepth 100000 in
theorem wt281 : Cond.methodLink RX7 293 yX3_lastClosing ∈ lw_tbl := List.mem_of_getElem? (i := 596) (by decide +kernel)
set_option maxRecDepth 100000 in
theorem wt282 : Cond.methodLink RX7 298 yX6_freeLegsOf ∈ lw_tbl := List.mem_of_getElem? (i := 598) (by decide +kernel)
set_option maxRecDepth 100000 in
theorem wt283 : Cond.instanceMethod yX6_freeLegsOf ∈ lw_tbl := List.mem_of_getElem? (i := 599) (by decide +kernel)
set_option maxRecDepth 100000 in
theorem wt284 : Cond.selects RX6 yX6_freeLegsOf yX6_freeLegsOf ∈ lw_tbl := List.mem_of_getElem? (i := 600) (by decide +kernel)
set_option maxRecDepth 100000 in
theorem wt285 : Cond.code yX6_freeLegsOf cX6_freeLegsOf 4 none ∈ lw_tbl := List.mem_of_getElem? (i := 601) (by decide +kernel)
set_option maxRecDepth 100000 in
theorem wt286 : Cond.fieldLink RX6 108 "Tollgate$Journal" "firstLeg" "[I" ∈ lw_tbl := List.mem_of_getElem? (i := 145) (by decide +kernel)
set_option maxRecDepth 100000 in
theorem wt287 : Cond.fieldLink RX6 111 "Tollgate$Journal" "legsOf" "[I" ∈ lw_tbl := List.mem_of_getElem? (i := 148) (by decide +kernel)
set_option maxRecDepth 100000 in
theorem wt288 : Cond.methodLink RX6 38 yX6_freeLine ∈ lw_tbl := List.mem_of_getElem? (i := 602) (by decide +kernel)
set_option maxRecDepth 100000 in
theorem wt289 : Cond.instanceMethod yX6_freeLine ∈ lw_tbl := List.mem_of_getElem? (i := 604) (by decide +kernel)
set_option maxRecDepth 100000 in
theorem wt290 : Cond.selects RX6 yX6_freeLine yX6_freeLine ∈ lw_tbl := List.mem_of_getElem? (i := 11) (by decide +kernel)
set_option maxRecDepth 100000 in
theorem wt291 : Cond.code yX6_freeLine cX6_freeLine 2 none ∈ lw_tbl := List.mem_of_getElem? (i := 605) (by decide +kernel)
set_option maxRecDepth 100000 in
theorem wt292 : Cond.methodLink RL 56 yX7_line ∈ lw_tbl := List.mem_of_getElem? (i := 606) (by decide +kernel)
set_option maxRecDepth 100000 in
theorem wt293 : Cond.instanceMethod yX7_line ∈ lw_tbl := List.mem_of_getElem? (i := 607) (by decide +kernel)
set_option maxRecDepth 100000 in
theorem wt294 : Cond.selects RX7 yX7_line yX7_line ∈ lw_tbl := List.mem_of_getElem? (i := 608) (by decide +kernel)
set_option maxRecDepth 100000 in
theorem wt295 : Cond.code yX7_line cX7_line 4 (some .int) ∈ lw_tbl := List.mem_of_getElem? (i := 609) (by decide +kernel)
set_option maxRecDepth 100000 in
theorem wt296 : Cond.methodLink RX7 146 yX7_needAmount ∈ lw_tbl := List.mem_of_getElem? (i := 448) (by decide +kernel)
set_option maxRecDepth 100000 in
theorem wt297 : Cond.static yX7_needAmount ∈ lw_tbl := List.mem_of_getElem? (i := 449) (by decide +kernel)
set_option maxRecDepth 100000 in
theorem wt298 : Cond.code yX7_needAmount cX7_needAmount 1 none ∈ lw_tbl := List.mem_of_getElem? (i := 450) (by decide +kernel)
set_option maxRecDepth 100000 in
theorem wt299 : Cond.constant RX7 414 (-1000000) ∈ lw_tbl := List.mem_of_getElem? (i := 451) (by decide +kernel)
set_option maxRecDepth 100000 in
theorem wt300 : Cond.constant RX7 242 (1000000) ∈ lw_tbl := List.mem_of_getElem? (i := 452) (by decide +kernel)
set_option maxRecDepth 100000 in
theorem wt301 : Cond.methodLink RX7 304 yX5_add ∈ lw_tbl := List.mem_of_getElem? (i := 611) (by decide +kernel)
set_option maxRecDepth 100000 in
theorem wt302 : Cond.instanceMethod yX5_add ∈ lw_tbl := List.mem_of_getElem? (i := 612) (by decide +kernel)
set_option maxRecDepth 100000 in
theorem wt303 : Cond.selects RX5 yX5_add yX5_add ∈ lw_tbl := List.mem_of_getElem? (i := 613) (by decide +kernel)
set_option maxRecDepth 100000 in
theorem wt304 : Cond.code yX5_add cX5_add 4 (some .int) ∈ lw_tbl := List.mem_of_getElem? (i := 614) (by decide +kernel)
set_option maxRecDepth 100000 in
theorem wt305 : Cond.methodLink RX5 28 yX5_sortIn ∈ lw_tbl := List.mem_of_getElem? (i := 615) (by decide +kernel)
set_option maxRecDepth 100000 in
theorem wt306 : Cond.instanceMethod yX5_sortIn ∈ lw_tbl := List.mem_of_getElem? (i := 617) (by decide +kernel)
set_option maxRecDepth 100000 in
theorem wt307 : Cond.selects RX5 yX5_sortIn yX5_sortIn ∈ lw_tbl := List.mem_of_getElem? (i := 12) (by decide +kernel)
set_option maxRecDepth 100000 in
theorem wt308 : Cond.code yX5_sortIn cX5_sortIn 3 none ∈ lw_tbl := List.mem_of_getElem? (i := 618) (by decide +kernel)
set_option maxRecDepth 100000 in
theorem wt309 : Cond.methodLink RL 60 yX7_wouldMatch ∈ lw_tbl := List.mem_of_getElem? (i := 751) (by decide +kernel)
set_option maxRecDepth 100000 in
theorem wt310 : Cond.instanceMethod yX7_wouldMatch ∈ lw_tbl := List.mem_of_getElem? (i := 752) (by decide +kernel)
set_option maxRecDepth 100000 in
theorem wt311 : Cond.selects RX7 yX7_wouldMatch yX7_wouldMatch ∈ lw_tbl := List.mem_of_getElem? (i := 753) (by decide +kernel)
set_option maxRecDepth 100000 in
theorem wt312 : Cond.code yX7_wouldMatch cX7_wouldMatch 3 (some .int) ∈ lw_tbl := List.mem_of_getElem? (i := 754) (by decide +kernel)
set_option maxRecDepth 100000 in
theorem wt313 : Cond.methodLink RX7 305 yX7_needDaysAway ∈ lw_tbl := List.mem_of_getElem? (i := 623) (by decide +kernel)
set_option maxRecDepth 100000 in
theorem wt314 : Cond.static yX7_needDaysAway ∈ lw_tbl := List.mem_of_getElem? (i := 624) (by decide +kernel)
set_option maxRecDepth 100000 in
theorem wt315 : Cond.code yX7_needDaysAway cX7_needDaysAway 1 none ∈ lw_tbl := List.mem_of_getElem? (i := 625) (by decide +kernel)
set_option maxRecDepth 100000 in
theorem wt316 : Cond.methodLink RX7 308 yX6_pairUp ∈ lw_tbl := List.mem_of_getElem? (i := 627) (by decide +kernel)
set_option maxRecDepth 100000 in
theorem wt317 : Cond.instanceMethod yX6_pairUp ∈ lw_tbl := List.mem_of_getElem? (i := 628) (by decide +kernel)
set_option maxRecDepth 100000 in
theorem wt318 : Cond.selects RX6 yX6_pairUp yX6_pairUp ∈ lw_tbl := List.mem_of_getElem? (i := 629) (by decide +kernel)
set_option maxRecDepth 100000 in
theorem wt319 : Cond.code yX6_pairUp cX6_pairUp 4 (some .int) ∈ lw_tbl := List.mem_of_getElem? (i := 630) (by decide +kernel)
set_option maxRecDepth 100000 in
theorem wt320 : Cond.fieldLink RX6 29 "Tollgate$Lines" "count" "I" ∈ lw_tbl := List.mem_of_getElem? (i := 229) (by decide +kernel)
set_option maxRecDepth 100000 in
theorem wt321 : Cond.fieldLink RX6 35 "Tollgate$Lines" "account" "[I" ∈ lw_tbl := List.mem_of_getElem? (i := 221) (by decide +kernel)
set_option maxRecDepth 100000 in
theorem wt322 : Cond.fieldLink RX6 42 "Tollgate$Lines" "byDay" "[I" ∈ lw_tbl := List.mem_of_getElem? (i := 227) (by decide +kernel)
set_option maxRecDepth 100000 in
theorem wt323 : Cond.methodLink RX6 45 yX6_isLeft ∈ lw_tbl := List.mem_of_getElem? (i := 631) (by decide +kernel)
set_option maxRecDepth 100000 in
theorem wt324 : Cond.instanceMethod yX6_isLeft ∈ lw_tbl := List.mem_of_getElem? (i := 633) (by decide +kernel)
set_option maxRecDepth 100000 in
theorem wt325 : Cond.selects RX6 yX6_isLeft yX6_isLeft ∈ lw_tbl := List.mem_of_getElem? (i := 13) (by decide +kernel)
set_option maxRecDepth 100000 in
theorem wt326 : Cond.code yX6_isLeft cX6_isLeft 3 (some .boolean) ∈ lw_tbl := List.mem_of_getElem? (i := 634) (by decide +kernel)
set_option maxRecDepth 100000 in
theorem wt327 : Cond.methodLink RX6 49 yX6_bindNearest ∈ lw_tbl := List.mem_of_getElem? (i := 635) (by decide +kernel)
set_option maxRecDepth 100000 in
theorem wt328 : Cond.instanceMethod yX6_bindNearest ∈ lw_tbl := List.mem_of_getElem? (i := 637) (by decide +kernel)
set_option maxRecDepth 100000 in
theorem wt329 : Cond.selects RX6 yX6_bindNearest yX6_bindNearest ∈ lw_tbl := List.mem_of_getElem? (i := 14) (by decide +kernel)
set_option maxRecDepth 100000 in
theorem wt330 : Cond.code yX6_bindNearest cX6_bindNearest 5 none ∈ lw_tbl := List.mem_of_getElem? (i := 638) (by decide +kernel)
set_option maxRecDepth 100000 in
theorem wt331 : Cond.fieldLink RX6 81 "Tollgate$Journal" "legCount" "I" ∈ lw_tbl := List.mem_of_getElem? (i := 166) (by decide +kernel)
set_option maxRecDepth 100000 in
theorem wt332 : Cond.fieldLink RX6 87 "Tollgate$Journal" "amount" "[J" ∈ lw_tbl := List.mem_of_getElem? (i := 161) (by decide +kernel)
set_option maxRecDepth 100000 in
theorem wt333 : Cond.fieldLink RX6 91 "Tollgate$Lines" "amount" "[I" ∈ lw_tbl := List.mem_of_getElem? (i := 225) (by decide +kernel)
set_option maxRecDepth 100000 in
theorem wt334 : Cond.methodLink RX6 84 yX6_isLegLeft ∈ lw_tbl := List.mem_of_getElem? (i := 639) (by decide +kernel)
set_option maxRecDepth 100000 in
theorem wt335 : Cond.instanceMethod yX6_isLegLeft ∈ lw_tbl := List.mem_of_getElem? (i := 641) (by decide +kernel)
set_option maxRecDepth 100000 in
theorem wt336 : Cond.selects RX6 yX6_isLegLeft yX6_isLegLeft ∈ lw_tbl := List.mem_of_getElem? (i := 15) (by decide +kernel)
set_option maxRecDepth 100000 in
theorem wt337 : Cond.code yX6_isLegLeft cX6_isLegLeft 3 (some .boolean) ∈ lw_tbl := List.mem_of_getElem? (i := 642) (by decide +kernel)
set_option maxRecDepth 100000 in
theorem wt338 : Cond.fieldLink RX6 63 "Tollgate$Journal" "account" "[I" ∈ lw_tbl := List.mem_of_getElem? (i := 158) (by decide +kernel)
set_option maxRecDepth 100000 in
theorem wt339 : Cond.methodLink RX6 66 yX3_counts ∈ lw_tbl := List.mem_of_getElem? (i := 643) (by decide +kernel)
set_option maxRecDepth 100000 in
theorem wt340 : Cond.methodLink RX6 93 yX6_away ∈ lw_tbl := List.mem_of_getElem? (i := 644) (by decide +kernel)
set_option maxRecDepth 100000 in
theorem wt341 : Cond.instanceMethod yX6_away ∈ lw_tbl := List.mem_of_getElem? (i := 646) (by decide +kernel)
set_option maxRecDepth 100000 in
theorem wt342 : Cond.selects RX6 yX6_away yX6_away ∈ lw_tbl := List.mem_of_getElem? (i := 16) (by decide +kernel)
set_option maxRecDepth 100000 in
theorem wt343 : Cond.code yX6_away cX6_away 3 (some .int) ∈ lw_tbl := List.mem_of_getElem? (i := 647) (by decide +kernel)
set_option maxRecDepth 100000 in
theorem wt344 : Cond.fieldLink RX6 73 "Tollgate$Lines" "day" "[I" ∈ lw_tbl := List.mem_of_getElem? (i := 223) (by decide +kernel)
set_option maxRecDepth 100000 in
theorem wt345 : Cond.methodLink RX6 76 Lib.Math.abs.name ∈ lw_tbl := List.mem_of_getElem? (i := 649) (by decide +kernel)
set_option maxRecDepth 100000 in
theorem wt346 : Cond.static Lib.Math.abs.name ∈ lw_tbl := List.mem_of_getElem? (i := 650) (by decide +kernel)
set_option maxRecDepth 100000 in
theorem wt347 : Cond.code Lib.Math.abs.name Lib.Math.abs.code 1 (some .int) ∈ lw_tbl := List.mem_of_getElem? (i := 651) (by decide +kernel)
set_option maxRecDepth 100000 in
theorem wt348 : Cond.methodLink RX6 70 yX3_dayOf ∈ lw_tbl := List.mem_of_getElem? (i := 648) (by decide +kernel)
set_option maxRecDepth 100000 in
theorem wt349 : Cond.methodLink RX6 97 yX6_isNearer ∈ lw_tbl := List.mem_of_getElem? (i := 652) (by decide +kernel)
set_option maxRecDepth 100000 in
theorem wt350 : Cond.instanceMethod yX6_isNearer ∈ lw_tbl := List.mem_of_getElem? (i := 654) (by decide +kernel)
set_option maxRecDepth 100000 in
theorem wt351 : Cond.selects RX6 yX6_isNearer yX6_isNearer ∈ lw_tbl := List.mem_of_getElem? (i := 17) (by decide +kernel)
set_option maxRecDepth 100000 in
theorem wt352 : Cond.code yX6_isNearer cX6_isNearer 6 (some .boolean) ∈ lw_tbl := List.mem_of_getElem? (i := 655) (by decide +kernel)
set_option maxRecDepth 100000 in
theorem wt353 : Cond.methodLink RX6 101 yX6_bind ∈ lw_tbl := List.mem_of_getElem? (i := 656) (by decide +kernel)
set_option maxRecDepth 100000 in
theorem wt354 : Cond.instanceMethod yX6_bind ∈ lw_tbl := List.mem_of_getElem? (i := 658) (by decide +kernel)
set_option maxRecDepth 100000 in
theorem wt355 : Cond.selects RX6 yX6_bind yX6_bind ∈ lw_tbl := List.mem_of_getElem? (i := 18) (by decide +kernel)
set_option maxRecDepth 100000 in
theorem wt356 : Cond.code yX6_bind cX6_bind 4 none ∈ lw_tbl := List.mem_of_getElem? (i := 659) (by decide +kernel)
set_option maxRecDepth 100000 in
theorem wt357 : Cond.methodLink RX6 53 yX6_bindFirstTwo ∈ lw_tbl := List.mem_of_getElem? (i := 660) (by decide +kernel)
set_option maxRecDepth 100000 in
theorem wt358 : Cond.instanceMethod yX6_bindFirstTwo ∈ lw_tbl := List.mem_of_getElem? (i := 662) (by decide +kernel)
set_option maxRecDepth 100000 in
theorem wt359 : Cond.selects RX6 yX6_bindFirstTwo yX6_bindFirstTwo ∈ lw_tbl := List.mem_of_getElem? (i := 19) (by decide +kernel)
set_option maxRecDepth 100000 in
theorem wt360 : Cond.code yX6_bindFirstTwo cX6_bindFirstTwo 5 none ∈ lw_tbl := List.mem_of_getElem? (i := 663) (by decide +kernel)
set_option maxRecDepth 100000 in
theorem wt361 : Cond.methodLink RX6 105 yX6_secondBehind ∈ lw_tbl := List.mem_of_getElem? (i := 664) (by decide +kernel)
set_option maxRecDepth 100000 in
theorem wt362 : Cond.instanceMethod yX6_secondBehind ∈ lw_tbl := List.mem_of_getElem? (i := 666) (by decide +kernel)
set_option maxRecDepth 100000 in
theorem wt363 : Cond.selects RX6 yX6_secondBehind yX6_secondBehind ∈ lw_tbl := List.mem_of_getElem? (i := 20) (by decide +kernel)
set_option maxRecDepth 100000 in
theorem wt364 : Cond.code yX6_secondBehind cX6_secondBehind 4 (some .int) ∈ lw_tbl := List.mem_of_getElem? (i := 667) (by decide +kernel)
set_option maxRecDepth 100000 in
theorem wt365 : Cond.methodLink RX6 56 yX5_countOf ∈ lw_tbl := List.mem_of_getElem? (i := 668) (by decide +kernel)
set_option maxRecDepth 100000 in
theorem wt366 : Cond.instanceMethod yX5_countOf ∈ lw_tbl := List.mem_of_getElem? (i := 669) (by decide +kernel)
set_option maxRecDepth 100000 in
theorem wt367 : Cond.selects RX5 yX5_countOf yX5_countOf ∈ lw_tbl := List.mem_of_getElem? (i := 670) (by decide +kernel)
set_option maxRecDepth 100000 in
theorem wt368 : Cond.code yX5_countOf cX5_countOf 4 (some .int) ∈ lw_tbl := List.mem_of_getElem? (i := 671) (by decide +kernel)
set_option maxRecDepth 100000 in
theorem wt369 : Cond.methodLink RX6 60 yX6_linesLeft ∈ lw_tbl := List.mem_of_getElem? (i := 672) (by decide +kernel)
set_option maxRecDepth 100000 in
theorem wt370 : Cond.instanceMethod yX6_linesLeft ∈ lw_tbl := List.mem_of_getElem? (i := 673) (by decide +kernel)
set_option maxRecDepth 100000 in
theorem wt371 : Cond.selects RX6 yX6_linesLeft yX6_linesLeft ∈ lw_tbl := List.mem_of_getElem? (i := 674) (by decide +kernel)
set_option maxRecDepth 100000 in
theorem wt372 : Cond.code yX6_linesLeft cX6_linesLeft 4 (some .int) ∈ lw_tbl := List.mem_of_getElem? (i := 675) (by decide +kernel)
set_option maxRecDepth 100000 in
theorem wt373 : Cond.methodLink RL 63 yX7_match ∈ lw_tbl := List.mem_of_getElem? (i := 619) (by decide +kernel)
set_option maxRecDepth 100000 in
theorem wt374 : Cond.instanceMethod yX7_match ∈ lw_tbl := List.mem_of_getElem? (i := 620) (by decide +kernel)
set_option maxRecDepth 100000 in
theorem wt375 : Cond.selects RX7 yX7_match yX7_match ∈ lw_tbl := List.mem_of_getElem? (i := 621) (by decide +kernel)
set_option maxRecDepth 100000 in
theorem wt376 : Cond.code yX7_match cX7_match 3 (some .int) ∈ lw_tbl := List.mem_of_getElem? (i := 622) (by decide +kernel)
set_option maxRecDepth 100000 in
theorem wt377 : Cond.methodLink RL 66 yX7_left ∈ lw_tbl := List.mem_of_getElem? (i := 676) (by decide +kernel)
set_option maxRecDepth 100000 in
theorem wt378 : Cond.instanceMethod yX7_left ∈ lw_tbl := List.mem_of_getElem? (i := 677) (by decide +kernel)
set_option maxRecDepth 100000 in
theorem wt379 : Cond.selects RX7 yX7_left yX7_left ∈ lw_tbl := List.mem_of_getElem? (i := 678) (by decide +kernel)
set_option maxRecDepth 100000 in
theorem wt380 : Cond.code yX7_left cX7_left 3 (some .long) ∈ lw_tbl := List.mem_of_getElem? (i := 679) (by decide +kernel)
set_option maxRecDepth 100000 in
theorem wt381 : Cond.methodLink RX7 311 yX5_countOf ∈ lw_tbl := List.mem_of_getElem? (i := 680) (by decide +kernel)
set_option maxRecDepth 100000 in
theorem wt382 : Cond.methodLink RX7 315 yX6_linesLeft ∈ lw_tbl := List.mem_of_getElem? (i := 681) (by decide +kernel)
set_option maxRecDepth 100000 in
theorem wt383 : Cond.methodLink RX7 318 yX6_legsLeft ∈ lw_tbl := List.mem_of_getElem? (i := 682) (by decide +kernel)
set_option maxRecDepth 100000 in
theorem wt384 : Cond.instanceMethod yX6_legsLeft ∈ lw_tbl := List.mem_of_getElem? (i := 683) (by decide +kernel)
set_option maxRecDepth 100000 in
theorem wt385 : Cond.selects RX6 yX6_legsLeft yX6_legsLeft ∈ lw_tbl := List.mem_of_getElem? (i := 684) (by decide +kernel)
set_option maxRecDepth 100000 in
theorem wt386 : Cond.code yX6_legsLeft cX6_legsLeft 4 (some .int) ∈ lw_tbl := List.mem_of_getElem? (i := 685) (by decide +kernel)
set_option maxRecDepth 100000 in
theorem wt387 : Cond.methodLink RX7 321 yX6_lineSumLeft ∈ lw_tbl := List.mem_of_getElem? (i := 686) (by decide +kernel)
set_option maxRecDepth 100000 in
theorem wt388 : Cond.instanceMethod yX6_lineSumLeft ∈ lw_tbl := List.mem_of_getElem? (i := 687) (by decide +kernel)
set_option maxRecDepth 100000 in
theorem wt389 : Cond.selects RX6 yX6_lineSumLeft yX6_lineSumLeft ∈ lw_tbl := List.mem_of_getElem? (i := 688) (by decide +kernel)
set_option maxRecDepth 100000 in
theorem wt390 : Cond.code yX6_lineSumLeft cX6_lineSumLeft 5 (some .long) ∈ lw_tbl := List.mem_of_getElem? (i := 689) (by decide +kernel)
set_option maxRecDepth 100000 in
theorem wt391 : Cond.methodLink RX7 324 yX6_legSumLeft ∈ lw_tbl := List.mem_of_getElem? (i := 690) (by decide +kernel)
set_option maxRecDepth 100000 in
theorem wt392 : Cond.instanceMethod yX6_legSumLeft ∈ lw_tbl := List.mem_of_getElem? (i := 691) (by decide +kernel)
set_option maxRecDepth 100000 in
theorem wt393 : Cond.selects RX6 yX6_legSumLeft yX6_legSumLeft ∈ lw_tbl := List.mem_of_getElem? (i := 692) (by decide +kernel)
set_option maxRecDepth 100000 in
theorem wt394 : Cond.code yX6_legSumLeft cX6_legSumLeft 5 (some .long) ∈ lw_tbl := List.mem_of_getElem? (i := 693) (by decide +kernel)
set_option maxRecDepth 100000 in
theorem wt395 : Cond.methodLink RL 70 yX7_draft ∈ lw_tbl := List.mem_of_getElem? (i := 432) (by decide +kernel)
set_option maxRecDepth 100000 in
theorem wt396 : Cond.instanceMethod yX7_draft ∈ lw_tbl := List.mem_of_getElem? (i := 433) (by decide +kernel)
set_option maxRecDepth 100000 in
theorem wt397 : Cond.selects RX7 yX7_draft yX7_draft ∈ lw_tbl := List.mem_of_getElem? (i := 434) (by decide +kernel)
set_option maxRecDepth 100000 in
theorem wt398 : Cond.code yX7_draft cX7_draft 4 (some .int) ∈ lw_tbl := List.mem_of_getElem? (i := 435) (by decide +kernel)
set_option maxRecDepth 100000 in
theorem wt399 : Cond.fieldLink RX7 138 "Tollgate$Draft" "legs" "LTollgate$LegRow;" ∈ lw_tbl := List.mem_of_getElem? (i := 118) (by decide +kernel)
set_option maxRecDepth 100000 in
theorem wt400 : Cond.methodLink RX7 142 yX1_begin ∈ lw_tbl := List.mem_of_getElem? (i := 440) (by decide +kernel)
set_option maxRecDepth 100000 in
theorem wt401 : Cond.instanceMethod yX1_begin ∈ lw_tbl := List.mem_of_getElem? (i := 441) (by decide +kernel)
set_option maxRecDepth 100000 in
theorem wt402 : Cond.selects RX1 yX1_begin yX1_begin ∈ lw_tbl := List.mem_of_getElem? (i := 442) (by decide +kernel)
set_option maxRecDepth 100000 in
theorem wt403 : Cond.code yX1_begin cX1_begin 3 none ∈ lw_tbl := List.mem_of_getElem? (i := 443) (by decide +kernel)
set_option maxRecDepth 100000 in
theorem wt404 : Cond.fieldLink RX1 27 "Tollgate$LegRow" "count" "I" ∈ lw_tbl := List.mem_of_getElem? (i := 104) (by decide +kernel)
set_option maxRecDepth 100000 in
theorem wt405 : Cond.methodLink RL 73 yX7_leg ∈ lw_tbl := List.mem_of_getElem? (i := 444) (by decide +kernel)
set_option maxRecDepth 100000 in
theorem wt406 : Cond.instanceMethod yX7_leg ∈ lw_tbl := List.mem_of_getElem? (i := 445) (by decide +kernel)
set_option maxRecDepth 100000 in
theorem wt407 : Cond.selects RX7 yX7_leg yX7_leg ∈ lw_tbl := List.mem_of_getElem? (i := 446) (by decide +kernel)
set_option maxRecDepth 100000 in
theorem wt408 : Cond.code yX7_leg cX7_leg 3 (some .long) ∈ lw_tbl := List.mem_of_getElem? (i := 447) (by decide +kernel)
set_option maxRecDepth 100000 in
theorem wt409 : Cond.fieldLink RX7 149 "Tollgate$Draft" "isThere" "Z" ∈ lw_tbl := List.mem_of_getElem? (i := 120) (by decide +kernel)
set_option maxRecDepth 100000 in
theorem wt410 : Cond.methodLink RL 76 yX7_reason ∈ lw_tbl := List.mem_of_getElem? (i := 555) (by decide +kernel)
set_option maxRecDepth 100000 in
theorem wt411 : Cond.instanceMethod yX7_reason ∈ lw_tbl := List.mem_of_getElem? (i := 556) (by decide +kernel)
set_option maxRecDepth 100000 in
theorem wt412 : Cond.selects RX7 yX7_reason yX7_reason ∈ lw_tbl := List.mem_of_getElem? (i := 557) (by decide +kernel)
set_option maxRecDepth 100000 in
theorem wt413 : Cond.code yX7_reason cX7_reason 1 (some .int) ∈ lw_tbl := List.mem_of_getElem? (i := 558) (by decide +kernel)
set_option maxRecDepth 100000 in
theorem wt414 : Cond.methodLink RX7 166 yX7_whyNotPosted ∈ lw_tbl := List.mem_of_getElem? (i := 474) (by decide +kernel)
set_option maxRecDepth 100000 in
theorem wt415 : Cond.instanceMethod yX7_whyNotPosted ∈ lw_tbl := List.mem_of_getElem? (i := 476) (by decide +kernel)
set_option maxRecDepth 100000 in
theorem wt416 : Cond.selects RX7 yX7_whyNotPosted yX7_whyNotPosted ∈ lw_tbl := List.mem_of_getElem? (i := 2) (by decide +kernel)
set_option maxRecDepth 100000 in
theorem wt417 : Cond.code yX7_whyNotPosted cX7_whyNotPosted 1 (some .int) ∈ lw_tbl := List.mem_of_getElem? (i := 477) (by decide +kernel)
set_option maxRecDepth 100000 in
theorem wt418 : Cond.fieldLink RX7 175 "Tollgate$Draft" "day" "I" ∈ lw_tbl := List.mem_of_getElem? (i := 122) (by decide +kernel)
set_option maxRecDepth 100000 in
theorem wt419 : Cond.methodLink RX7 427 yX7_canBeExchanged ∈ lw_tbl := List.mem_of_getElem? (i := 486) (by decide +kernel)
set_option maxRecDepth 100000 in
theorem wt420 : Cond.instanceMethod yX7_canBeExchanged ∈ lw_tbl := List.mem_of_getElem? (i := 488) (by decide +kernel)
set_option maxRecDepth 100000 in
theorem wt421 : Cond.selects RX7 yX7_canBeExchanged yX7_canBeExchanged ∈ lw_tbl := List.mem_of_getElem? (i := 3) (by decide +kernel)
set_option maxRecDepth 100000 in
theorem wt422 : Cond.code yX7_canBeExchanged cX7_canBeExchanged 1 (some .boolean) ∈ lw_tbl := List.mem_of_getElem? (i := 489) (by decide +kernel)
set_option maxRecDepth 100000 in
theorem wt423 : Cond.methodLink RX7 433 Lib.MathLoose.abs_long.x ∈ lw_tbl := List.mem_of_getElem? (i := 494) (by decide +kernel)
set_option maxRecDepth 100000 in
theorem wt424 : Cond.methodLink RX7 430 yX7_draftHasTwoCurrencies ∈ lw_tbl := List.mem_of_getElem? (i := 490) (by decide +kernel)
set_option maxRecDepth 100000 in
theorem wt425 : Cond.instanceMethod yX7_draftHasTwoCurrencies ∈ lw_tbl := List.mem_of_getElem? (i := 492) (by decide +kernel)
set_option maxRecDepth 100000 in
theorem wt426 : Cond.selects RX7 yX7_draftHasTwoCurrencies yX7_draftHasTwoCurrencies ∈ lw_tbl := List.mem_of_getElem? (i := 4) (by decide +kernel)
set_option maxRecDepth 100000 in
theorem wt427 : Cond.code yX7_draftHasTwoCurrencies cX7_draftHasTwoCurrencies 2 (some .boolean) ∈ lw_tbl := List.mem_of_getElem? (i := 493) (by decide +kernel)
set_option maxRecDepth 100000 in
theorem wt428 : Cond.fieldLink RX7 439 "Tollgate$LegRow" "account" "[I" ∈ lw_tbl := List.mem_of_getElem? (i := 96) (by decide +kernel)
set_option maxRecDepth 100000 in
theorem wt429 : Cond.methodLink RX7 172 yX7_planDraft ∈ lw_tbl := List.mem_of_getElem? (i := 497) (by decide +kernel)
set_option maxRecDepth 100000 in
theorem wt430 : Cond.instanceMethod yX7_planDraft ∈ lw_tbl := List.mem_of_getElem? (i := 499) (by decide +kernel)
set_option maxRecDepth 100000 in
theorem wt431 : Cond.selects RX7 yX7_planDraft yX7_planDraft ∈ lw_tbl := List.mem_of_getElem? (i := 5) (by decide +kernel)
set_option maxRecDepth 100000 in
theorem wt432 : Cond.code yX7_planDraft cX7_planDraft 3 none ∈ lw_tbl := List.mem_of_getElem? (i := 500) (by decide +kernel)
set_option maxRecDepth 100000 in
theorem wt433 : Cond.fieldLink RX7 440 "Tollgate$LegRow" "amount" "[J" ∈ lw_tbl := List.mem_of_getElem? (i := 99) (by decide +kernel)
set_option maxRecDepth 100000 in
theorem wt434 : Cond.fieldLink RX7 441 "Tollgate$LegRow" "worth" "[J" ∈ lw_tbl := List.mem_of_getElem? (i := 102) (by decide +kernel)
set_option maxRecDepth 100000 in
theorem wt435 : Cond.methodLink RX7 419 yX7_planKeepsFloors ∈ lw_tbl := List.mem_of_getElem? (i := 505) (by decide +kernel)
set_option maxRecDepth 100000 in
theorem wt436 : Cond.instanceMethod yX7_planKeepsFloors ∈ lw_tbl := List.mem_of_getElem? (i := 507) (by decide +kernel)
set_option maxRecDepth 100000 in
theorem wt437 : Cond.selects RX7 yX7_planKeepsFloors yX7_planKeepsFloors ∈ lw_tbl := List.mem_of_getElem? (i := 7) (by decide +kernel)
set_option maxRecDepth 100000 in
theorem wt438 : Cond.code yX7_planKeepsFloors cX7_planKeepsFloors 8 (some .boolean) ∈ lw_tbl := List.mem_of_getElem? (i := 508) (by decide +kernel)
set_option maxRecDepth 100000 in
theorem wt439 : Cond.fieldLink RX7 122 "Tollgate$Accounts" "hasFloor" "[Z" ∈ lw_tbl := List.mem_of_getElem? (i := 64) (by decide +kernel)
set_option maxRecDepth 100000 in
theorem wt440 : Cond.fieldLink RX7 119 "Tollgate$Accounts" "floors" "[I" ∈ lw_tbl := List.mem_of_getElem? (i := 62) (by decide +kernel)
set_option maxRecDepth 100000 in
theorem wt441 : Cond.methodLink RX7 442 yX4_amountOn ∈ lw_tbl := List.mem_of_getElem? (i := 521) (by decide +kernel)
set_option maxRecDepth 100000 in
theorem wt442 : Cond.instanceMethod yX4_amountOn ∈ lw_tbl := List.mem_of_getElem? (i := 522) (by decide +kernel)
set_option maxRecDepth 100000 in
theorem wt443 : Cond.selects RX4 yX4_amountOn yX4_amountOn ∈ lw_tbl := List.mem_of_getElem? (i := 523) (by decide +kernel)
set_option maxRecDepth 100000 in
theorem wt444 : Cond.code yX4_amountOn cX4_amountOn 5 (some .long) ∈ lw_tbl := List.mem_of_getElem? (i := 524) (by decide +kernel)
set_option maxRecDepth 100000 in
theorem wt445 : Cond.methodLink RX7 424 yX0_stand ∈ lw_tbl := List.mem_of_getElem? (i := 525) (by decide +kernel)
set_option maxRecDepth 100000 in
theorem wt446 : Cond.instanceMethod yX0_stand ∈ lw_tbl := List.mem_of_getElem? (i := 526) (by decide +kernel)
set_option maxRecDepth 100000 in
theorem wt447 : Cond.selects RX0 yX0_stand yX0_stand ∈ lw_tbl := List.mem_of_getElem? (i := 527) (by decide +kernel)
set_option maxRecDepth 100000 in
theorem wt448 : Cond.code yX0_stand cX0_stand 4 (some .long) ∈ lw_tbl := List.mem_of_getElem? (i := 528) (by decide +kernel)
set_option maxRecDepth 100000 in
theorem wt449 : Cond.methodLink RX7 113 yX2_heldOn ∈ lw_tbl := List.mem_of_getElem? (i := 529) (by decide +kernel)
set_option maxRecDepth 100000 in
theorem wt450 : Cond.instanceMethod yX2_heldOn ∈ lw_tbl := List.mem_of_getElem? (i := 530) (by decide +kernel)
set_option maxRecDepth 100000 in
theorem wt451 : Cond.selects RX2 yX2_heldOn yX2_heldOn ∈ lw_tbl := List.mem_of_getElem? (i := 531) (by decide +kernel)
set_option maxRecDepth 100000 in
theorem wt452 : Cond.code yX2_heldOn cX2_heldOn 7 (some .long) ∈ lw_tbl := List.mem_of_getElem? (i := 532) (by decide +kernel)
set_option maxRecDepth 100000 in
theorem wt453 : Cond.methodLink RL 79 yX7_post ∈ lw_tbl := List.mem_of_getElem? (i := 470) (by decide +kernel)
set_option maxRecDepth 100000 in
theorem wt454 : Cond.instanceMethod yX7_post ∈ lw_tbl := List.mem_of_getElem? (i := 471) (by decide +kernel)
set_option maxRecDepth 100000 in
theorem wt455 : Cond.selects RX7 yX7_post yX7_post ∈ lw_tbl := List.mem_of_getElem? (i := 472) (by decide +kernel)
set_option maxRecDepth 100000 in
theorem wt456 : Cond.code yX7_post cX7_post 2 (some .int) ∈ lw_tbl := List.mem_of_getElem? (i := 473) (by decide +kernel)
set_option maxRecDepth 100000 in
theorem wt457 : Cond.fieldLink RX7 178 "Tollgate$Draft" "note" "I" ∈ lw_tbl := List.mem_of_getElem? (i := 124) (by decide +kernel)
set_option maxRecDepth 100000 in
theorem wt458 : Cond.methodLink RX7 185 yX1_forget ∈ lw_tbl := List.mem_of_getElem? (i := 551) (by decide +kernel)
set_option maxRecDepth 100000 in
theorem wt459 : Cond.instanceMethod yX1_forget ∈ lw_tbl := List.mem_of_getElem? (i := 552) (by decide +kernel)
set_option maxRecDepth 100000 in
theorem wt460 : Cond.selects RX1 yX1_forget yX1_forget ∈ lw_tbl := List.mem_of_getElem? (i := 553) (by decide +kernel)
set_option maxRecDepth 100000 in
theorem wt461 : Cond.code yX1_forget cX1_forget 1 none ∈ lw_tbl := List.mem_of_getElem? (i := 554) (by decide +kernel)
set_option maxRecDepth 100000 in
theorem wt462 : Cond.methodLink RL 82 yX7_ofKind ∈ lw_tbl := List.mem_of_getElem? (i := 733) (by decide +kernel)
set_option maxRecDepth 100000 in
theorem wt463 : Cond.instanceMethod yX7_ofKind ∈ lw_tbl := List.mem_of_getElem? (i := 734) (by decide +kernel)
set_option maxRecDepth 100000 in
theorem wt464 : Cond.selects RX7 yX7_ofKind yX7_ofKind ∈ lw_tbl := List.mem_of_getElem? (i := 735) (by decide +kernel)
set_option maxRecDepth 100000 in
theorem wt465 : Cond.code yX7_ofKind cX7_ofKind 5 (some .long) ∈ lw_tbl := List.mem_of_getElem? (i := 736) (by decide +kernel)
set_option maxRecDepth 100000 in
theorem wt466 : Cond.methodLink RX7 348 yX3_worthOn ∈ lw_tbl := List.mem_of_getElem? (i := 721) (by decide +kernel)
set_option maxRecDepth 100000 in
theorem wt467 : Cond.instanceMethod yX3_worthOn ∈ lw_tbl := List.mem_of_getElem? (i := 722) (by decide +kernel)
set_option maxRecDepth 100000 in
theorem wt468 : Cond.selects RX3 yX3_worthOn yX3_worthOn ∈ lw_tbl := List.mem_of_getElem? (i := 723) (by decide +kernel)
set_option maxRecDepth 100000 in
theorem wt469 : Cond.code yX3_worthOn cX3_worthOn 5 (some .long) ∈ lw_tbl := List.mem_of_getElem? (i := 724) (by decide +kernel)
set_option maxRecDepth 100000 in
theorem wt470 : Cond.methodLink RL 85 yX7_digest ∈ lw_tbl := List.mem_of_getElem? (i := 759) (by decide +kernel)
set_option maxRecDepth 100000 in
theorem wt471 : Cond.instanceMethod yX7_digest ∈ lw_tbl := List.mem_of_getElem? (i := 760) (by decide +kernel)
set_option maxRecDepth 100000 in
theorem wt472 : Cond.selects RX7 yX7_digest yX7_digest ∈ lw_tbl := List.mem_of_getElem? (i := 761) (by decide +kernel)
set_option maxRecDepth 100000 in
theorem wt473 : Cond.code yX7_digest cX7_digest 4 (some .long) ∈ lw_tbl := List.mem_of_getElem? (i := 762) (by decide +kernel)
set_option maxRecDepth 100000 in
theorem wt474 : Cond.constantLong RX7 364 (58089) ∈ lw_tbl := List.mem_of_getElem? (i := 763) (by decide +kernel)
set_option maxRecDepth 100000 in
theorem wt475 : Cond.fieldLink RX7 377 "Tollgate$Journal" "count" "I" ∈ lw_tbl := List.mem_of_getElem? (i := 154) (by decide +kernel)
set_option maxRecDepth 100000 in
theorem wt476 : Cond.methodLink RX7 366 yX7_many ∈ lw_tbl := List.mem_of_getElem? (i := 764) (by decide +kernel)
set_option maxRecDepth 100000 in
theorem wt477 : Cond.methodLink RX7 369 yX7_mix ∈ lw_tbl := List.mem_of_getElem? (i := 765) (by decide +kernel)
set_option maxRecDepth 100000 in
theorem wt478 : Cond.static yX7_mix ∈ lw_tbl := List.mem_of_getElem? (i := 766) (by decide +kernel)
set_option maxRecDepth 100000 in
theorem wt479 : Cond.code yX7_mix cX7_mix 4 (some .long) ∈ lw_tbl := List.mem_of_getElem? (i := 767) (by decide +kernel)
set_option maxRecDepth 100000 in
theorem wt480 : Cond.constantLong RX7 390 (31) ∈ lw_tbl := List.mem_of_getElem? (i := 768) (by decide +kernel)
set_option maxRecDepth 100000 in
theorem wt481 : Cond.methodLink RX7 373 yX7_mixAccount ∈ lw_tbl := List.mem_of_getElem? (i := 769) (by decide +kernel)
set_option maxRecDepth 100000 in
theorem wt482 : Cond.instanceMethod yX7_mixAccount ∈ lw_tbl := List.mem_of_getElem? (i := 771) (by decide +kernel)
set_option maxRecDepth 100000 in
theorem wt483 : Cond.selects RX7 yX7_mixAccount yX7_mixAccount ∈ lw_tbl := List.mem_of_getElem? (i := 23) (by decide +kernel)
set_option maxRecDepth 100000 in
theorem wt484 : Cond.code yX7_mixAccount cX7_mixAccount 7 (some .long) ∈ lw_tbl := List.mem_of_getElem? (i := 772) (by decide +kernel)
set_option maxRecDepth 100000 in
theorem wt485 : Cond.methodLink RX7 392 yX7_told ∈ lw_tbl := List.mem_of_getElem? (i := 773) (by decide +kernel)
set_option maxRecDepth 100000 in
theorem wt486 : Cond.instanceMethod yX7_told ∈ lw_tbl := List.mem_of_getElem? (i := 714) (by decide +kernel)
set_option maxRecDepth 100000 in
theorem wt487 : Cond.selects RX7 yX7_told yX7_told ∈ lw_tbl := List.mem_of_getElem? (i := 715) (by decide +kernel)
set_option maxRecDepth 100000 in
theorem wt488 : Cond.code yX7_told cX7_told 3 (some .long) ∈ lw_tbl := List.mem_of_getElem? (i := 716) (by decide +kernel)
set_option maxRecDepth 100000 in
theorem wt489 : Cond.methodLink RX7 109 yX7_standOf ∈ lw_tbl := List.mem_of_getElem? (i := 717) (by decide +kernel)
set_option maxRecDepth 100000 in
theorem wt490 : Cond.instanceMethod yX7_standOf ∈ lw_tbl := List.mem_of_getElem? (i := 719) (by decide +kernel)
set_option maxRecDepth 100000 in
theorem wt491 : Cond.selects RX7 yX7_standOf yX7_standOf ∈ lw_tbl := List.mem_of_getElem? (i := 21) (by decide +kernel)
set_option maxRecDepth 100000 in
theorem wt492 : Cond.code yX7_standOf cX7_standOf 2 (some .long) ∈ lw_tbl := List.mem_of_getElem? (i := 720) (by decide +kernel)
set_option maxRecDepth 100000 in
theorem wt493 : Cond.methodLink RX7 248 yX7_hadIf ∈ lw_tbl := List.mem_of_getElem? (i := 725) (by decide +kernel)
set_option maxRecDepth 100000 in
theorem wt494 : Cond.instanceMethod yX7_hadIf ∈ lw_tbl := List.mem_of_getElem? (i := 727) (by decide +kernel)
set_option maxRecDepth 100000 in
theorem wt495 : Cond.selects RX7 yX7_hadIf yX7_hadIf ∈ lw_tbl := List.mem_of_getElem? (i := 22) (by decide +kernel)
set_option maxRecDepth 100000 in
theorem wt496 : Cond.code yX7_hadIf cX7_hadIf 5 (some .long) ∈ lw_tbl := List.mem_of_getElem? (i := 728) (by decide +kernel)
set_option maxRecDepth 100000 in
theorem wt497 : Cond.methodLink RX7 395 yX7_left ∈ lw_tbl := List.mem_of_getElem? (i := 774) (by decide +kernel)
set_option maxRecDepth 100000 in
theorem wt498 : Cond.methodLink RX7 378 yX7_mixEntry ∈ lw_tbl := List.mem_of_getElem? (i := 775) (by decide +kernel)
set_option maxRecDepth 100000 in
theorem wt499 : Cond.instanceMethod yX7_mixEntry ∈ lw_tbl := List.mem_of_getElem? (i := 777) (by decide +kernel)
set_option maxRecDepth 100000 in
theorem wt500 : Cond.selects RX7 yX7_mixEntry yX7_mixEntry ∈ lw_tbl := List.mem_of_getElem? (i := 24) (by decide +kernel)
set_option maxRecDepth 100000 in
theorem wt501 : Cond.code yX7_mixEntry cX7_mixEntry 8 (some .long) ∈ lw_tbl := List.mem_of_getElem? (i := 778) (by decide +kernel)
set_option maxRecDepth 100000 in
theorem wt502 : Cond.methodLink RX7 398 yX7_ofEntry ∈ lw_tbl := List.mem_of_getElem? (i := 779) (by decide +kernel)
set_option maxRecDepth 100000 in
theorem wt503 : Cond.methodLink RX7 401 yX7_ofLeg ∈ lw_tbl := List.mem_of_getElem? (i := 780) (by decide +kernel)
set_option maxRecDepth 100000 in
theorem wt504 : Cond.methodLink RX7 381 yX7_matched ∈ lw_tbl := List.mem_of_getElem? (i := 781) (by decide +kernel)
set_option maxRecDepth 100000 in
theorem wt505 : Cond.instanceMethod yX7_matched ∈ lw_tbl := List.mem_of_getElem? (i := 696) (by decide +kernel)
set_option maxRecDepth 100000 in
theorem wt506 : Cond.selects RX7 yX7_matched yX7_matched ∈ lw_tbl := List.mem_of_getElem? (i := 697) (by decide +kernel)
set_option maxRecDepth 100000 in
theorem wt507 : Cond.code yX7_matched cX7_matched 3 (some .int) ∈ lw_tbl := List.mem_of_getElem? (i := 698) (by decide +kernel)
set_option maxRecDepth 100000 in
theorem wt508 : Cond.fieldLink RX7 331 "Tollgate$Matching" "firstOfLine" "[I" ∈ lw_tbl := List.mem_of_getElem? (i := 253) (by decide +kernel)
set_option maxRecDepth 100000 in
theorem wt509 : Cond.fieldLink RX7 334 "Tollgate$Journal" "entryOf" "[I" ∈ lw_tbl := List.mem_of_getElem? (i := 156) (by decide +kernel)
set_option maxRecDepth 100000 in
theorem wt510 : Cond.methodLink RX7 384 yX7_ofKind ∈ lw_tbl := List.mem_of_getElem? (i := 782) (by decide +kernel)
set_option maxRecDepth 100000 in
theorem wt511 : Cond.methodLink RX7 387 yX7_wouldClose ∈ lw_tbl := List.mem_of_getElem? (i := 783) (by decide +kernel)
set_option maxRecDepth 100000 in
theorem wt512 : Cond.methodLink RL 89 yX7_at ∈ lw_tbl := List.mem_of_getElem? (i := 729) (by decide +kernel)
set_option maxRecDepth 100000 in
theorem wt513 : Cond.instanceMethod yX7_at ∈ lw_tbl := List.mem_of_getElem? (i := 730) (by decide +kernel)
set_option maxRecDepth 100000 in
theorem wt514 : Cond.selects RX7 yX7_at yX7_at ∈ lw_tbl := List.mem_of_getElem? (i := 731) (by decide +kernel)
set_option maxRecDepth 100000 in
theorem wt515 : Cond.code yX7_at cX7_at 3 (some .long) ∈ lw_tbl := List.mem_of_getElem? (i := 732) (by decide +kernel)
set_option maxRecDepth 100000 in
theorem wt516 : Cond.methodLink RL 92 yX7_told ∈ lw_tbl := List.mem_of_getElem? (i := 713) (by decide +kernel)
set_option maxRecDepth 100000 in
theorem wt517 : Cond.methodLink RL 101 yX7_hadOn ∈ lw_tbl := List.mem_of_getElem? (i := 746) (by decide +kernel)
set_option maxRecDepth 100000 in
theorem wt518 : Cond.instanceMethod yX7_hadOn ∈ lw_tbl := List.mem_of_getElem? (i := 747) (by decide +kernel)
set_option maxRecDepth 100000 in
theorem wt519 : Cond.selects RX7 yX7_hadOn yX7_hadOn ∈ lw_tbl := List.mem_of_getElem? (i := 748) (by decide +kernel)
set_option maxRecDepth 100000 in
theorem wt520 : Cond.code yX7_hadOn cX7_hadOn 3 (some .long) ∈ lw_tbl := List.mem_of_getElem? (i := 749) (by decide +kernel)
set_option maxRecDepth 100000 in
theorem wt521 : Cond.methodLink RL 104 yX7_matched ∈ lw_tbl := List.mem_of_getElem? (i := 695) (by decide +kernel)
set_option maxRecDepth 100000 in
theorem wt522 : Cond.methodLink RL 107 yX7_earned ∈ lw_tbl := List.mem_of_getElem? (i := 738) (by decide +kernel)
set_option maxRecDepth 100000 in
theorem wt523 : Cond.instanceMethod yX7_earned ∈ lw_tbl := List.mem_of_getElem? (i := 739) (by decide +kernel)
set_option maxRecDepth 100000 in
theorem wt524 : Cond.selects RX7 yX7_earned yX7_earned ∈ lw_tbl := List.mem_of_getElem? (i := 740) (by decide +kernel)
set_option maxRecDepth 100000 in
theorem wt525 : Cond.code yX7_earned cX7_earned 6 (some .long) ∈ lw_tbl := List.mem_of_getElem? (i := 741) (by decide +kernel)
set_option maxRecDepth 100000 in
theorem wt526 : Cond.methodLink RX7 356 yX3_worthBetween ∈ lw_tbl := List.mem_of_getElem? (i := 742) (by decide +kernel)
set_option maxRecDepth 100000 in
theorem wt527 : Cond.instanceMethod yX3_worthBetween ∈ lw_tbl := List.mem_of_getElem? (i := 743) (by decide +kernel)
set_option maxRecDepth 100000 in
theorem wt528 : Cond.selects RX3 yX3_worthBetween yX3_worthBetween ∈ lw_tbl := List.mem_of_getElem? (i := 744) (by decide +kernel)
set_option maxRecDepth 100000 in
theorem wt529 : Cond.code yX3_worthBetween cX3_worthBetween 7 (some .long) ∈ lw_tbl := List.mem_of_getElem? (i := 745) (by decide +kernel)
set_option maxRecDepth 100000 in
theorem wtx7 : ∀ w ∈ wsX70, w ∈ lw_tbl := by decide +kernel
set_option maxRecDepth 100000 in
theorem wtx0 : ∀ w ∈ wsX00, w ∈ lw_tbl := by decide +kernel
set_option maxRecDepth 100000 in
theorem wtx1 : ∀ w ∈ wsX10, w ∈ lw_tbl := by decide +kernel
set_option maxRecDepth 100000 in
theorem wtx3 : ∀ w ∈ wsX30, w ∈ lw_tbl := by decide +kernel
set_option maxRecDepth 100000 in
theorem wtx2 : ∀ w ∈ wsX20, w ∈ lw_tbl := by decide +kernel
set_option maxRecDepth 100000 in
theorem wtx5 : ∀ w ∈ wsX50, w ∈ lw_tbl := by decide +kernel
set_option maxRecDepth 100000 in
theorem wtx6 : ∀ w ∈ wsX60, w ∈ lw_tbl := by decide +kernel
set_option maxRecDepth 100000 in
theorem wtx4 : ∀ w ∈ wsX40, w ∈ lw_tbl := by decide +kernel
set_option maxRecDepth 100000 in
theorem wr_wsL_law0_r1 : ∀ w ∈ wsL_law0_r1, w ∈ lw_tbl := List.forall_mem_cons.mpr ⟨wt0, List.forall_mem_cons.mpr ⟨wt1, List.forall_mem_cons.mpr ⟨wt2, List.forall_mem_cons.mpr ⟨wt3, List.forall_mem_cons.mpr ⟨wt4, List.forall_mem_cons.mpr ⟨wt5, List.forall_mem_cons.mpr ⟨wt6, List.forall_mem_cons.mpr ⟨wt7, List.forall_mem_cons.mpr ⟨wt8, List.forall_mem_cons.mpr ⟨wt9, List.forall_mem_cons.mpr ⟨wt10, List.forall_mem_cons.mpr ⟨wt11, List.forall_mem_cons.mpr ⟨wt12, List.forall_mem_cons.mpr ⟨wt13, List.forall_mem_cons.mpr ⟨wt14, List.forall_mem_cons.mpr ⟨wt15, List.forall_mem_cons.mpr ⟨wt16, List.forall_mem_cons.mpr ⟨wt17, List.forall_mem_cons.mpr ⟨wt18, List.forall_mem_cons.mpr ⟨wt19, List.forall_mem_cons.mpr ⟨wt20, List.forall_mem_cons.mpr ⟨wt21, List.forall_mem_cons.mpr ⟨wt22, List.forall_mem_cons.mpr ⟨wt23, fun _ h => absurd h List.not_mem_nil⟩⟩⟩⟩⟩⟩⟩⟩⟩⟩⟩⟩⟩⟩⟩⟩⟩⟩⟩⟩⟩⟩⟩⟩
set_option maxRecDepth 100000 in
theorem wr_wsL_law0_r2 : ∀ w ∈ wsL_law0_r2, w ∈ lw_tbl := List.forall_mem_cons.mpr ⟨wt24, List.forall_mem_cons.mpr ⟨wt25, List.forall_mem_cons.mpr ⟨wt26, List.forall_mem_cons.mpr ⟨wt27, List.forall_mem_cons.mpr ⟨wt28, List.forall_mem_cons.mpr ⟨wt29, List.forall_mem_cons.mpr ⟨wt30, List.forall_mem_cons.mpr ⟨wt31, List.forall_mem_cons.mpr ⟨wt32, List.forall_mem_cons.mpr ⟨wt33, List.forall_mem_cons.mpr ⟨wt34, List.forall_mem_cons.mpr ⟨wt35, List.forall_mem_cons.mpr ⟨wt36, List.forall_mem_cons.mpr ⟨wt37, List.forall_mem_cons.mpr ⟨wt38, List.forall_mem_cons.mpr ⟨wt39, List.forall_mem_cons.mpr ⟨wt40, List.forall_mem_cons.mpr ⟨wt41, List.forall_mem_cons.mpr ⟨wt42, List.forall_mem_cons.mpr ⟨wt43, List.forall_mem_cons.mpr ⟨wt44, List.forall_mem_cons.mpr ⟨wt45, List.forall_mem_cons.mpr ⟨wt46, List.forall_mem_cons.mpr ⟨wt47, fun _ h => absurd h List.not_mem_nil⟩⟩⟩⟩⟩⟩⟩⟩⟩⟩⟩⟩⟩⟩⟩⟩⟩⟩⟩⟩⟩⟩⟩⟩
set_option maxRecDepth 100000 in
theorem wr_wsL_law0_r3 : ∀ w ∈ wsL_law0_r3, w ∈ lw_tbl := List.forall_mem_cons.mpr ⟨wt48, List.forall_mem_cons.mpr ⟨wt49, List.forall_mem_cons.mpr ⟨wt50, List.forall_mem_cons.mpr ⟨wt51, List.forall_mem_cons.mpr ⟨wt52, List.forall_mem_cons.mpr ⟨wt53, List.forall_mem_cons.mpr ⟨wt54, List.forall_mem_cons.mpr ⟨wt55, List.forall_mem_cons.mpr ⟨wt56, List.forall_mem_cons.mpr ⟨wt57, List.forall_mem_cons.mpr ⟨wt58, List.forall_mem_cons.mpr ⟨wt59, List.forall_mem_cons.mpr ⟨wt60, List.forall_mem_cons.mpr ⟨wt61, List.forall_mem_cons.mpr ⟨wt62, List.forall_mem_cons.mpr ⟨wt63, List.forall_mem_cons.mpr ⟨wt64, List.forall_mem_cons.mpr ⟨wt65, List.forall_mem_cons.mpr ⟨wt66, List.forall_mem_cons.mpr ⟨wt67, List.forall_mem_cons.mpr ⟨wt68, List.forall_mem_cons.mpr ⟨wt69, List.forall_mem_cons.mpr ⟨wt70, List.forall_mem_cons.mpr ⟨wt71, fun _ h => absurd h List.not_mem_nil⟩⟩⟩⟩⟩⟩⟩⟩⟩⟩⟩⟩⟩⟩⟩⟩⟩⟩⟩⟩⟩⟩⟩⟩
set_option maxRecDepth 100000 in
theorem wr_wsL_law0_r4 : ∀ w ∈ wsL_law0_r4, w ∈ lw_tbl := List.forall_mem_cons.mpr ⟨wt72, List.forall_mem_cons.mpr ⟨wt73, List.forall_mem_cons.mpr ⟨wt74, List.forall_mem_cons.mpr ⟨wt75, List.forall_mem_cons.mpr ⟨wt76, List.forall_mem_cons.mpr ⟨wt77, List.forall_mem_cons.mpr ⟨wt78, List.forall_mem_cons.mpr ⟨wt79, List.forall_mem_cons.mpr ⟨wt80, List.forall_mem_cons.mpr ⟨wt81, List.forall_mem_cons.mpr ⟨wt82, List.forall_mem_cons.mpr ⟨wt83, List.forall_mem_cons.mpr ⟨wt84, List.forall_mem_cons.mpr ⟨wt85, List.forall_mem_cons.mpr ⟨wt86, List.forall_mem_cons.mpr ⟨wt87, List.forall_mem_cons.mpr ⟨wt88, List.forall_mem_cons.mpr ⟨wt89, List.forall_mem_cons.mpr ⟨wt90, List.forall_mem_cons.mpr ⟨wt91, List.forall_mem_cons.mpr ⟨wt92, List.forall_mem_cons.mpr ⟨wt93, List.forall_mem_cons.mpr ⟨wt94, List.forall_mem_cons.mpr ⟨wt95, fun _ h => absurd h List.not_mem_nil⟩⟩⟩⟩⟩⟩⟩⟩⟩⟩⟩⟩⟩⟩⟩⟩⟩⟩⟩⟩⟩⟩⟩⟩
set_option maxRecDepth 100000 in
theorem wr_wsL_law0_r5 : ∀ w ∈ wsL_law0_r5, w ∈ lw_tbl := List.forall_mem_cons.mpr ⟨wt96, List.forall_mem_cons.mpr ⟨wt97, List.forall_mem_cons.mpr ⟨wt98, List.forall_mem_cons.mpr ⟨wt99, List.forall_mem_cons.mpr ⟨wt100, List.forall_mem_cons.mpr ⟨wt101, List.forall_mem_cons.mpr ⟨wt102, List.forall_mem_cons.mpr ⟨wt103, List.forall_mem_cons.mpr ⟨wt104, List.forall_mem_cons.mpr ⟨wt105, List.forall_mem_cons.mpr ⟨wt106, List.forall_mem_cons.mpr ⟨wt107, List.forall_mem_cons.mpr ⟨wt108, List.forall_mem_cons.mpr ⟨wt109, List.forall_mem_cons.mpr ⟨wt110, List.forall_mem_cons.mpr ⟨wt111, List.forall_mem_cons.mpr ⟨wt112, List.forall_mem_cons.mpr ⟨wt113, List.forall_mem_cons.mpr ⟨wt114, List.forall_mem_cons.mpr ⟨wt115, List.forall_mem_cons.mpr ⟨wt116, List.forall_mem_cons.mpr ⟨wt117, List.forall_mem_cons.mpr ⟨wt118, List.forall_mem_cons.mpr ⟨wt119, fun _ h => absurd h List.not_mem_nil⟩⟩⟩⟩⟩⟩⟩⟩⟩⟩⟩⟩⟩⟩⟩⟩⟩⟩⟩⟩⟩⟩⟩⟩
set_option maxRecDepth 100000 in
theorem wr_wsL_law0_r6 : ∀ w ∈ wsL_law0_r6, w ∈ lw_tbl := List.forall_mem_cons.mpr ⟨wt120, List.forall_mem_cons.mpr ⟨wt121, List.forall_mem_cons.mpr ⟨wt122, List.forall_mem_cons.mpr ⟨wt123, List.forall_mem_cons.mpr ⟨wt124, List.forall_mem_cons.mpr ⟨wt125, List.forall_mem_cons.mpr ⟨wt126, List.forall_mem_cons.mpr ⟨wt127, List.forall_mem_cons.mpr ⟨wt128, List.forall_mem_cons.mpr ⟨wt129, List.forall_mem_cons.mpr ⟨wt130, List.forall_mem_cons.mpr ⟨wt131, List.forall_mem_cons.mpr ⟨wt132, List.forall_mem_cons.mpr ⟨wt133, List.forall_mem_cons.mpr ⟨wt134, List.forall_mem_cons.mpr ⟨wt135, List.forall_mem_cons.mpr ⟨wt136, List.forall_mem_cons.mpr ⟨wt137, List.forall_mem_cons.mpr ⟨wt138, List.forall_mem_cons.mpr ⟨wt139, List.forall_mem_cons.mpr ⟨wt140, List.forall_mem_cons.mpr ⟨wt141, List.forall_mem_cons.mpr ⟨wt142, List.forall_mem_cons.mpr ⟨wt143, fun _ h => absurd h List.not_mem_nil⟩⟩⟩⟩⟩⟩⟩⟩⟩⟩⟩⟩⟩⟩⟩⟩⟩⟩⟩⟩⟩⟩⟩⟩
set_option maxRecDepth 100000 in
theorem wr_wsL_law0_r7 : ∀ w ∈ wsL_law0_r7, w ∈ lw_tbl := List.forall_mem_cons.mpr ⟨wt144, List.forall_mem_cons.mpr ⟨wt145, List.forall_mem_cons.mpr ⟨wt146, List.forall_mem_cons.mpr ⟨wt147, List.forall_mem_cons.mpr ⟨wt148, List.forall_mem_cons.mpr ⟨wt149, List.forall_mem_cons.mpr ⟨wt150, List.forall_mem_cons.mpr ⟨wt151, List.forall_mem_cons.mpr ⟨wt152, List.forall_mem_cons.mpr ⟨wt153, List.forall_mem_cons.mpr ⟨wt154, List.forall_mem_cons.mpr ⟨wt155, List.forall_mem_cons.mpr ⟨wt156, List.forall_mem_cons.mpr ⟨wt157, List.forall_mem_cons.mpr ⟨wt158, List.forall_mem_cons.mpr ⟨wt159, List.forall_mem_cons.mpr ⟨wt160, List.forall_mem_cons.mpr ⟨wt161, List.forall_mem_cons.mpr ⟨wt162, List.forall_mem_cons.mpr ⟨wt163, List.forall_mem_cons.mpr ⟨wt164, List.forall_mem_cons.mpr ⟨wt165, List.forall_mem_cons.mpr ⟨wt166, List.forall_mem_cons.mpr ⟨wt167, fun _ h => absurd h List.not_mem_nil⟩⟩⟩⟩⟩⟩⟩⟩⟩⟩⟩⟩⟩⟩⟩⟩⟩⟩⟩⟩⟩⟩⟩⟩
set_option maxRecDepth 100000 in
theorem wr_wsL_law0_r8 : ∀ w ∈ wsL_law0_r8, w ∈ lw_tbl := List.forall_mem_cons.mpr ⟨wt168, List.forall_mem_cons.mpr ⟨wt169, List.forall_mem_cons.mpr ⟨wt170, List.forall_mem_cons.mpr ⟨wt171, List.forall_mem_cons.mpr ⟨wt172, List.forall_mem_cons.mpr ⟨wt173, List.forall_mem_cons.mpr ⟨wt174, List.forall_mem_cons.mpr ⟨wt175, List.forall_mem_cons.mpr ⟨wt176, List.forall_mem_cons.mpr ⟨wt177, List.forall_mem_cons.mpr ⟨wt178, List.forall_mem_cons.mpr ⟨wt179, List.forall_mem_cons.mpr ⟨wt180, List.forall_mem_cons.mpr ⟨wt181, List.forall_mem_cons.mpr ⟨wt182, List.forall_mem_cons.mpr ⟨wt183, List.forall_mem_cons.mpr ⟨wt184, List.forall_mem_cons.mpr ⟨wt185, List.forall_mem_cons.mpr ⟨wt186, List.forall_mem_cons.mpr ⟨wt187, List.forall_mem_cons.mpr ⟨wt188, List.forall_mem_cons.mpr ⟨wt189, List.forall_mem_cons.mpr ⟨wt190, List.forall_mem_cons.mpr ⟨wt191, fun _ h => absurd h List.not_mem_nil⟩⟩⟩⟩⟩⟩⟩⟩⟩⟩⟩⟩⟩⟩⟩⟩⟩⟩⟩⟩⟩⟩⟩⟩
set_option maxRecDepth 100000 in
theorem wr_wsL_law0_r9 : ∀ w ∈ wsL_law0_r9, w ∈ lw_tbl := List.forall_mem_cons.mpr ⟨wt192, List.forall_mem_cons.mpr ⟨wt193, List.forall_mem_cons.mpr ⟨wt194, List.forall_mem_cons.mpr ⟨wt195, List.forall_mem_cons.mpr ⟨wt196, List.forall_mem_cons.mpr ⟨wt197, List.forall_mem_cons.mpr ⟨wt198, List.forall_mem_cons.mpr ⟨wt199, List.forall_mem_cons.mpr ⟨wt200, List.forall_mem_cons.mpr ⟨wt201, List.forall_mem_cons.mpr ⟨wt202, List.forall_mem_cons.mpr ⟨wt203, List.forall_mem_cons.mpr ⟨wt204, List.forall_mem_cons.mpr ⟨wt205, List.forall_mem_cons.mpr ⟨wt206, List.forall_mem_cons.mpr ⟨wt207, List.forall_mem_cons.mpr ⟨wt208, List.forall_mem_cons.mpr ⟨wt209, List.forall_mem_cons.mpr ⟨wt210, List.forall_mem_cons.mpr ⟨wt211, List.forall_mem_cons.mpr ⟨wt212, List.forall_mem_cons.mpr ⟨wt213, List.forall_mem_cons.mpr ⟨wt214, List.forall_mem_cons.mpr ⟨wt215, fun _ h => absurd h List.not_mem_nil⟩⟩⟩⟩⟩⟩⟩⟩⟩⟩⟩⟩⟩⟩⟩⟩⟩⟩⟩⟩⟩⟩⟩⟩
set_option maxRecDepth 100000 in
theorem wr_wsL_law0_r10 : ∀ w ∈ wsL_law0_r10, w ∈ lw_tbl := List.forall_mem_cons.mpr ⟨wt216, List.forall_mem_cons.mpr ⟨wt217, List.forall_mem_cons.mpr ⟨wt218, List.forall_mem_cons.mpr ⟨wt219, List.forall_mem_cons.mpr ⟨wt220, List.forall_mem_cons.mpr ⟨wt221, List.forall_mem_cons.mpr ⟨wt222, List.forall_mem_cons.mpr ⟨wt223, List.forall_mem_cons.mpr ⟨wt224, List.forall_mem_cons.mpr ⟨wt225, List.forall_mem_cons.mpr ⟨wt226, List.forall_mem_cons.mpr ⟨wt227, List.forall_mem_cons.mpr ⟨wt228, List.forall_mem_cons.mpr ⟨wt229, List.forall_mem_cons.mpr ⟨wt230, List.forall_mem_cons.mpr ⟨wt231, List.forall_mem_cons.mpr ⟨wt232, List.forall_mem_cons.mpr ⟨wt233, List.forall_mem_cons.mpr ⟨wt234, List.forall_mem_cons.mpr ⟨wt235, List.forall_mem_cons.mpr ⟨wt236, List.forall_mem_cons.mpr ⟨wt237, List.forall_mem_cons.mpr ⟨wt238, List.forall_mem_cons.mpr ⟨wt239, fun _ h => absurd h List.not_mem_nil⟩⟩⟩⟩⟩⟩⟩⟩⟩⟩⟩⟩⟩⟩⟩⟩⟩⟩⟩⟩⟩⟩⟩⟩
set_option maxRecDepth 100000 in
theorem wr_wsL_law0_r11 : ∀ w ∈ wsL_law0_r11, w ∈ lw_tbl := List.forall_mem_cons.mpr ⟨wt240, List.forall_mem_cons.mpr ⟨wt241, List.forall_mem_cons.mpr ⟨wt242, List.forall_mem_cons.mpr ⟨wt243, List.forall_mem_cons.mpr ⟨wt244, List.forall_mem_cons.mpr ⟨wt245, List.forall_mem_cons.mpr ⟨wt246, List.forall_mem_cons.mpr ⟨wt247, List.forall_mem_cons.mpr ⟨wt248, List.forall_mem_cons.mpr ⟨wt249, List.forall_mem_cons.mpr ⟨wt250, List.forall_mem_cons.mpr ⟨wt251, List.forall_mem_cons.mpr ⟨wt252, List.forall_mem_cons.mpr ⟨wt253, List.forall_mem_cons.mpr ⟨wt254, List.forall_mem_cons.mpr ⟨wt255, List.forall_mem_cons.mpr ⟨wt256, List.forall_mem_cons.mpr ⟨wt257, List.forall_mem_cons.mpr ⟨wt258, List.forall_mem_cons.mpr ⟨wt259, List.forall_mem_cons.mpr ⟨wt260, List.forall_mem_cons.mpr ⟨wt261, List.forall_mem_cons.mpr ⟨wt262, List.forall_mem_cons.mpr ⟨wt263, fun _ h => absurd h List.not_mem_nil⟩⟩⟩⟩⟩⟩⟩⟩⟩⟩⟩⟩⟩⟩⟩⟩⟩⟩⟩⟩⟩⟩⟩⟩
set_option maxRecDepth 100000 in
theorem wr_wsL_law0_r12 : ∀ w ∈ wsL_law0_r12, w ∈ lw_tbl := List.forall_mem_cons.mpr ⟨wt264, List.forall_mem_cons.mpr ⟨wt265, List.forall_mem_cons.mpr ⟨wt266, List.forall_mem_cons.mpr ⟨wt267, List.forall_mem_cons.mpr ⟨wt268, List.forall_mem_cons.mpr ⟨wt269, List.forall_mem_cons.mpr ⟨wt270, List.forall_mem_cons.mpr ⟨wt271, List.forall_mem_cons.mpr ⟨wt272, List.forall_mem_cons.mpr ⟨wt273, List.forall_mem_cons.mpr ⟨wt274, List.forall_mem_cons.mpr ⟨wt275, List.forall_mem_cons.mpr ⟨wt276, List.forall_mem_cons.mpr ⟨wt277, List.forall_mem_cons.mpr ⟨wt278, List.forall_mem_cons.mpr ⟨wt279, List.forall_mem_cons.mpr ⟨wt280, List.forall_mem_cons.mpr ⟨wt281, List.forall_mem_cons.mpr ⟨wt282, List.forall_mem_cons.mpr ⟨wt283, List.forall_mem_cons.mpr ⟨wt284, List.forall_mem_cons.mpr ⟨wt285, List.forall_mem_cons.mpr ⟨wt286, List.forall_mem_cons.mpr ⟨wt287, fun _ h => absurd h List.not_mem_nil⟩⟩⟩⟩⟩⟩⟩⟩⟩⟩⟩⟩⟩⟩⟩⟩⟩⟩⟩⟩⟩⟩⟩⟩
set_option maxRecDepth 100000 in
theorem wr_wsL_law0_r13 : ∀ w ∈ wsL_law0_r13, w ∈ lw_tbl := List.forall_mem_cons.mpr ⟨wt288, List.forall_mem_cons.mpr ⟨wt289, List.forall_mem_cons.mpr ⟨wt290, List.forall_mem_cons.mpr ⟨wt291, List.forall_mem_cons.mpr ⟨wt292, List.forall_mem_cons.mpr ⟨wt293, List.forall_mem_cons.mpr ⟨wt294, List.forall_mem_cons.mpr ⟨wt295, List.forall_mem_cons.mpr ⟨wt296, List.forall_mem_cons.mpr ⟨wt297, List.forall_mem_cons.mpr ⟨wt298, List.forall_mem_cons.mpr ⟨wt299, List.forall_mem_cons.mpr ⟨wt300, List.forall_mem_cons.mpr ⟨wt301, List.forall_mem_cons.mpr ⟨wt302, List.forall_mem_cons.mpr ⟨wt303, List.forall_mem_cons.mpr ⟨wt304, List.forall_mem_cons.mpr ⟨wt305, List.forall_mem_cons.mpr ⟨wt306, List.forall_mem_cons.mpr ⟨wt307, List.forall_mem_cons.mpr ⟨wt308, List.forall_mem_cons.mpr ⟨wt309, List.forall_mem_cons.mpr ⟨wt310, List.forall_mem_cons.mpr ⟨wt311, fun _ h => absurd h List.not_mem_nil⟩⟩⟩⟩⟩⟩⟩⟩⟩⟩⟩⟩⟩⟩⟩⟩⟩⟩⟩⟩⟩⟩⟩⟩
set_option maxRecDepth 100000 in
theorem wr_wsL_law0_r14 : ∀ w ∈ wsL_law0_r14, w ∈ lw_tbl := List.forall_mem_cons.mpr ⟨wt312, List.forall_mem_cons.mpr ⟨wt313, List.forall_mem_cons.mpr ⟨wt314, List.forall_mem_cons.mpr ⟨wt315, List.forall_mem_cons.mpr ⟨wt316, List.forall_mem_cons.mpr ⟨wt317, List.forall_mem_cons.mpr ⟨wt318, List.forall_mem_cons.mpr ⟨wt319, List.forall_mem_cons.mpr ⟨wt320, List.forall_mem_cons.mpr ⟨wt321, List.forall_mem_cons.mpr ⟨wt322, List.forall_mem_cons.mpr ⟨wt323, List.forall_mem_cons.mpr ⟨wt324, List.forall_mem_cons.mpr ⟨wt325, List.forall_mem_cons.mpr ⟨wt326, List.forall_mem_cons.mpr ⟨wt327, List.forall_mem_cons.mpr ⟨wt328, List.forall_mem_cons.mpr ⟨wt329, List.forall_mem_cons.mpr ⟨wt330, List.forall_mem_cons.mpr ⟨wt331, List.forall_mem_cons.mpr ⟨wt332, List.forall_mem_cons.mpr ⟨wt333, List.forall_mem_cons.mpr ⟨wt334, List.forall_mem_cons.mpr ⟨wt335, fun _ h => absurd h List.not_mem_nil⟩⟩⟩⟩⟩⟩⟩⟩⟩⟩⟩⟩⟩⟩⟩⟩⟩⟩⟩⟩⟩⟩⟩⟩
set_option maxRecDepth 100000 in
theorem wr_wsL_law0_r15 : ∀ w ∈ wsL_law0_r15, w ∈ lw_tbl := List.forall_mem_cons.mpr ⟨wt336, List.forall_mem_cons.mpr ⟨wt337, List.forall_mem_cons.mpr ⟨wt338, List.forall_mem_cons.mpr ⟨wt339, List.forall_mem_cons.mpr ⟨wt340, List.forall_mem_cons.mpr ⟨wt341, List.forall_mem_cons.mpr ⟨wt342, List.forall_mem_cons.mpr ⟨wt343, List.forall_mem_cons.mpr ⟨wt344, List.forall_mem_cons.mpr ⟨wt345, List.forall_mem_cons.mpr ⟨wt346, List.forall_mem_cons.mpr ⟨wt347, List.forall_mem_cons.mpr ⟨wt348, List.forall_mem_cons.mpr ⟨wt349, List.forall_mem_cons.mpr ⟨wt350, List.forall_mem_cons.mpr ⟨wt351, List.forall_mem_cons.mpr ⟨wt352, List.forall_mem_cons.mpr ⟨wt353, List.forall_mem_cons.mpr ⟨wt354, List.forall_mem_cons.mpr ⟨wt355, List.forall_mem_cons.mpr ⟨wt356, List.forall_mem_cons.mpr ⟨wt357, List.forall_mem_cons.mpr ⟨wt358, List.forall_mem_cons.mpr ⟨wt359, fun _ h => absurd h List.not_mem_nil⟩⟩⟩⟩⟩⟩⟩⟩⟩⟩⟩⟩⟩⟩⟩⟩⟩⟩⟩⟩⟩⟩⟩⟩
set_option maxRecDepth 100000 in
theorem wr_wsL_law0_r16 : ∀ w ∈ wsL_law0_r16, w ∈ lw_tbl := List.forall_mem_cons.mpr ⟨wt360, List.forall_mem_cons.mpr ⟨wt361, List.forall_mem_cons.mpr ⟨wt362, List.forall_mem_cons.mpr ⟨wt363, List.forall_mem_cons.mpr ⟨wt364, List.forall_mem_cons.mpr ⟨wt365, List.forall_mem_cons.mpr ⟨wt366, List.forall_mem_cons.mpr ⟨wt367, List.forall_mem_cons.mpr ⟨wt368, List.forall_mem_cons.mpr ⟨wt369, List.forall_mem_cons.mpr ⟨wt370, List.forall_mem_cons.mpr ⟨wt371, List.forall_mem_cons.mpr ⟨wt372, List.forall_mem_cons.mpr ⟨wt373, List.forall_mem_cons.mpr ⟨wt374, List.forall_mem_cons.mpr ⟨wt375, List.forall_mem_cons.mpr ⟨wt376, List.forall_mem_cons.mpr ⟨wt377, List.forall_mem_cons.mpr ⟨wt378, List.forall_mem_cons.mpr ⟨wt379, List.forall_mem_cons.mpr ⟨wt380, List.forall_mem_cons.mpr ⟨wt381, List.forall_mem_cons.mpr ⟨wt382, List.forall_mem_cons.mpr ⟨wt383, fun _ h => absurd h List.not_mem_nil⟩⟩⟩⟩⟩⟩⟩⟩⟩⟩⟩⟩⟩⟩⟩⟩⟩⟩⟩⟩⟩⟩⟩⟩
set_option maxRecDepth 100000 in
theorem wr_wsL_law0_r17 : ∀ w ∈ wsL_law0_r17, w ∈ lw_tbl := List.forall_mem_cons.mpr ⟨wt384, List.forall_mem_cons.mpr ⟨wt385, List.forall_mem_cons.mpr ⟨wt386, List.forall_mem_cons.mpr ⟨wt387, List.forall_mem_cons.mpr ⟨wt388, List.forall_mem_cons.mpr ⟨wt389, List.forall_mem_cons.mpr ⟨wt390, List.forall_mem_cons.mpr ⟨wt391, List.forall_mem_cons.mpr ⟨wt392, List.forall_mem_cons.mpr ⟨wt393, List.forall_mem_cons.mpr ⟨wt394, List.forall_mem_cons.mpr ⟨wt395, List.forall_mem_cons.mpr ⟨wt396, List.forall_mem_cons.mpr ⟨wt397, List.forall_mem_cons.mpr ⟨wt398, List.forall_mem_cons.mpr ⟨wt399, List.forall_mem_cons.mpr ⟨wt400, List.forall_mem_cons.mpr ⟨wt401, List.forall_mem_cons.mpr ⟨wt402, List.forall_mem_cons.mpr ⟨wt403, List.forall_mem_cons.mpr ⟨wt404, List.forall_mem_cons.mpr ⟨wt405, List.forall_mem_cons.mpr ⟨wt406, List.forall_mem_cons.mpr ⟨wt407, fun _ h => absurd h List.not_mem_nil⟩⟩⟩⟩⟩⟩⟩⟩⟩⟩⟩⟩⟩⟩⟩⟩⟩⟩⟩⟩⟩⟩⟩⟩
set_option maxRecDepth 100000 in
theorem wr_wsL_law0_r18 : ∀ w ∈ wsL_law0_r18, w ∈ lw_tbl := List.forall_mem_cons.mpr ⟨wt408, List.forall_mem_cons.mpr ⟨wt409, List.forall_mem_cons.mpr ⟨wt410, List.forall_mem_cons.mpr ⟨wt411, List.forall_mem_cons.mpr ⟨wt412, List.forall_mem_cons.mpr ⟨wt413, List.forall_mem_cons.mpr ⟨wt414, List.forall_mem_cons.mpr ⟨wt415, List.forall_mem_cons.mpr ⟨wt416, List.forall_mem_cons.mpr ⟨wt417, List.forall_mem_cons.mpr ⟨wt418, List.forall_mem_cons.mpr ⟨wt419, List.forall_mem_cons.mpr ⟨wt420, List.forall_mem_cons.mpr ⟨wt421, List.forall_mem_cons.mpr ⟨wt422, List.forall_mem_cons.mpr ⟨wt423, List.forall_mem_cons.mpr ⟨wt424, List.forall_mem_cons.mpr ⟨wt425, List.forall_mem_cons.mpr ⟨wt426, List.forall_mem_cons.mpr ⟨wt427, List.forall_mem_cons.mpr ⟨wt428, List.forall_mem_cons.mpr ⟨wt429, List.forall_mem_cons.mpr ⟨wt430, List.forall_mem_cons.mpr ⟨wt431, fun _ h => absurd h List.not_mem_nil⟩⟩⟩⟩⟩⟩⟩⟩⟩⟩⟩⟩⟩⟩⟩⟩⟩⟩⟩⟩⟩⟩⟩⟩
set_option maxRecDepth 100000 in
theorem wr_wsL_law0_r19 : ∀ w ∈ wsL_law0_r19, w ∈ lw_tbl := List.forall_mem_cons.mpr ⟨wt432, List.forall_mem_cons.mpr ⟨wt433, List.forall_mem_cons.mpr ⟨wt434, List.forall_mem_cons.mpr ⟨wt435, List.forall_mem_cons.mpr ⟨wt436, List.forall_mem_cons.mpr ⟨wt437, List.forall_mem_cons.mpr ⟨wt438, List.forall_mem_cons.mpr ⟨wt439, List.forall_mem_cons.mpr ⟨wt440, List.forall_mem_cons.mpr ⟨wt441, List.forall_mem_cons.mpr ⟨wt442, List.forall_mem_cons.mpr ⟨wt443, List.forall_mem_cons.mpr ⟨wt444, List.forall_mem_cons.mpr ⟨wt445, List.forall_mem_cons.mpr ⟨wt446, List.forall_mem_cons.mpr ⟨wt447, List.forall_mem_cons.mpr ⟨wt448, List.forall_mem_cons.mpr ⟨wt449, List.forall_mem_cons.mpr ⟨wt450, List.forall_mem_cons.mpr ⟨wt451, List.forall_mem_cons.mpr ⟨wt452, List.forall_mem_cons.mpr ⟨wt453, List.forall_mem_cons.mpr ⟨wt454, List.forall_mem_cons.mpr ⟨wt455, fun _ h => absurd h List.not_mem_nil⟩⟩⟩⟩⟩⟩⟩⟩⟩⟩⟩⟩⟩⟩⟩⟩⟩⟩⟩⟩⟩⟩⟩⟩
set_option maxRecDepth 100000 in
theorem wr_wsL_law0_r20 : ∀ w ∈ wsL_law0_r20, w ∈ lw_tbl := List.forall_mem_cons.mpr ⟨wt456, List.forall_mem_cons.mpr ⟨wt457, List.forall_mem_cons.mpr ⟨wt458, List.forall_mem_cons.mpr ⟨wt459, List.forall_mem_cons.mpr ⟨wt460, List.forall_mem_cons.mpr ⟨wt461, List.forall_mem_cons.mpr ⟨wt462, List.forall_mem_cons.mpr ⟨wt463, List.forall_mem_cons.mpr ⟨wt464, List.forall_mem_cons.mpr ⟨wt465, List.forall_mem_cons.mpr ⟨wt466, List.forall_mem_cons.mpr ⟨wt467, List.forall_mem_cons.mpr ⟨wt468, List.forall_mem_cons.mpr ⟨wt469, List.forall_mem_cons.mpr ⟨wt470, List.forall_mem_cons.mpr ⟨wt471, List.forall_mem_cons.mpr ⟨wt472, List.forall_mem_cons.mpr ⟨wt473, List.forall_mem_cons.mpr ⟨wt474, List.forall_mem_cons.mpr ⟨wt475, List.forall_mem_cons.mpr ⟨wt476, List.forall_mem_cons.mpr ⟨wt477, List.forall_mem_cons.mpr ⟨wt478, List.forall_mem_cons.mpr ⟨wt479, fun _ h => absurd h List.not_mem_nil⟩⟩⟩⟩⟩⟩⟩⟩⟩⟩⟩⟩⟩⟩⟩⟩⟩⟩⟩⟩⟩⟩⟩⟩
set_option maxRecDepth 100000 in
theorem wr_wsL_law0_r21 : ∀ w ∈ wsL_law0_r21, w ∈ lw_tbl := List.forall_mem_cons.mpr ⟨wt480, List.forall_mem_cons.mpr ⟨wt481, List.forall_mem_cons.mpr ⟨wt482, List.forall_mem_cons.mpr ⟨wt483, List.forall_mem_cons.mpr ⟨wt484, List.forall_mem_cons.mpr ⟨wt485, List.forall_mem_cons.mpr ⟨wt486, List.forall_mem_cons.mpr ⟨wt487, List.forall_mem_cons.mpr ⟨wt488, List.forall_mem_cons.mpr ⟨wt489, List.forall_mem_cons.mpr ⟨wt490, List.forall_mem_cons.mpr ⟨wt491, List.forall_mem_cons.mpr ⟨wt492, List.forall_mem_cons.mpr ⟨wt493, List.forall_mem_cons.mpr ⟨wt494, List.forall_mem_cons.mpr ⟨wt495, List.forall_mem_cons.mpr ⟨wt496, List.forall_mem_cons.mpr ⟨wt497, List.forall_mem_cons.mpr ⟨wt498, List.forall_mem_cons.mpr ⟨wt499, List.forall_mem_cons.mpr ⟨wt500, List.forall_mem_cons.mpr ⟨wt501, List.forall_mem_cons.mpr ⟨wt502, List.forall_mem_cons.mpr ⟨wt503, fun _ h => absurd h List.not_mem_nil⟩⟩⟩⟩⟩⟩⟩⟩⟩⟩⟩⟩⟩⟩⟩⟩⟩⟩⟩⟩⟩⟩⟩⟩
set_option maxRecDepth 100000 in
theorem wr_wsL_law0_r22 : ∀ w ∈ wsL_law0_r22, w ∈ lw_tbl := List.forall_mem_cons.mpr ⟨wt504, List.forall_mem_cons.mpr ⟨wt505, List.forall_mem_cons.mpr ⟨wt506, List.forall_mem_cons.mpr ⟨wt507, List.forall_mem_cons.mpr ⟨wt508, List.forall_mem_cons.mpr ⟨wt509, List.forall_mem_cons.mpr ⟨wt510, List.forall_mem_cons.mpr ⟨wt511, List.forall_mem_cons.mpr ⟨wt512, List.forall_mem_cons.mpr ⟨wt513, List.forall_mem_cons.mpr ⟨wt514, List.forall_mem_cons.mpr ⟨wt515, List.forall_mem_cons.mpr ⟨wt516, List.forall_mem_cons.mpr ⟨wt517, List.forall_mem_cons.mpr ⟨wt518, List.forall_mem_cons.mpr ⟨wt519, List.forall_mem_cons.mpr ⟨wt520, List.forall_mem_cons.mpr ⟨wt521, List.forall_mem_cons.mpr ⟨wt522, List.forall_mem_cons.mpr ⟨wt523, List.forall_mem_cons.mpr ⟨wt524, List.forall_mem_cons.mpr ⟨wt525, List.forall_mem_cons.mpr ⟨wt526, List.forall_mem_cons.mpr ⟨wt527, fun _ h => absurd h List.not_mem_nil⟩⟩⟩⟩⟩⟩⟩⟩⟩⟩⟩⟩⟩⟩⟩⟩⟩⟩⟩⟩⟩⟩⟩⟩
set_option maxRecDepth 100000 in
theorem wr_wsL_law0_r23 : ∀ w ∈ wsL_law0_r23, w ∈ lw_tbl := List.forall_mem_cons.mpr ⟨wt528, List.forall_mem_cons.mpr ⟨wt529, fun _ h => absurd h List.not_mem_nil⟩⟩
set_option maxRecDepth 100000 in
theorem WALL_in : ∀ w ∈ WALL, w ∈ lw_tbl := (List.forall_mem_append.mpr ⟨(List.forall_mem_append.mpr ⟨(List.forall_mem_append.mpr ⟨(List.forall_mem_append.mpr ⟨(List.forall_mem_append.mpr ⟨(List.forall_mem_append.mpr ⟨(List.forall_mem_append.mpr ⟨(List.forall_mem_append.mpr ⟨(List.forall_mem_append.mpr ⟨(List.forall_mem_append.mpr ⟨wr_wsL_law0_r1, (List.forall_mem_append.mpr ⟨wr_wsL_law0_r2, (List.forall_mem_append.mpr ⟨wr_wsL_law0_r3, (List.forall_mem_append.mpr ⟨wr_wsL_law0_r4, (List.forall_mem_append.mpr ⟨wr_wsL_law0_r5, (List.forall_mem_append.mpr ⟨wr_wsL_law0_r6, (List.forall_mem_append.mpr ⟨wr_wsL_law0_r7, (List.forall_mem_append.mpr ⟨wr_wsL_law0_r8, (List.forall_mem_append.mpr ⟨wr_wsL_law0_r9, (List.forall_mem_append.mpr ⟨wr_wsL_law0_r10, (List.forall_mem_append.mpr ⟨wr_wsL_law0_r11, (List.forall_mem_append.mpr ⟨wr_wsL_law0_r12, (List.forall_mem_append.mpr ⟨wr_wsL_law0_r13, (List.forall_mem_append.mpr ⟨wr_wsL_law0_r14, (List.forall_mem_append.mpr ⟨wr_wsL_law0_r15, (List.forall_mem_append.mpr ⟨wr_wsL_law0_r16, (List.forall_mem_append.mpr ⟨wr_wsL_law0_r17, (List.forall_mem_append.mpr ⟨wr_wsL_law0_r18, (List.forall_mem_append.mpr ⟨wr_wsL_law0_r19, (List.forall_mem_append.mpr ⟨wr_wsL_law0_r20, (List.forall_mem_append.mpr ⟨wr_wsL_law0_r21, (List.forall_mem_append.mpr ⟨wr_wsL_law0_r22, wr_wsL_law0_r23⟩)⟩)⟩)⟩)⟩)⟩)⟩)⟩)⟩)⟩)⟩)⟩)⟩)⟩)⟩)⟩)⟩)⟩)⟩)⟩)⟩)⟩), wtx7⟩), wtx0⟩), wtx1⟩), wtx3⟩), wtx2⟩), wtx5⟩), wtx6⟩), wtx4⟩), fun _ h => absurd h List.not_mem_nil⟩)
set_option maxRecDepth 100000 in
theorem wn_RX7_11 : Cond.methodLinkNest RX7 11 yX0_init "Tollgate" ∈ lw_tbl := List.mem_of_getElem? (i := 51) (by decide +kernel)
set_option maxRecDepth 100000 in
theorem wn_RX7_18 : Cond.methodLinkNest RX7 18 yX1_init "Tollgate" ∈ lw_tbl := List.mem_of_getElem? (i := 84) (by decide +kernel)
set_option maxRecDepth 100000 in
theorem wn_RX1_9 : Cond.methodLinkNest RX1 9 yX4_init "Tollgate" ∈ lw_tbl := List.mem_of_getElem? (i := 90) (by decide +kernel)
set_option maxRecDepth 100000 in
theorem wn_RX7_25 : Cond.methodLinkNest RX7 25 yX3_init "Tollgate" ∈ lw_tbl := List.mem_of_getElem? (i := 136) (by decide +kernel)
set_option maxRecDepth 100000 in
theorem wn_RX7_32 : Cond.methodLinkNest RX7 32 yX2_init "Tollgate" ∈ lw_tbl := List.mem_of_getElem? (i := 194) (by decide +kernel)
set_option maxRecDepth 100000 in
theorem wn_RX7_39 : Cond.methodLinkNest RX7 39 yX5_init "Tollgate" ∈ lw_tbl := List.mem_of_getElem? (i := 216) (by decide +kernel)
set_option maxRecDepth 100000 in
theorem wn_RX7_58 : Cond.methodLinkNest RX7 58 yX4_init "Tollgate" ∈ lw_tbl := List.mem_of_getElem? (i := 267) (by decide +kernel)
