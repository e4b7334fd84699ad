set_option maxRecDepth 100000 in
theorem wt0 : Cond.classLink RL 8 RX7 ∈ lw_tbl := List.mem_of_getElem? (i := 106) (by decide +kernel)
set_option maxRecDepth 100000 in
theorem wt1 : Cond.instantiable RX7 10 ∈ lw_tbl := List.mem_of_getElem? (i := 107) (by decide +kernel)
set_option maxRecDepth 100000 in
theorem wt2 : Cond.initialized RX7 ∈ lw_tbl := List.mem_of_getElem? (i := 68) (by decide +kernel)
set_option maxRecDepth 100000 in
theorem wt3 : Cond.classLink RL 107 RX14 ∈ lw_tbl := List.mem_of_getElem? (i := 1005) (by decide +kernel)
set_option maxRecDepth 100000 in
theorem wt4 : Cond.instantiable RX14 15 ∈ lw_tbl := List.mem_of_getElem? (i := 1006) (by decide +kernel)
set_option maxRecDepth 100000 in
theorem wt5 : Cond.initialized RX14 ∈ lw_tbl := List.mem_of_getElem? (i := 76) (by decide +kernel)
set_option maxRecDepth 100000 in
theorem wt6 : Cond.arrayClass .long ∈ lw_tbl := List.mem_of_getElem? (i := 181) (by decide +kernel)
set_option maxRecDepth 100000 in
theorem wt7 : Cond.methodLink RL 106 yX7_init ∈ lw_tbl := List.mem_of_getElem? (i := 108) (by decide +kernel)
set_option maxRecDepth 100000 in
theorem wt8 : Cond.instanceMethod yX7_init ∈ lw_tbl := List.mem_of_getElem? (i := 109) (by decide +kernel)
set_option maxRecDepth 100000 in
theorem wt9 : Cond.code yX7_init cX7_init 1 none ∈ lw_tbl := List.mem_of_getElem? (i := 110) (by decide +kernel)
set_option maxRecDepth 100000 in
theorem wt10 : Cond.methodLink RX7 3 objectInit ∈ lw_tbl := List.mem_of_getElem? (i := 111) (by decide +kernel)
set_option maxRecDepth 100000 in
theorem wt11 : Cond.instanceMethod objectInit ∈ lw_tbl := List.mem_of_getElem? (i := 112) (by decide +kernel)
set_option maxRecDepth 100000 in
theorem wt12 : Cond.code objectInit ⟨#[0xb1]⟩ 1 none ∈ lw_tbl := List.mem_of_getElem? (i := 113) (by decide +kernel)
set_option maxRecDepth 100000 in
theorem wt13 : Cond.classLink RX7 9 RX0 ∈ lw_tbl := List.mem_of_getElem? (i := 114) (by decide +kernel)
set_option maxRecDepth 100000 in
theorem wt14 : Cond.instantiable RX0 6 ∈ lw_tbl := List.mem_of_getElem? (i := 115) (by decide +kernel)
set_option maxRecDepth 100000 in
theorem wt15 : Cond.initialized RX0 ∈ lw_tbl := List.mem_of_getElem? (i := 69) (by decide +kernel)
set_option maxRecDepth 100000 in
theorem wt16 : Cond.fieldLink RX7 12 "Tollgate" "accounts" "LTollgate$Accounts;" ∈ lw_tbl := List.mem_of_getElem? (i := 338) (by decide +kernel)
set_option maxRecDepth 100000 in
theorem wt17 : Cond.classLink RX7 16 RX1 ∈ lw_tbl := List.mem_of_getElem? (i := 147) (by decide +kernel)
set_option maxRecDepth 100000 in
theorem wt18 : Cond.instantiable RX1 4 ∈ lw_tbl := List.mem_of_getElem? (i := 148) (by decide +kernel)
set_option maxRecDepth 100000 in
theorem wt19 : Cond.initialized RX1 ∈ lw_tbl := List.mem_of_getElem? (i := 70) (by decide +kernel)
set_option maxRecDepth 100000 in
theorem wt20 : Cond.fieldLink RX7 19 "Tollgate" "draft" "LTollgate$Draft;" ∈ lw_tbl := List.mem_of_getElem? (i := 339) (by decide +kernel)
set_option maxRecDepth 100000 in
theorem wt21 : Cond.classLink RX7 23 RX3 ∈ lw_tbl := List.mem_of_getElem? (i := 199) (by decide +kernel)
set_option maxRecDepth 100000 in
theorem wt22 : Cond.instantiable RX3 12 ∈ lw_tbl := List.mem_of_getElem? (i := 200) (by decide +kernel)
set_option maxRecDepth 100000 in
theorem wt23 : Cond.initialized RX3 ∈ lw_tbl := List.mem_of_getElem? (i := 72) (by decide +kernel)
set_option maxRecDepth 100000 in
theorem wt24 : Cond.fieldLink RX7 26 "Tollgate" "journal" "LTollgate$Journal;" ∈ lw_tbl := List.mem_of_getElem? (i := 340) (by decide +kernel)
set_option maxRecDepth 100000 in
theorem wt25 : Cond.classLink RX7 30 RX2 ∈ lw_tbl := List.mem_of_getElem? (i := 258) (by decide +kernel)
set_option maxRecDepth 100000 in
theorem wt26 : Cond.instantiable RX2 5 ∈ lw_tbl := List.mem_of_getElem? (i := 259) (by decide +kernel)
set_option maxRecDepth 100000 in
theorem wt27 : Cond.initialized RX2 ∈ lw_tbl := List.mem_of_getElem? (i := 73) (by decide +kernel)
set_option maxRecDepth 100000 in
theorem wt28 : Cond.fieldLink RX7 33 "Tollgate" "holds" "LTollgate$Holds;" ∈ lw_tbl := List.mem_of_getElem? (i := 341) (by decide +kernel)
set_option maxRecDepth 100000 in
theorem wt29 : Cond.classLink RX7 37 RX5 ∈ lw_tbl := List.mem_of_getElem? (i := 284) (by decide +kernel)
set_option maxRecDepth 100000 in
theorem wt30 : Cond.instantiable RX5 5 ∈ lw_tbl := List.mem_of_getElem? (i := 285) (by decide +kernel)
set_option maxRecDepth 100000 in
theorem wt31 : Cond.initialized RX5 ∈ lw_tbl := List.mem_of_getElem? (i := 74) (by decide +kernel)
set_option maxRecDepth 100000 in
theorem wt32 : Cond.fieldLink RX7 40 "Tollgate" "lines" "LTollgate$Lines;" ∈ lw_tbl := List.mem_of_getElem? (i := 342) (by decide +kernel)
set_option maxRecDepth 100000 in
theorem wt33 : Cond.classLink RX7 44 RX6 ∈ lw_tbl := List.mem_of_getElem? (i := 312) (by decide +kernel)
set_option maxRecDepth 100000 in
theorem wt34 : Cond.instantiable RX6 5 ∈ lw_tbl := List.mem_of_getElem? (i := 313) (by decide +kernel)
set_option maxRecDepth 100000 in
theorem wt35 : Cond.initialized RX6 ∈ lw_tbl := List.mem_of_getElem? (i := 75) (by decide +kernel)
set_option maxRecDepth 100000 in
theorem wt36 : Cond.fieldLink RX7 49 "Tollgate" "kept" "LTollgate$Matching;" ∈ lw_tbl := List.mem_of_getElem? (i := 343) (by decide +kernel)
set_option maxRecDepth 100000 in
theorem wt37 : Cond.fieldLink RX7 53 "Tollgate" "trial" "LTollgate$Matching;" ∈ lw_tbl := List.mem_of_getElem? (i := 344) (by decide +kernel)
set_option maxRecDepth 100000 in
theorem wt38 : Cond.classLink RX7 56 RX4 ∈ lw_tbl := List.mem_of_getElem? (i := 336) (by decide +kernel)
set_option maxRecDepth 100000 in
theorem wt39 : Cond.instantiable RX4 4 ∈ lw_tbl := List.mem_of_getElem? (i := 154) (by decide +kernel)
theorem wr_0 : ∀ w ∈ zw_0, w ∈ lw_tbl := List.forall_mem_cons.mpr ⟨wt0, List.forall_mem_cons.mpr ⟨wt1, List.forall_mem_cons.mpr ⟨wt2, List.forall_mem_cons.mpr ⟨wt3, List.forall_mem_cons.mpr ⟨wt4, List.forall_mem_cons.mpr ⟨wt5, List.forall_mem_cons.mpr ⟨wt6, List.forall_mem_cons.mpr ⟨wt7, List.forall_mem_cons.mpr ⟨wt8, List.forall_mem_cons.mpr ⟨wt9, List.forall_mem_cons.mpr ⟨wt10, List.forall_mem_cons.mpr ⟨wt11, List.forall_mem_cons.mpr ⟨wt12, List.forall_mem_cons.mpr ⟨wt13, List.forall_mem_cons.mpr ⟨wt14, List.forall_mem_cons.mpr ⟨wt15, List.forall_mem_cons.mpr ⟨wt16, List.forall_mem_cons.mpr ⟨wt17, List.forall_mem_cons.mpr ⟨wt18, List.forall_mem_cons.mpr ⟨wt19, List.forall_mem_cons.mpr ⟨wt20, List.forall_mem_cons.mpr ⟨wt21, List.forall_mem_cons.mpr ⟨wt22, List.forall_mem_cons.mpr ⟨wt23, List.forall_mem_cons.mpr ⟨wt24, List.forall_mem_cons.mpr ⟨wt25, List.forall_mem_cons.mpr ⟨wt26, List.forall_mem_cons.mpr ⟨wt27, List.forall_mem_cons.mpr ⟨wt28, List.forall_mem_cons.mpr ⟨wt29, List.forall_mem_cons.mpr ⟨wt30, List.forall_mem_cons.mpr ⟨wt31, List.forall_mem_cons.mpr ⟨wt32, List.forall_mem_cons.mpr ⟨wt33, List.forall_mem_cons.mpr ⟨wt34, List.forall_mem_cons.mpr ⟨wt35, List.forall_mem_cons.mpr ⟨wt36, List.forall_mem_cons.mpr ⟨wt37, List.forall_mem_cons.mpr ⟨wt38, List.forall_mem_cons.mpr ⟨wt39, fun _ h => absurd h List.not_mem_nil⟩⟩⟩⟩⟩⟩⟩⟩⟩⟩⟩⟩⟩⟩⟩⟩⟩⟩⟩⟩⟩⟩⟩⟩⟩⟩⟩⟩⟩⟩⟩⟩⟩⟩⟩⟩⟩⟩⟩⟩
set_option maxRecDepth 100000 in
theorem wt40 : Cond.initialized RX4 ∈ lw_tbl := List.mem_of_getElem? (i := 71) (by decide +kernel)
set_option maxRecDepth 100000 in
theorem wt41 : Cond.fieldLink RX7 59 "Tollgate" "plan" "LTollgate$LegRow;" ∈ lw_tbl := List.mem_of_getElem? (i := 345) (by decide +kernel)
set_option maxRecDepth 100000 in
theorem wt42 : Cond.fieldLink RX7 63 "Tollgate" "exchangeAccount" "I" ∈ lw_tbl := List.mem_of_getElem? (i := 346) (by decide +kernel)
set_option maxRecDepth 100000 in
theorem wt43 : Cond.fieldLink RX7 67 "Tollgate" "today" "I" ∈ lw_tbl := List.mem_of_getElem? (i := 347) (by decide +kernel)
set_option maxRecDepth 100000 in
theorem wt44 : Cond.instanceMethod yX0_init ∈ lw_tbl := List.mem_of_getElem? (i := 117) (by decide +kernel)
set_option maxRecDepth 100000 in
theorem wt45 : Cond.code yX0_init cX0_init 1 none ∈ lw_tbl := List.mem_of_getElem? (i := 118) (by decide +kernel)
set_option maxRecDepth 100000 in
theorem wt46 : Cond.methodLink RX0 3 objectInit ∈ lw_tbl := List.mem_of_getElem? (i := 119) (by decide +kernel)
set_option maxRecDepth 100000 in
theorem wt47 : Cond.arrayClass .int ∈ lw_tbl := List.mem_of_getElem? (i := 145) (by decide +kernel)
set_option maxRecDepth 100000 in
theorem wt48 : Cond.fieldLink RX0 9 "Tollgate$Accounts" "rates" "[I" ∈ lw_tbl := List.mem_of_getElem? (i := 120) (by decide +kernel)
set_option maxRecDepth 100000 in
theorem wt49 : Cond.fieldLink RX0 15 "Tollgate$Accounts" "kind" "[I" ∈ lw_tbl := List.mem_of_getElem? (i := 122) (by decide +kernel)
set_option maxRecDepth 100000 in
theorem wt50 : Cond.fieldLink RX0 18 "Tollgate$Accounts" "currency" "[I" ∈ lw_tbl := List.mem_of_getElem? (i := 124) (by decide +kernel)
set_option maxRecDepth 100000 in
theorem wt51 : Cond.fieldLink RX0 21 "Tollgate$Accounts" "floors" "[I" ∈ lw_tbl := List.mem_of_getElem? (i := 126) (by decide +kernel)
set_option maxRecDepth 100000 in
theorem wt52 : Cond.arrayClass .boolean ∈ lw_tbl := List.mem_of_getElem? (i := 146) (by decide +kernel)
set_option maxRecDepth 100000 in
theorem wt53 : Cond.fieldLink RX0 24 "Tollgate$Accounts" "hasFloor" "[Z" ∈ lw_tbl := List.mem_of_getElem? (i := 128) (by decide +kernel)
set_option maxRecDepth 100000 in
theorem wt54 : Cond.fieldLink RX0 28 "Tollgate$Accounts" "count" "I" ∈ lw_tbl := List.mem_of_getElem? (i := 130) (by decide +kernel)
set_option maxRecDepth 100000 in
theorem wt55 : Cond.instanceMethod yX1_init ∈ lw_tbl := List.mem_of_getElem? (i := 150) (by decide +kernel)
set_option maxRecDepth 100000 in
theorem wt56 : Cond.code yX1_init cX1_init 1 none ∈ lw_tbl := List.mem_of_getElem? (i := 151) (by decide +kernel)
set_option maxRecDepth 100000 in
theorem wt57 : Cond.methodLink RX1 1 objectInit ∈ lw_tbl := List.mem_of_getElem? (i := 152) (by decide +kernel)
set_option maxRecDepth 100000 in
theorem wt58 : Cond.classLink RX1 7 RX4 ∈ lw_tbl := List.mem_of_getElem? (i := 153) (by decide +kernel)
set_option maxRecDepth 100000 in
theorem wt59 : Cond.fieldLink RX1 10 "Tollgate$Draft" "legs" "LTollgate$LegRow;" ∈ lw_tbl := List.mem_of_getElem? (i := 182) (by decide +kernel)
set_option maxRecDepth 100000 in
theorem wt60 : Cond.fieldLink RX1 16 "Tollgate$Draft" "isThere" "Z" ∈ lw_tbl := List.mem_of_getElem? (i := 184) (by decide +kernel)
set_option maxRecDepth 100000 in
theorem wt61 : Cond.fieldLink RX1 20 "Tollgate$Draft" "day" "I" ∈ lw_tbl := List.mem_of_getElem? (i := 186) (by decide +kernel)
set_option maxRecDepth 100000 in
theorem wt62 : Cond.fieldLink RX1 24 "Tollgate$Draft" "note" "I" ∈ lw_tbl := List.mem_of_getElem? (i := 188) (by decide +kernel)
set_option maxRecDepth 100000 in
theorem wt63 : Cond.instanceMethod yX4_init ∈ lw_tbl := List.mem_of_getElem? (i := 156) (by decide +kernel)
set_option maxRecDepth 100000 in
theorem wt64 : Cond.code yX4_init cX4_init 1 none ∈ lw_tbl := List.mem_of_getElem? (i := 157) (by decide +kernel)
set_option maxRecDepth 100000 in
theorem wt65 : Cond.methodLink RX4 3 objectInit ∈ lw_tbl := List.mem_of_getElem? (i := 158) (by decide +kernel)
set_option maxRecDepth 100000 in
theorem wt66 : Cond.fieldLink RX4 9 "Tollgate$LegRow" "account" "[I" ∈ lw_tbl := List.mem_of_getElem? (i := 159) (by decide +kernel)
set_option maxRecDepth 100000 in
theorem wt67 : Cond.fieldLink RX4 15 "Tollgate$LegRow" "amount" "[J" ∈ lw_tbl := List.mem_of_getElem? (i := 162) (by decide +kernel)
set_option maxRecDepth 100000 in
theorem wt68 : Cond.fieldLink RX4 19 "Tollgate$LegRow" "worth" "[J" ∈ lw_tbl := List.mem_of_getElem? (i := 165) (by decide +kernel)
set_option maxRecDepth 100000 in
theorem wt69 : Cond.fieldLink RX4 22 "Tollgate$LegRow" "count" "I" ∈ lw_tbl := List.mem_of_getElem? (i := 168) (by decide +kernel)
set_option maxRecDepth 100000 in
theorem wt70 : Cond.instanceMethod yX3_init ∈ lw_tbl := List.mem_of_getElem? (i := 202) (by decide +kernel)
set_option maxRecDepth 100000 in
theorem wt71 : Cond.code yX3_init cX3_init 1 none ∈ lw_tbl := List.mem_of_getElem? (i := 203) (by decide +kernel)
set_option maxRecDepth 100000 in
theorem wt72 : Cond.methodLink RX3 3 objectInit ∈ lw_tbl := List.mem_of_getElem? (i := 204) (by decide +kernel)
set_option maxRecDepth 100000 in
theorem wt73 : Cond.fieldLink RX3 9 "Tollgate$Journal" "day" "[I" ∈ lw_tbl := List.mem_of_getElem? (i := 205) (by decide +kernel)
set_option maxRecDepth 100000 in
theorem wt74 : Cond.fieldLink RX3 15 "Tollgate$Journal" "note" "[I" ∈ lw_tbl := List.mem_of_getElem? (i := 207) (by decide +kernel)
set_option maxRecDepth 100000 in
theorem wt75 : Cond.fieldLink RX3 18 "Tollgate$Journal" "firstLeg" "[I" ∈ lw_tbl := List.mem_of_getElem? (i := 209) (by decide +kernel)
set_option maxRecDepth 100000 in
theorem wt76 : Cond.fieldLink RX3 21 "Tollgate$Journal" "legsOf" "[I" ∈ lw_tbl := List.mem_of_getElem? (i := 212) (by decide +kernel)
set_option maxRecDepth 100000 in
theorem wt77 : Cond.fieldLink RX3 24 "Tollgate$Journal" "gone" "[Z" ∈ lw_tbl := List.mem_of_getElem? (i := 215) (by decide +kernel)
set_option maxRecDepth 100000 in
theorem wt78 : Cond.fieldLink RX3 28 "Tollgate$Journal" "isClosing" "[Z" ∈ lw_tbl := List.mem_of_getElem? (i := 217) (by decide +kernel)
set_option maxRecDepth 100000 in
theorem wt79 : Cond.fieldLink RX3 31 "Tollgate$Journal" "count" "I" ∈ lw_tbl := List.mem_of_getElem? (i := 219) (by decide +kernel)
theorem wr_1 : ∀ w ∈ zw_1, w ∈ lw_tbl := List.forall_mem_cons.mpr ⟨wt40, List.forall_mem_cons.mpr ⟨wt41, List.forall_mem_cons.mpr ⟨wt42, List.forall_mem_cons.mpr ⟨wt43, List.forall_mem_cons.mpr ⟨wt44, List.forall_mem_cons.mpr ⟨wt45, List.forall_mem_cons.mpr ⟨wt46, List.forall_mem_cons.mpr ⟨wt47, List.forall_mem_cons.mpr ⟨wt48, List.forall_mem_cons.mpr ⟨wt49, List.forall_mem_cons.mpr ⟨wt50, List.forall_mem_cons.mpr ⟨wt51, List.forall_mem_cons.mpr ⟨wt52, List.forall_mem_cons.mpr ⟨wt53, List.forall_mem_cons.mpr ⟨wt54, List.forall_mem_cons.mpr ⟨wt55, List.forall_mem_cons.mpr ⟨wt56, List.forall_mem_cons.mpr ⟨wt57, List.forall_mem_cons.mpr ⟨wt58, List.forall_mem_cons.mpr ⟨wt59, List.forall_mem_cons.mpr ⟨wt60, List.forall_mem_cons.mpr ⟨wt61, List.forall_mem_cons.mpr ⟨wt62, List.forall_mem_cons.mpr ⟨wt63, List.forall_mem_cons.mpr ⟨wt64, List.forall_mem_cons.mpr ⟨wt65, List.forall_mem_cons.mpr ⟨wt66, List.forall_mem_cons.mpr ⟨wt67, List.forall_mem_cons.mpr ⟨wt68, List.forall_mem_cons.mpr ⟨wt69, List.forall_mem_cons.mpr ⟨wt70, List.forall_mem_cons.mpr ⟨wt71, List.forall_mem_cons.mpr ⟨wt72, List.forall_mem_cons.mpr ⟨wt73, List.forall_mem_cons.mpr ⟨wt74, List.forall_mem_cons.mpr ⟨wt75, List.forall_mem_cons.mpr ⟨wt76, List.forall_mem_cons.mpr ⟨wt77, List.forall_mem_cons.mpr ⟨wt78, List.forall_mem_cons.mpr ⟨wt79, fun _ h => absurd h List.not_mem_nil⟩⟩⟩⟩⟩⟩⟩⟩⟩⟩⟩⟩⟩⟩⟩⟩⟩⟩⟩⟩⟩⟩⟩⟩⟩⟩⟩⟩⟩⟩⟩⟩⟩⟩⟩⟩⟩⟩⟩⟩
set_option maxRecDepth 100000 in
theorem wt80 : Cond.fieldLink RX3 35 "Tollgate$Journal" "entryOf" "[I" ∈ lw_tbl := List.mem_of_getElem? (i := 221) (by decide +kernel)
set_option maxRecDepth 100000 in
theorem wt81 : Cond.fieldLink RX3 38 "Tollgate$Journal" "account" "[I" ∈ lw_tbl := List.mem_of_getElem? (i := 223) (by decide +kernel)
set_option maxRecDepth 100000 in
theorem wt82 : Cond.fieldLink RX3 41 "Tollgate$Journal" "amount" "[J" ∈ lw_tbl := List.mem_of_getElem? (i := 226) (by decide +kernel)
set_option maxRecDepth 100000 in
theorem wt83 : Cond.fieldLink RX3 45 "Tollgate$Journal" "worth" "[J" ∈ lw_tbl := List.mem_of_getElem? (i := 229) (by decide +kernel)
set_option maxRecDepth 100000 in
theorem wt84 : Cond.fieldLink RX3 48 "Tollgate$Journal" "legCount" "I" ∈ lw_tbl := List.mem_of_getElem? (i := 231) (by decide +kernel)
set_option maxRecDepth 100000 in
theorem wt85 : Cond.instanceMethod yX2_init ∈ lw_tbl := List.mem_of_getElem? (i := 261) (by decide +kernel)
set_option maxRecDepth 100000 in
theorem wt86 : Cond.code yX2_init cX2_init 1 none ∈ lw_tbl := List.mem_of_getElem? (i := 262) (by decide +kernel)
set_option maxRecDepth 100000 in
theorem wt87 : Cond.methodLink RX2 3 objectInit ∈ lw_tbl := List.mem_of_getElem? (i := 263) (by decide +kernel)
set_option maxRecDepth 100000 in
theorem wt88 : Cond.fieldLink RX2 9 "Tollgate$Holds" "account" "[I" ∈ lw_tbl := List.mem_of_getElem? (i := 264) (by decide +kernel)
set_option maxRecDepth 100000 in
theorem wt89 : Cond.fieldLink RX2 15 "Tollgate$Holds" "amount" "[I" ∈ lw_tbl := List.mem_of_getElem? (i := 266) (by decide +kernel)
set_option maxRecDepth 100000 in
theorem wt90 : Cond.fieldLink RX2 18 "Tollgate$Holds" "lastDay" "[I" ∈ lw_tbl := List.mem_of_getElem? (i := 268) (by decide +kernel)
set_option maxRecDepth 100000 in
theorem wt91 : Cond.fieldLink RX2 21 "Tollgate$Holds" "isEnded" "[Z" ∈ lw_tbl := List.mem_of_getElem? (i := 269) (by decide +kernel)
set_option maxRecDepth 100000 in
theorem wt92 : Cond.fieldLink RX2 25 "Tollgate$Holds" "count" "I" ∈ lw_tbl := List.mem_of_getElem? (i := 271) (by decide +kernel)
set_option maxRecDepth 100000 in
theorem wt93 : Cond.instanceMethod yX5_init ∈ lw_tbl := List.mem_of_getElem? (i := 287) (by decide +kernel)
set_option maxRecDepth 100000 in
theorem wt94 : Cond.code yX5_init cX5_init 1 none ∈ lw_tbl := List.mem_of_getElem? (i := 288) (by decide +kernel)
set_option maxRecDepth 100000 in
theorem wt95 : Cond.methodLink RX5 3 objectInit ∈ lw_tbl := List.mem_of_getElem? (i := 289) (by decide +kernel)
set_option maxRecDepth 100000 in
theorem wt96 : Cond.fieldLink RX5 9 "Tollgate$Lines" "account" "[I" ∈ lw_tbl := List.mem_of_getElem? (i := 290) (by decide +kernel)
set_option maxRecDepth 100000 in
theorem wt97 : Cond.fieldLink RX5 15 "Tollgate$Lines" "day" "[I" ∈ lw_tbl := List.mem_of_getElem? (i := 292) (by decide +kernel)
set_option maxRecDepth 100000 in
theorem wt98 : Cond.fieldLink RX5 18 "Tollgate$Lines" "amount" "[I" ∈ lw_tbl := List.mem_of_getElem? (i := 294) (by decide +kernel)
set_option maxRecDepth 100000 in
theorem wt99 : Cond.fieldLink RX5 21 "Tollgate$Lines" "byDay" "[I" ∈ lw_tbl := List.mem_of_getElem? (i := 296) (by decide +kernel)
set_option maxRecDepth 100000 in
theorem wt100 : Cond.fieldLink RX5 24 "Tollgate$Lines" "count" "I" ∈ lw_tbl := List.mem_of_getElem? (i := 298) (by decide +kernel)
set_option maxRecDepth 100000 in
theorem wt101 : Cond.methodLink RX7 46 yX6_init ∈ lw_tbl := List.mem_of_getElem? (i := 314) (by decide +kernel)
set_option maxRecDepth 100000 in
theorem wt102 : Cond.instanceMethod yX6_init ∈ lw_tbl := List.mem_of_getElem? (i := 315) (by decide +kernel)
set_option maxRecDepth 100000 in
theorem wt103 : Cond.code yX6_init cX6_init 4 none ∈ lw_tbl := List.mem_of_getElem? (i := 316) (by decide +kernel)
set_option maxRecDepth 100000 in
theorem wt104 : Cond.methodLink RX6 3 objectInit ∈ lw_tbl := List.mem_of_getElem? (i := 317) (by decide +kernel)
set_option maxRecDepth 100000 in
theorem wt105 : Cond.fieldLink RX6 9 "Tollgate$Matching" "lineOfLeg" "[I" ∈ lw_tbl := List.mem_of_getElem? (i := 320) (by decide +kernel)
set_option maxRecDepth 100000 in
theorem wt106 : Cond.fieldLink RX6 15 "Tollgate$Matching" "firstOfLine" "[I" ∈ lw_tbl := List.mem_of_getElem? (i := 322) (by decide +kernel)
set_option maxRecDepth 100000 in
theorem wt107 : Cond.fieldLink RX6 18 "Tollgate$Matching" "secondOfLine" "[I" ∈ lw_tbl := List.mem_of_getElem? (i := 324) (by decide +kernel)
set_option maxRecDepth 100000 in
theorem wt108 : Cond.fieldLink RX6 21 "Tollgate$Matching" "journal" "LTollgate$Journal;" ∈ lw_tbl := List.mem_of_getElem? (i := 318) (by decide +kernel)
set_option maxRecDepth 100000 in
theorem wt109 : Cond.fieldLink RX6 25 "Tollgate$Matching" "lines" "LTollgate$Lines;" ∈ lw_tbl := List.mem_of_getElem? (i := 319) (by decide +kernel)
set_option maxRecDepth 100000 in
theorem wt110 : Cond.methodLink RL 109 yX14_init ∈ lw_tbl := List.mem_of_getElem? (i := 1007) (by decide +kernel)
set_option maxRecDepth 100000 in
theorem wt111 : Cond.instanceMethod yX14_init ∈ lw_tbl := List.mem_of_getElem? (i := 1008) (by decide +kernel)
set_option maxRecDepth 100000 in
theorem wt112 : Cond.code yX14_init cX14_init 1 none ∈ lw_tbl := List.mem_of_getElem? (i := 1009) (by decide +kernel)
set_option maxRecDepth 100000 in
theorem wt113 : Cond.methodLink RX14 1 objectInit ∈ lw_tbl := List.mem_of_getElem? (i := 1010) (by decide +kernel)
set_option maxRecDepth 100000 in
theorem wt114 : Cond.fieldLink RX14 7 "TollgateModel" "rates" "[I" ∈ lw_tbl := List.mem_of_getElem? (i := 1038) (by decide +kernel)
set_option maxRecDepth 100000 in
theorem wt115 : Cond.classLink RX14 13 RJx4a65c ∈ lw_tbl := List.mem_of_getElem? (i := 1011) (by decide +kernel)
set_option maxRecDepth 100000 in
theorem wt116 : Cond.instantiable RJx4a65c 3 ∈ lw_tbl := List.mem_of_getElem? (i := 1012) (by decide +kernel)
set_option maxRecDepth 100000 in
theorem wt117 : Cond.initialized RJx4a65c ∈ lw_tbl := List.mem_of_getElem? (i := 79) (by decide +kernel)
set_option maxRecDepth 100000 in
theorem wt118 : Cond.fieldLink RX14 16 "TollgateModel" "accounts" "Ljava/util/ArrayList;" ∈ lw_tbl := List.mem_of_getElem? (i := 1039) (by decide +kernel)
set_option maxRecDepth 100000 in
theorem wt119 : Cond.fieldLink RX14 20 "TollgateModel" "entries" "Ljava/util/ArrayList;" ∈ lw_tbl := List.mem_of_getElem? (i := 1040) (by decide +kernel)
theorem wr_2 : ∀ w ∈ zw_2, w ∈ lw_tbl := List.forall_mem_cons.mpr ⟨wt80, List.forall_mem_cons.mpr ⟨wt81, List.forall_mem_cons.mpr ⟨wt82, List.forall_mem_cons.mpr ⟨wt83, List.forall_mem_cons.mpr ⟨wt84, List.forall_mem_cons.mpr ⟨wt85, List.forall_mem_cons.mpr ⟨wt86, List.forall_mem_cons.mpr ⟨wt87, List.forall_mem_cons.mpr ⟨wt88, List.forall_mem_cons.mpr ⟨wt89, List.forall_mem_cons.mpr ⟨wt90, List.forall_mem_cons.mpr ⟨wt91, List.forall_mem_cons.mpr ⟨wt92, List.forall_mem_cons.mpr ⟨wt93, List.forall_mem_cons.mpr ⟨wt94, List.forall_mem_cons.mpr ⟨wt95, List.forall_mem_cons.mpr ⟨wt96, List.forall_mem_cons.mpr ⟨wt97, List.forall_mem_cons.mpr ⟨wt98, List.forall_mem_cons.mpr ⟨wt99, List.forall_mem_cons.mpr ⟨wt100, List.forall_mem_cons.mpr ⟨wt101, List.forall_mem_cons.mpr ⟨wt102, List.forall_mem_cons.mpr ⟨wt103, List.forall_mem_cons.mpr ⟨wt104, List.forall_mem_cons.mpr ⟨wt105, List.forall_mem_cons.mpr ⟨wt106, List.forall_mem_cons.mpr ⟨wt107, List.forall_mem_cons.mpr ⟨wt108, List.forall_mem_cons.mpr ⟨wt109, List.forall_mem_cons.mpr ⟨wt110, List.forall_mem_cons.mpr ⟨wt111, List.forall_mem_cons.mpr ⟨wt112, List.forall_mem_cons.mpr ⟨wt113, List.forall_mem_cons.mpr ⟨wt114, List.forall_mem_cons.mpr ⟨wt115, List.forall_mem_cons.mpr ⟨wt116, List.forall_mem_cons.mpr ⟨wt117, List.forall_mem_cons.mpr ⟨wt118, List.forall_mem_cons.mpr ⟨wt119, fun _ h => absurd h List.not_mem_nil⟩⟩⟩⟩⟩⟩⟩⟩⟩⟩⟩⟩⟩⟩⟩⟩⟩⟩⟩⟩⟩⟩⟩⟩⟩⟩⟩⟩⟩⟩⟩⟩⟩⟩⟩⟩⟩⟩⟩⟩
set_option maxRecDepth 100000 in
theorem wt120 : Cond.fieldLink RX14 23 "TollgateModel" "holds" "Ljava/util/ArrayList;" ∈ lw_tbl := List.mem_of_getElem? (i := 1041) (by decide +kernel)
set_option maxRecDepth 100000 in
theorem wt121 : Cond.fieldLink RX14 26 "TollgateModel" "lines" "Ljava/util/ArrayList;" ∈ lw_tbl := List.mem_of_getElem? (i := 1042) (by decide +kernel)
set_option maxRecDepth 100000 in
theorem wt122 : Cond.fieldLink RX14 29 "TollgateModel" "closings" "Ljava/util/ArrayList;" ∈ lw_tbl := List.mem_of_getElem? (i := 1043) (by decide +kernel)
set_option maxRecDepth 100000 in
theorem wt123 : Cond.fieldLink RX14 32 "TollgateModel" "lockedAhead" "Ljava/util/ArrayList;" ∈ lw_tbl := List.mem_of_getElem? (i := 1044) (by decide +kernel)
set_option maxRecDepth 100000 in
theorem wt124 : Cond.fieldLink RX14 35 "TollgateModel" "locked" "I" ∈ lw_tbl := List.mem_of_getElem? (i := 1047) (by decide +kernel)
set_option maxRecDepth 100000 in
theorem wt125 : Cond.fieldLink RX14 39 "TollgateModel" "draft" "Ljava/util/ArrayList;" ∈ lw_tbl := List.mem_of_getElem? (i := 1051) (by decide +kernel)
set_option maxRecDepth 100000 in
theorem wt126 : Cond.methodLink RX14 15 yJx4a65c_init_da8c8 ∈ lw_tbl := List.mem_of_getElem? (i := 1013) (by decide +kernel)
set_option maxRecDepth 100000 in
theorem wt127 : Cond.instanceMethod yJx4a65c_init_da8c8 ∈ lw_tbl := List.mem_of_getElem? (i := 1014) (by decide +kernel)
set_option maxRecDepth 100000 in
theorem wt128 : Cond.code yJx4a65c_init_da8c8 cJx4a65c_init_da8c8 1 none ∈ lw_tbl := List.mem_of_getElem? (i := 1015) (by decide +kernel)
set_option maxRecDepth 100000 in
theorem wt129 : Cond.fieldLink RJx4a65c 39 "java/util/ArrayList" "DEFAULTCAPACITY_EMPTY_ELEMENTDATA" "[Ljava/lang/Object;" ∈ lw_tbl := List.mem_of_getElem? (i := 1023) (by decide +kernel)
set_option maxRecDepth 100000 in
theorem wt130 : Cond.fieldLink RJx4a65c 9 "java/util/ArrayList" "elementData" "[Ljava/lang/Object;" ∈ lw_tbl := List.mem_of_getElem? (i := 1025) (by decide +kernel)
set_option maxRecDepth 100000 in
theorem wt131 : Cond.methodLink RJx4a65c 1 yJxc12de_init_da8c8 ∈ lw_tbl := List.mem_of_getElem? (i := 1016) (by decide +kernel)
set_option maxRecDepth 100000 in
theorem wt132 : Cond.instanceMethod yJxc12de_init_da8c8 ∈ lw_tbl := List.mem_of_getElem? (i := 1017) (by decide +kernel)
set_option maxRecDepth 100000 in
theorem wt133 : Cond.initialized RJxc12de ∈ lw_tbl := List.mem_of_getElem? (i := 78) (by decide +kernel)
set_option maxRecDepth 100000 in
theorem wt134 : Cond.code yJxc12de_init_da8c8 cJxc12de_init_da8c8 1 none ∈ lw_tbl := List.mem_of_getElem? (i := 1018) (by decide +kernel)
set_option maxRecDepth 100000 in
theorem wt135 : Cond.fieldLink RJxc12de 7 "java/util/AbstractList" "modCount" "I" ∈ lw_tbl := List.mem_of_getElem? (i := 1027) (by decide +kernel)
set_option maxRecDepth 100000 in
theorem wt136 : Cond.methodLink RJxc12de 1 yJxa1e45_init_da8c8 ∈ lw_tbl := List.mem_of_getElem? (i := 1019) (by decide +kernel)
set_option maxRecDepth 100000 in
theorem wt137 : Cond.instanceMethod yJxa1e45_init_da8c8 ∈ lw_tbl := List.mem_of_getElem? (i := 1020) (by decide +kernel)
set_option maxRecDepth 100000 in
theorem wt138 : Cond.initialized RJxa1e45 ∈ lw_tbl := List.mem_of_getElem? (i := 77) (by decide +kernel)
set_option maxRecDepth 100000 in
theorem wt139 : Cond.code yJxa1e45_init_da8c8 cJxa1e45_init_da8c8 1 none ∈ lw_tbl := List.mem_of_getElem? (i := 1021) (by decide +kernel)
set_option maxRecDepth 100000 in
theorem wt140 : Cond.methodLink RJxa1e45 1 objectInit ∈ lw_tbl := List.mem_of_getElem? (i := 1022) (by decide +kernel)
set_option maxRecDepth 100000 in
theorem wt141 : Cond.methodLink RL 110 yL_rate ∈ lw_tbl := List.mem_of_getElem? (i := 713) (by decide +kernel)
set_option maxRecDepth 100000 in
theorem wt142 : Cond.static yL_rate ∈ lw_tbl := List.mem_of_getElem? (i := 714) (by decide +kernel)
set_option maxRecDepth 100000 in
theorem wt143 : Cond.initialized RL ∈ lw_tbl := List.mem_of_getElem? (i := 67) (by decide +kernel)
set_option maxRecDepth 100000 in
theorem wt144 : Cond.codeWith yL_rate cL_rate 5 (some .int) [(0, 10, 13, 13), (0, 10, 17, 15)] ∈ lw_tbl := List.mem_of_getElem? (i := 715) (by decide +kernel)
set_option maxRecDepth 100000 in
theorem wt145 : Cond.classLink RL 13 "java/lang/IllegalArgumentException" ∈ lw_tbl := List.mem_of_getElem? (i := 716) (by decide +kernel)
set_option maxRecDepth 100000 in
theorem wt146 : Cond.methodLink RL 7 yX7_rate ∈ lw_tbl := List.mem_of_getElem? (i := 718) (by decide +kernel)
set_option maxRecDepth 100000 in
theorem wt147 : Cond.instanceMethod yX7_rate ∈ lw_tbl := List.mem_of_getElem? (i := 719) (by decide +kernel)
set_option maxRecDepth 100000 in
theorem wt148 : Cond.selects RX7 yX7_rate yX7_rate ∈ lw_tbl := List.mem_of_getElem? (i := 720) (by decide +kernel)
set_option maxRecDepth 100000 in
theorem wt149 : Cond.code yX7_rate cX7_rate 4 (some .int) ∈ lw_tbl := List.mem_of_getElem? (i := 721) (by decide +kernel)
set_option maxRecDepth 100000 in
theorem wt150 : Cond.classLink RX7 71 "java/lang/IllegalArgumentException" ∈ lw_tbl := List.mem_of_getElem? (i := 480) (by decide +kernel)
set_option maxRecDepth 100000 in
theorem wt151 : Cond.initialized "java/lang/IllegalArgumentException" ∈ lw_tbl := List.mem_of_getElem? (i := 83) (by decide +kernel)
set_option maxRecDepth 100000 in
theorem wt152 : Cond.classLink RX7 82 "java/lang/IllegalStateException" ∈ lw_tbl := List.mem_of_getElem? (i := 728) (by decide +kernel)
set_option maxRecDepth 100000 in
theorem wt153 : Cond.initialized "java/lang/IllegalStateException" ∈ lw_tbl := List.mem_of_getElem? (i := 84) (by decide +kernel)
set_option maxRecDepth 100000 in
theorem wt154 : Cond.constant RX7 70 (100000) ∈ lw_tbl := List.mem_of_getElem? (i := 722) (by decide +kernel)
set_option maxRecDepth 100000 in
theorem wt155 : Cond.fieldLink RX7 87 "Tollgate$Accounts" "rates" "[I" ∈ lw_tbl := List.mem_of_getElem? (i := 121) (by decide +kernel)
set_option maxRecDepth 100000 in
theorem wt156 : Cond.methodLink RX7 78 yX0_anyIn ∈ lw_tbl := List.mem_of_getElem? (i := 724) (by decide +kernel)
set_option maxRecDepth 100000 in
theorem wt157 : Cond.instanceMethod yX0_anyIn ∈ lw_tbl := List.mem_of_getElem? (i := 725) (by decide +kernel)
set_option maxRecDepth 100000 in
theorem wt158 : Cond.selects RX0 yX0_anyIn yX0_anyIn ∈ lw_tbl := List.mem_of_getElem? (i := 726) (by decide +kernel)
set_option maxRecDepth 100000 in
theorem wt159 : Cond.code yX0_anyIn cX0_anyIn 3 (some .boolean) ∈ lw_tbl := List.mem_of_getElem? (i := 727) (by decide +kernel)
theorem wr_3 : ∀ w ∈ zw_3, w ∈ lw_tbl := List.forall_mem_cons.mpr ⟨wt120, List.forall_mem_cons.mpr ⟨wt121, List.forall_mem_cons.mpr ⟨wt122, List.forall_mem_cons.mpr ⟨wt123, List.forall_mem_cons.mpr ⟨wt124, List.forall_mem_cons.mpr ⟨wt125, List.forall_mem_cons.mpr ⟨wt126, List.forall_mem_cons.mpr ⟨wt127, List.forall_mem_cons.mpr ⟨wt128, List.forall_mem_cons.mpr ⟨wt129, List.forall_mem_cons.mpr ⟨wt130, List.forall_mem_cons.mpr ⟨wt131, List.forall_mem_cons.mpr ⟨wt132, List.forall_mem_cons.mpr ⟨wt133, List.forall_mem_cons.mpr ⟨wt134, List.forall_mem_cons.mpr ⟨wt135, List.forall_mem_cons.mpr ⟨wt136, List.forall_mem_cons.mpr ⟨wt137, List.forall_mem_cons.mpr ⟨wt138, List.forall_mem_cons.mpr ⟨wt139, List.forall_mem_cons.mpr ⟨wt140, List.forall_mem_cons.mpr ⟨wt141, List.forall_mem_cons.mpr ⟨wt142, List.forall_mem_cons.mpr ⟨wt143, List.forall_mem_cons.mpr ⟨wt144, List.forall_mem_cons.mpr ⟨wt145, List.forall_mem_cons.mpr ⟨wt146, List.forall_mem_cons.mpr ⟨wt147, List.forall_mem_cons.mpr ⟨wt148, List.forall_mem_cons.mpr ⟨wt149, List.forall_mem_cons.mpr ⟨wt150, List.forall_mem_cons.mpr ⟨wt151, List.forall_mem_cons.mpr ⟨wt152, List.forall_mem_cons.mpr ⟨wt153, List.forall_mem_cons.mpr ⟨wt154, List.forall_mem_cons.mpr ⟨wt155, List.forall_mem_cons.mpr ⟨wt156, List.forall_mem_cons.mpr ⟨wt157, List.forall_mem_cons.mpr ⟨wt158, List.forall_mem_cons.mpr ⟨wt159, fun _ h => absurd h List.not_mem_nil⟩⟩⟩⟩⟩⟩⟩⟩⟩⟩⟩⟩⟩⟩⟩⟩⟩⟩⟩⟩⟩⟩⟩⟩⟩⟩⟩⟩⟩⟩⟩⟩⟩⟩⟩⟩⟩⟩⟩⟩
set_option maxRecDepth 100000 in
theorem wt160 : Cond.methodLink RL 115 yX14_rate ∈ lw_tbl := List.mem_of_getElem? (i := 1087) (by decide +kernel)
set_option maxRecDepth 100000 in
theorem wt161 : Cond.instanceMethod yX14_rate ∈ lw_tbl := List.mem_of_getElem? (i := 1088) (by decide +kernel)
set_option maxRecDepth 100000 in
theorem wt162 : Cond.selects RX14 yX14_rate yX14_rate ∈ lw_tbl := List.mem_of_getElem? (i := 1089) (by decide +kernel)
set_option maxRecDepth 100000 in
theorem wt163 : Cond.code yX14_rate cX14_rate 5 (some .int) ∈ lw_tbl := List.mem_of_getElem? (i := 1090) (by decide +kernel)
set_option maxRecDepth 100000 in
theorem wt164 : Cond.constant RX14 149 (100000) ∈ lw_tbl := List.mem_of_getElem? (i := 1094) (by decide +kernel)
set_option maxRecDepth 100000 in
theorem wt167 : Cond.methodLink RX14 53 yX14_isIn ∈ lw_tbl := List.mem_of_getElem? (i := 1091) (by decide +kernel)
set_option maxRecDepth 100000 in
theorem wt168 : Cond.static yX14_isIn ∈ lw_tbl := List.mem_of_getElem? (i := 1092) (by decide +kernel)
set_option maxRecDepth 100000 in
theorem wt169 : Cond.code yX14_isIn cX14_isIn 3 (some .boolean) ∈ lw_tbl := List.mem_of_getElem? (i := 1093) (by decide +kernel)
set_option maxRecDepth 100000 in
theorem wt170 : Cond.methodLink RX14 61 yX14_start ∈ lw_tbl := List.mem_of_getElem? (i := 1095) (by decide +kernel)
set_option maxRecDepth 100000 in
theorem wt171 : Cond.instanceMethod yX14_start ∈ lw_tbl := List.mem_of_getElem? (i := 1097) (by decide +kernel)
set_option maxRecDepth 100000 in
theorem wt172 : Cond.selects RX14 yX14_start yX14_start ∈ lw_tbl := List.mem_of_getElem? (i := 30) (by decide +kernel)
set_option maxRecDepth 100000 in
theorem wt173 : Cond.code yX14_start cX14_start 3 (some .boolean) ∈ lw_tbl := List.mem_of_getElem? (i := 1098) (by decide +kernel)
set_option maxRecDepth 100000 in
theorem wt174 : Cond.fieldLink RX14 42 "TollgateModel" "thrown" "I" ∈ lw_tbl := List.mem_of_getElem? (i := 1037) (by decide +kernel)
set_option maxRecDepth 100000 in
theorem wt175 : Cond.methodLink RX14 45 yX14_refuse ∈ lw_tbl := List.mem_of_getElem? (i := 1099) (by decide +kernel)
set_option maxRecDepth 100000 in
theorem wt176 : Cond.instanceMethod yX14_refuse ∈ lw_tbl := List.mem_of_getElem? (i := 1101) (by decide +kernel)
set_option maxRecDepth 100000 in
theorem wt177 : Cond.selects RX14 yX14_refuse yX14_refuse ∈ lw_tbl := List.mem_of_getElem? (i := 31) (by decide +kernel)
set_option maxRecDepth 100000 in
theorem wt178 : Cond.code yX14_refuse cX14_refuse 3 (some .boolean) ∈ lw_tbl := List.mem_of_getElem? (i := 1102) (by decide +kernel)
set_option maxRecDepth 100000 in
theorem wt179 : Cond.methodLink RX14 49 yJx4a65c_size_8abf5 ∈ lw_tbl := List.mem_of_getElem? (i := 1103) (by decide +kernel)
set_option maxRecDepth 100000 in
theorem wt180 : Cond.instanceMethod yJx4a65c_size_8abf5 ∈ lw_tbl := List.mem_of_getElem? (i := 1104) (by decide +kernel)
set_option maxRecDepth 100000 in
theorem wt181 : Cond.selects RJx4a65c yJx4a65c_size_8abf5 yJx4a65c_size_8abf5 ∈ lw_tbl := List.mem_of_getElem? (i := 1105) (by decide +kernel)
set_option maxRecDepth 100000 in
theorem wt182 : Cond.code yJx4a65c_size_8abf5 cJx4a65c_size_8abf5 1 (some .int) ∈ lw_tbl := List.mem_of_getElem? (i := 1106) (by decide +kernel)
set_option maxRecDepth 100000 in
theorem wt183 : Cond.fieldLink RJx4a65c 48 "java/util/ArrayList" "size" "I" ∈ lw_tbl := List.mem_of_getElem? (i := 1026) (by decide +kernel)
set_option maxRecDepth 100000 in
theorem wt200 : Cond.methodLink RL 116 yX14_thrown ∈ lw_tbl := List.mem_of_getElem? (i := 1083) (by decide +kernel)
set_option maxRecDepth 100000 in
theorem wt201 : Cond.instanceMethod yX14_thrown ∈ lw_tbl := List.mem_of_getElem? (i := 1084) (by decide +kernel)
set_option maxRecDepth 100000 in
theorem wt202 : Cond.selects RX14 yX14_thrown yX14_thrown ∈ lw_tbl := List.mem_of_getElem? (i := 1085) (by decide +kernel)
set_option maxRecDepth 100000 in
theorem wt203 : Cond.code yX14_thrown cX14_thrown 1 (some .int) ∈ lw_tbl := List.mem_of_getElem? (i := 1086) (by decide +kernel)
set_option maxRecDepth 100000 in
theorem wt204 : Cond.methodLink RL 119 yL_account ∈ lw_tbl := List.mem_of_getElem? (i := 744) (by decide +kernel)
set_option maxRecDepth 100000 in
theorem wt205 : Cond.static yL_account ∈ lw_tbl := List.mem_of_getElem? (i := 745) (by decide +kernel)
set_option maxRecDepth 100000 in
theorem wt206 : Cond.codeWith yL_account cL_account 5 (some .int) [(0, 10, 13, 13), (0, 10, 17, 15)] ∈ lw_tbl := List.mem_of_getElem? (i := 746) (by decide +kernel)
set_option maxRecDepth 100000 in
theorem wt207 : Cond.methodLink RL 17 yX7_account ∈ lw_tbl := List.mem_of_getElem? (i := 747) (by decide +kernel)
set_option maxRecDepth 100000 in
theorem wt208 : Cond.instanceMethod yX7_account ∈ lw_tbl := List.mem_of_getElem? (i := 748) (by decide +kernel)
set_option maxRecDepth 100000 in
theorem wt209 : Cond.selects RX7 yX7_account yX7_account ∈ lw_tbl := List.mem_of_getElem? (i := 749) (by decide +kernel)
set_option maxRecDepth 100000 in
theorem wt210 : Cond.code yX7_account cX7_account 3 (some .int) ∈ lw_tbl := List.mem_of_getElem? (i := 750) (by decide +kernel)
set_option maxRecDepth 100000 in
theorem wt211 : Cond.fieldLink RX7 93 "Tollgate$Accounts" "count" "I" ∈ lw_tbl := List.mem_of_getElem? (i := 131) (by decide +kernel)
set_option maxRecDepth 100000 in
theorem wt212 : Cond.methodLink RX7 98 yX0_add ∈ lw_tbl := List.mem_of_getElem? (i := 753) (by decide +kernel)
set_option maxRecDepth 100000 in
theorem wt213 : Cond.instanceMethod yX0_add ∈ lw_tbl := List.mem_of_getElem? (i := 754) (by decide +kernel)
set_option maxRecDepth 100000 in
theorem wt214 : Cond.selects RX0 yX0_add yX0_add ∈ lw_tbl := List.mem_of_getElem? (i := 755) (by decide +kernel)
set_option maxRecDepth 100000 in
theorem wt215 : Cond.code yX0_add cX0_add 3 (some .int) ∈ lw_tbl := List.mem_of_getElem? (i := 756) (by decide +kernel)
set_option maxRecDepth 100000 in
theorem wt216 : Cond.methodLink RL 121 yX14_account ∈ lw_tbl := List.mem_of_getElem? (i := 1122) (by decide +kernel)
set_option maxRecDepth 100000 in
theorem wt217 : Cond.instanceMethod yX14_account ∈ lw_tbl := List.mem_of_getElem? (i := 1123) (by decide +kernel)
theorem wr_4 : ∀ w ∈ zw_4, w ∈ lw_tbl := List.forall_mem_cons.mpr ⟨wt160, List.forall_mem_cons.mpr ⟨wt161, List.forall_mem_cons.mpr ⟨wt162, List.forall_mem_cons.mpr ⟨wt163, List.forall_mem_cons.mpr ⟨wt164, List.forall_mem_cons.mpr ⟨wt167, List.forall_mem_cons.mpr ⟨wt168, List.forall_mem_cons.mpr ⟨wt169, List.forall_mem_cons.mpr ⟨wt170, List.forall_mem_cons.mpr ⟨wt171, List.forall_mem_cons.mpr ⟨wt172, List.forall_mem_cons.mpr ⟨wt173, List.forall_mem_cons.mpr ⟨wt174, List.forall_mem_cons.mpr ⟨wt175, List.forall_mem_cons.mpr ⟨wt176, List.forall_mem_cons.mpr ⟨wt177, List.forall_mem_cons.mpr ⟨wt178, List.forall_mem_cons.mpr ⟨wt179, List.forall_mem_cons.mpr ⟨wt180, List.forall_mem_cons.mpr ⟨wt181, List.forall_mem_cons.mpr ⟨wt182, List.forall_mem_cons.mpr ⟨wt183, List.forall_mem_cons.mpr ⟨wt200, List.forall_mem_cons.mpr ⟨wt201, List.forall_mem_cons.mpr ⟨wt202, List.forall_mem_cons.mpr ⟨wt203, List.forall_mem_cons.mpr ⟨wt204, List.forall_mem_cons.mpr ⟨wt205, List.forall_mem_cons.mpr ⟨wt206, List.forall_mem_cons.mpr ⟨wt207, List.forall_mem_cons.mpr ⟨wt208, List.forall_mem_cons.mpr ⟨wt209, List.forall_mem_cons.mpr ⟨wt210, List.forall_mem_cons.mpr ⟨wt211, List.forall_mem_cons.mpr ⟨wt212, List.forall_mem_cons.mpr ⟨wt213, List.forall_mem_cons.mpr ⟨wt214, List.forall_mem_cons.mpr ⟨wt215, List.forall_mem_cons.mpr ⟨wt216, List.forall_mem_cons.mpr ⟨wt217, fun _ h => absurd h List.not_mem_nil⟩⟩⟩⟩⟩⟩⟩⟩⟩⟩⟩⟩⟩⟩⟩⟩⟩⟩⟩⟩⟩⟩⟩⟩⟩⟩⟩⟩⟩⟩⟩⟩⟩⟩⟩⟩⟩⟩⟩⟩
set_option maxRecDepth 100000 in
theorem wt218 : Cond.selects RX14 yX14_account yX14_account ∈ lw_tbl := List.mem_of_getElem? (i := 1124) (by decide +kernel)
set_option maxRecDepth 100000 in
theorem wt219 : Cond.code yX14_account cX14_account 3 (some .int) ∈ lw_tbl := List.mem_of_getElem? (i := 1125) (by decide +kernel)
set_option maxRecDepth 100000 in
theorem wt220 : Cond.classLink RX14 85 RX8 ∈ lw_tbl := List.mem_of_getElem? (i := 1121) (by decide +kernel)
set_option maxRecDepth 100000 in
theorem wt221 : Cond.instantiable RX8 5 ∈ lw_tbl := List.mem_of_getElem? (i := 1126) (by decide +kernel)
set_option maxRecDepth 100000 in
theorem wt222 : Cond.initialized RX8 ∈ lw_tbl := List.mem_of_getElem? (i := 87) (by decide +kernel)
set_option maxRecDepth 100000 in
theorem wt223 : Cond.methodLink RX14 150 yX8_init ∈ lw_tbl := List.mem_of_getElem? (i := 1127) (by decide +kernel)
set_option maxRecDepth 100000 in
theorem wt224 : Cond.instanceMethod yX8_init ∈ lw_tbl := List.mem_of_getElem? (i := 1128) (by decide +kernel)
set_option maxRecDepth 100000 in
theorem wt225 : Cond.code yX8_init cX8_init 4 none ∈ lw_tbl := List.mem_of_getElem? (i := 1129) (by decide +kernel)
set_option maxRecDepth 100000 in
theorem wt226 : Cond.methodLink RX8 3 objectInit ∈ lw_tbl := List.mem_of_getElem? (i := 1130) (by decide +kernel)
set_option maxRecDepth 100000 in
theorem wt227 : Cond.fieldLink RX8 9 "TollgateModel$Account" "number" "I" ∈ lw_tbl := List.mem_of_getElem? (i := 1131) (by decide +kernel)
set_option maxRecDepth 100000 in
theorem wt228 : Cond.fieldLink RX8 15 "TollgateModel$Account" "kind" "I" ∈ lw_tbl := List.mem_of_getElem? (i := 1133) (by decide +kernel)
set_option maxRecDepth 100000 in
theorem wt229 : Cond.fieldLink RX8 18 "TollgateModel$Account" "currency" "I" ∈ lw_tbl := List.mem_of_getElem? (i := 1135) (by decide +kernel)
set_option maxRecDepth 100000 in
theorem wt230 : Cond.methodLink RX14 153 yJx4a65c_add_9ea2d ∈ lw_tbl := List.mem_of_getElem? (i := 1150) (by decide +kernel)
set_option maxRecDepth 100000 in
theorem wt231 : Cond.instanceMethod yJx4a65c_add_9ea2d ∈ lw_tbl := List.mem_of_getElem? (i := 1151) (by decide +kernel)
set_option maxRecDepth 100000 in
theorem wt232 : Cond.selects RJx4a65c yJx4a65c_add_9ea2d yJx4a65c_add_9ea2d ∈ lw_tbl := List.mem_of_getElem? (i := 1152) (by decide +kernel)
set_option maxRecDepth 100000 in
theorem wt233 : Cond.code yJx4a65c_add_9ea2d cJx4a65c_add_9ea2d 2 (some .boolean) ∈ lw_tbl := List.mem_of_getElem? (i := 1153) (by decide +kernel)
set_option maxRecDepth 100000 in
theorem wt234 : Cond.fieldLink RJx4a65c 63 "java/util/ArrayList" "modCount" "I" ∈ lw_tbl := List.mem_of_getElem? (i := 1028) (by decide +kernel)
set_option maxRecDepth 100000 in
theorem wt235 : Cond.sameField "java/util/ArrayList" "java/util/AbstractList" "modCount" "I" ∈ lw_tbl := List.mem_of_getElem? (i := 1029) (by decide +kernel)
set_option maxRecDepth 100000 in
theorem wt236 : Cond.methodLink RJx4a65c 131 yJx4a65c_add_72be8 ∈ lw_tbl := List.mem_of_getElem? (i := 1154) (by decide +kernel)
set_option maxRecDepth 100000 in
theorem wt237 : Cond.instanceMethod yJx4a65c_add_72be8 ∈ lw_tbl := List.mem_of_getElem? (i := 1156) (by decide +kernel)
set_option maxRecDepth 100000 in
theorem wt238 : Cond.selects RJx4a65c yJx4a65c_add_72be8 yJx4a65c_add_72be8 ∈ lw_tbl := List.mem_of_getElem? (i := 32) (by decide +kernel)
set_option maxRecDepth 100000 in
theorem wt239 : Cond.code yJx4a65c_add_72be8 cJx4a65c_add_72be8 4 none ∈ lw_tbl := List.mem_of_getElem? (i := 1157) (by decide +kernel)
set_option maxRecDepth 100000 in
theorem wt240 : Cond.methodLink RJx4a65c 129 yJx4a65c_grow_d5877 ∈ lw_tbl := List.mem_of_getElem? (i := 1158) (by decide +kernel)
set_option maxRecDepth 100000 in
theorem wt241 : Cond.instanceMethod yJx4a65c_grow_d5877 ∈ lw_tbl := List.mem_of_getElem? (i := 1160) (by decide +kernel)
set_option maxRecDepth 100000 in
theorem wt242 : Cond.selects RJx4a65c yJx4a65c_grow_d5877 yJx4a65c_grow_d5877 ∈ lw_tbl := List.mem_of_getElem? (i := 33) (by decide +kernel)
set_option maxRecDepth 100000 in
theorem wt243 : Cond.code yJx4a65c_grow_d5877 cJx4a65c_grow_d5877 1 (some (.array (.object "java/lang/Object"))) ∈ lw_tbl := List.mem_of_getElem? (i := 1161) (by decide +kernel)
set_option maxRecDepth 100000 in
theorem wt244 : Cond.methodLink RJx4a65c 69 yJx4a65c_grow_92f84 ∈ lw_tbl := List.mem_of_getElem? (i := 1162) (by decide +kernel)
set_option maxRecDepth 100000 in
theorem wt245 : Cond.instanceMethod yJx4a65c_grow_92f84 ∈ lw_tbl := List.mem_of_getElem? (i := 1164) (by decide +kernel)
set_option maxRecDepth 100000 in
theorem wt246 : Cond.selects RJx4a65c yJx4a65c_grow_92f84 yJx4a65c_grow_92f84 ∈ lw_tbl := List.mem_of_getElem? (i := 34) (by decide +kernel)
set_option maxRecDepth 100000 in
theorem wt247 : Cond.code yJx4a65c_grow_92f84 cJx4a65c_grow_92f84 4 (some (.array (.object "java/lang/Object"))) ∈ lw_tbl := List.mem_of_getElem? (i := 1165) (by decide +kernel)
set_option maxRecDepth 100000 in
theorem wt248 : Cond.methodLink RJx4a65c 79 Lib.Math.max.name ∈ lw_tbl := List.mem_of_getElem? (i := 1217) (by decide +kernel)
set_option maxRecDepth 100000 in
theorem wt249 : Cond.static Lib.Math.max.name ∈ lw_tbl := List.mem_of_getElem? (i := 1170) (by decide +kernel)
set_option maxRecDepth 100000 in
theorem wt250 : Cond.initialized "java/lang/Math" ∈ lw_tbl := List.mem_of_getElem? (i := 89) (by decide +kernel)
set_option maxRecDepth 100000 in
theorem wt251 : Cond.code Lib.Math.max.name Lib.Math.max.code 2 (some .int) ∈ lw_tbl := List.mem_of_getElem? (i := 1171) (by decide +kernel)
set_option maxRecDepth 100000 in
theorem wt252 : Cond.classLink RJx4a65c 7 "java/lang/Object" ∈ lw_tbl := List.mem_of_getElem? (i := 1218) (by decide +kernel)
set_option maxRecDepth 100000 in
theorem wt282 : Cond.methodLink RL 122 yL_floor ∈ lw_tbl := List.mem_of_getElem? (i := 757) (by decide +kernel)
set_option maxRecDepth 100000 in
theorem wt283 : Cond.static yL_floor ∈ lw_tbl := List.mem_of_getElem? (i := 758) (by decide +kernel)
set_option maxRecDepth 100000 in
theorem wt284 : Cond.codeWith yL_floor cL_floor 5 (some .int) [(0, 9, 12, 24), (0, 9, 16, 13), (0, 9, 20, 15)] ∈ lw_tbl := List.mem_of_getElem? (i := 759) (by decide +kernel)
set_option maxRecDepth 100000 in
theorem wt285 : Cond.classLink RL 24 "java/lang/IndexOutOfBoundsException" ∈ lw_tbl := List.mem_of_getElem? (i := 760) (by decide +kernel)
set_option maxRecDepth 100000 in
theorem wt286 : Cond.methodLink RL 20 yX7_floor ∈ lw_tbl := List.mem_of_getElem? (i := 761) (by decide +kernel)
theorem wr_5 : ∀ w ∈ zw_5, w ∈ lw_tbl := List.forall_mem_cons.mpr ⟨wt218, List.forall_mem_cons.mpr ⟨wt219, List.forall_mem_cons.mpr ⟨wt220, List.forall_mem_cons.mpr ⟨wt221, List.forall_mem_cons.mpr ⟨wt222, List.forall_mem_cons.mpr ⟨wt223, List.forall_mem_cons.mpr ⟨wt224, List.forall_mem_cons.mpr ⟨wt225, List.forall_mem_cons.mpr ⟨wt226, List.forall_mem_cons.mpr ⟨wt227, List.forall_mem_cons.mpr ⟨wt228, List.forall_mem_cons.mpr ⟨wt229, List.forall_mem_cons.mpr ⟨wt230, List.forall_mem_cons.mpr ⟨wt231, List.forall_mem_cons.mpr ⟨wt232, List.forall_mem_cons.mpr ⟨wt233, List.forall_mem_cons.mpr ⟨wt234, List.forall_mem_cons.mpr ⟨wt235, List.forall_mem_cons.mpr ⟨wt236, List.forall_mem_cons.mpr ⟨wt237, List.forall_mem_cons.mpr ⟨wt238, List.forall_mem_cons.mpr ⟨wt239, List.forall_mem_cons.mpr ⟨wt240, List.forall_mem_cons.mpr ⟨wt241, List.forall_mem_cons.mpr ⟨wt242, List.forall_mem_cons.mpr ⟨wt243, List.forall_mem_cons.mpr ⟨wt244, List.forall_mem_cons.mpr ⟨wt245, List.forall_mem_cons.mpr ⟨wt246, List.forall_mem_cons.mpr ⟨wt247, List.forall_mem_cons.mpr ⟨wt248, List.forall_mem_cons.mpr ⟨wt249, List.forall_mem_cons.mpr ⟨wt250, List.forall_mem_cons.mpr ⟨wt251, List.forall_mem_cons.mpr ⟨wt252, List.forall_mem_cons.mpr ⟨wt282, List.forall_mem_cons.mpr ⟨wt283, List.forall_mem_cons.mpr ⟨wt284, List.forall_mem_cons.mpr ⟨wt285, List.forall_mem_cons.mpr ⟨wt286, fun _ h => absurd h List.not_mem_nil⟩⟩⟩⟩⟩⟩⟩⟩⟩⟩⟩⟩⟩⟩⟩⟩⟩⟩⟩⟩⟩⟩⟩⟩⟩⟩⟩⟩⟩⟩⟩⟩⟩⟩⟩⟩⟩⟩⟩⟩
set_option maxRecDepth 100000 in
theorem wt287 : Cond.instanceMethod yX7_floor ∈ lw_tbl := List.mem_of_getElem? (i := 762) (by decide +kernel)
set_option maxRecDepth 100000 in
theorem wt288 : Cond.selects RX7 yX7_floor yX7_floor ∈ lw_tbl := List.mem_of_getElem? (i := 763) (by decide +kernel)
set_option maxRecDepth 100000 in
theorem wt289 : Cond.code yX7_floor cX7_floor 5 (some .long) ∈ lw_tbl := List.mem_of_getElem? (i := 764) (by decide +kernel)
set_option maxRecDepth 100000 in
theorem wt293 : Cond.methodLink RX7 102 yX7_needAccount ∈ lw_tbl := List.mem_of_getElem? (i := 560) (by decide +kernel)
set_option maxRecDepth 100000 in
theorem wt294 : Cond.instanceMethod yX7_needAccount ∈ lw_tbl := List.mem_of_getElem? (i := 562) (by decide +kernel)
set_option maxRecDepth 100000 in
theorem wt295 : Cond.selects RX7 yX7_needAccount yX7_needAccount ∈ lw_tbl := List.mem_of_getElem? (i := 8) (by decide +kernel)
set_option maxRecDepth 100000 in
theorem wt296 : Cond.code yX7_needAccount cX7_needAccount 2 none ∈ lw_tbl := List.mem_of_getElem? (i := 563) (by decide +kernel)
set_option maxRecDepth 100000 in
theorem wt297 : Cond.classLink RX7 194 "java/lang/IndexOutOfBoundsException" ∈ lw_tbl := List.mem_of_getElem? (i := 564) (by decide +kernel)
set_option maxRecDepth 100000 in
theorem wt298 : Cond.initialized "java/lang/IndexOutOfBoundsException" ∈ lw_tbl := List.mem_of_getElem? (i := 92) (by decide +kernel)
set_option maxRecDepth 100000 in
theorem wt327 : Cond.methodLink RL 124 yX14_floor ∈ lw_tbl := List.mem_of_getElem? (i := 1219) (by decide +kernel)
set_option maxRecDepth 100000 in
theorem wt328 : Cond.instanceMethod yX14_floor ∈ lw_tbl := List.mem_of_getElem? (i := 1220) (by decide +kernel)
set_option maxRecDepth 100000 in
theorem wt329 : Cond.selects RX14 yX14_floor yX14_floor ∈ lw_tbl := List.mem_of_getElem? (i := 1221) (by decide +kernel)
set_option maxRecDepth 100000 in
theorem wt330 : Cond.code yX14_floor cX14_floor 4 (some .long) ∈ lw_tbl := List.mem_of_getElem? (i := 1222) (by decide +kernel)
set_option maxRecDepth 100000 in
theorem wt332 : Cond.fieldLink RX14 143 "TollgateModel" "today" "I" ∈ lw_tbl := List.mem_of_getElem? (i := 1046) (by decide +kernel)
set_option maxRecDepth 100000 in
theorem wt335 : Cond.methodLink RX14 157 yX14_isNoAccount ∈ lw_tbl := List.mem_of_getElem? (i := 1223) (by decide +kernel)
set_option maxRecDepth 100000 in
theorem wt336 : Cond.instanceMethod yX14_isNoAccount ∈ lw_tbl := List.mem_of_getElem? (i := 1225) (by decide +kernel)
set_option maxRecDepth 100000 in
theorem wt337 : Cond.selects RX14 yX14_isNoAccount yX14_isNoAccount ∈ lw_tbl := List.mem_of_getElem? (i := 35) (by decide +kernel)
set_option maxRecDepth 100000 in
theorem wt338 : Cond.code yX14_isNoAccount cX14_isNoAccount 2 (some .boolean) ∈ lw_tbl := List.mem_of_getElem? (i := 1226) (by decide +kernel)
set_option maxRecDepth 100000 in
theorem wt339 : Cond.methodLink RX14 57 yX14_isNo ∈ lw_tbl := List.mem_of_getElem? (i := 1227) (by decide +kernel)
set_option maxRecDepth 100000 in
theorem wt340 : Cond.instanceMethod yX14_isNo ∈ lw_tbl := List.mem_of_getElem? (i := 1229) (by decide +kernel)
set_option maxRecDepth 100000 in
theorem wt341 : Cond.selects RX14 yX14_isNo yX14_isNo ∈ lw_tbl := List.mem_of_getElem? (i := 36) (by decide +kernel)
set_option maxRecDepth 100000 in
theorem wt342 : Cond.code yX14_isNo cX14_isNo 2 (some .boolean) ∈ lw_tbl := List.mem_of_getElem? (i := 1230) (by decide +kernel)
set_option maxRecDepth 100000 in
theorem wt379 : Cond.methodLink RL 125 yL_exchange ∈ lw_tbl := List.mem_of_getElem? (i := 768) (by decide +kernel)
set_option maxRecDepth 100000 in
theorem wt380 : Cond.static yL_exchange ∈ lw_tbl := List.mem_of_getElem? (i := 769) (by decide +kernel)
set_option maxRecDepth 100000 in
theorem wt381 : Cond.codeWith yL_exchange cL_exchange 4 (some .int) [(0, 9, 12, 24), (0, 9, 15, 13)] ∈ lw_tbl := List.mem_of_getElem? (i := 770) (by decide +kernel)
set_option maxRecDepth 100000 in
theorem wt382 : Cond.methodLink RL 26 yX7_exchange ∈ lw_tbl := List.mem_of_getElem? (i := 771) (by decide +kernel)
set_option maxRecDepth 100000 in
theorem wt383 : Cond.instanceMethod yX7_exchange ∈ lw_tbl := List.mem_of_getElem? (i := 772) (by decide +kernel)
set_option maxRecDepth 100000 in
theorem wt384 : Cond.selects RX7 yX7_exchange yX7_exchange ∈ lw_tbl := List.mem_of_getElem? (i := 773) (by decide +kernel)
set_option maxRecDepth 100000 in
theorem wt385 : Cond.code yX7_exchange cX7_exchange 3 (some .int) ∈ lw_tbl := List.mem_of_getElem? (i := 774) (by decide +kernel)
set_option maxRecDepth 100000 in
theorem wt387 : Cond.methodLink RL 128 yX14_exchange ∈ lw_tbl := List.mem_of_getElem? (i := 1258) (by decide +kernel)
set_option maxRecDepth 100000 in
theorem wt388 : Cond.instanceMethod yX14_exchange ∈ lw_tbl := List.mem_of_getElem? (i := 1259) (by decide +kernel)
set_option maxRecDepth 100000 in
theorem wt389 : Cond.selects RX14 yX14_exchange yX14_exchange ∈ lw_tbl := List.mem_of_getElem? (i := 1260) (by decide +kernel)
set_option maxRecDepth 100000 in
theorem wt390 : Cond.code yX14_exchange cX14_exchange 3 (some .int) ∈ lw_tbl := List.mem_of_getElem? (i := 1261) (by decide +kernel)
set_option maxRecDepth 100000 in
theorem wt393 : Cond.methodLink RL 129 yL_pass ∈ lw_tbl := List.mem_of_getElem? (i := 776) (by decide +kernel)
set_option maxRecDepth 100000 in
theorem wt394 : Cond.static yL_pass ∈ lw_tbl := List.mem_of_getElem? (i := 777) (by decide +kernel)
set_option maxRecDepth 100000 in
theorem wt395 : Cond.codeWith yL_pass cL_pass 4 (some .int) [(0, 9, 12, 13)] ∈ lw_tbl := List.mem_of_getElem? (i := 778) (by decide +kernel)
set_option maxRecDepth 100000 in
theorem wt396 : Cond.methodLink RL 30 yX7_pass ∈ lw_tbl := List.mem_of_getElem? (i := 779) (by decide +kernel)
set_option maxRecDepth 100000 in
theorem wt397 : Cond.instanceMethod yX7_pass ∈ lw_tbl := List.mem_of_getElem? (i := 780) (by decide +kernel)
set_option maxRecDepth 100000 in
theorem wt398 : Cond.selects RX7 yX7_pass yX7_pass ∈ lw_tbl := List.mem_of_getElem? (i := 781) (by decide +kernel)
set_option maxRecDepth 100000 in
theorem wt399 : Cond.code yX7_pass cX7_pass 2 (some .int) ∈ lw_tbl := List.mem_of_getElem? (i := 782) (by decide +kernel)
theorem wr_6 : ∀ w ∈ zw_6, w ∈ lw_tbl := List.forall_mem_cons.mpr ⟨wt287, List.forall_mem_cons.mpr ⟨wt288, List.forall_mem_cons.mpr ⟨wt289, List.forall_mem_cons.mpr ⟨wt293, List.forall_mem_cons.mpr ⟨wt294, List.forall_mem_cons.mpr ⟨wt295, List.forall_mem_cons.mpr ⟨wt296, List.forall_mem_cons.mpr ⟨wt297, List.forall_mem_cons.mpr ⟨wt298, List.forall_mem_cons.mpr ⟨wt327, List.forall_mem_cons.mpr ⟨wt328, List.forall_mem_cons.mpr ⟨wt329, List.forall_mem_cons.mpr ⟨wt330, List.forall_mem_cons.mpr ⟨wt332, List.forall_mem_cons.mpr ⟨wt335, List.forall_mem_cons.mpr ⟨wt336, List.forall_mem_cons.mpr ⟨wt337, List.forall_mem_cons.mpr ⟨wt338, List.forall_mem_cons.mpr ⟨wt339, List.forall_mem_cons.mpr ⟨wt340, List.forall_mem_cons.mpr ⟨wt341, List.forall_mem_cons.mpr ⟨wt342, List.forall_mem_cons.mpr ⟨wt379, List.forall_mem_cons.mpr ⟨wt380, List.forall_mem_cons.mpr ⟨wt381, List.forall_mem_cons.mpr ⟨wt382, List.forall_mem_cons.mpr ⟨wt383, List.forall_mem_cons.mpr ⟨wt384, List.forall_mem_cons.mpr ⟨wt385, List.forall_mem_cons.mpr ⟨wt387, List.forall_mem_cons.mpr ⟨wt388, List.forall_mem_cons.mpr ⟨wt389, List.forall_mem_cons.mpr ⟨wt390, List.forall_mem_cons.mpr ⟨wt393, List.forall_mem_cons.mpr ⟨wt394, List.forall_mem_cons.mpr ⟨wt395, List.forall_mem_cons.mpr ⟨wt396, List.forall_mem_cons.mpr ⟨wt397, List.forall_mem_cons.mpr ⟨wt398, List.forall_mem_cons.mpr ⟨wt399, fun _ h => absurd h List.not_mem_nil⟩⟩⟩⟩⟩⟩⟩⟩⟩⟩⟩⟩⟩⟩⟩⟩⟩⟩⟩⟩⟩⟩⟩⟩⟩⟩⟩⟩⟩⟩⟩⟩⟩⟩⟩⟩⟩⟩⟩⟩
set_option maxRecDepth 100000 in
theorem wt400 : Cond.methodLink RL 131 yX14_pass ∈ lw_tbl := List.mem_of_getElem? (i := 1262) (by decide +kernel)
set_option maxRecDepth 100000 in
theorem wt401 : Cond.instanceMethod yX14_pass ∈ lw_tbl := List.mem_of_getElem? (i := 1263) (by decide +kernel)
set_option maxRecDepth 100000 in
theorem wt402 : Cond.selects RX14 yX14_pass yX14_pass ∈ lw_tbl := List.mem_of_getElem? (i := 1264) (by decide +kernel)
set_option maxRecDepth 100000 in
theorem wt403 : Cond.code yX14_pass cX14_pass 2 (some .int) ∈ lw_tbl := List.mem_of_getElem? (i := 1265) (by decide +kernel)
set_option maxRecDepth 100000 in
theorem wt404 : Cond.methodLink RL 132 yL_draft ∈ lw_tbl := List.mem_of_getElem? (i := 783) (by decide +kernel)
set_option maxRecDepth 100000 in
theorem wt405 : Cond.static yL_draft ∈ lw_tbl := List.mem_of_getElem? (i := 784) (by decide +kernel)
set_option maxRecDepth 100000 in
theorem wt406 : Cond.codeWith yL_draft cL_draft 5 (some .int) [(0, 10, 13, 13)] ∈ lw_tbl := List.mem_of_getElem? (i := 785) (by decide +kernel)
set_option maxRecDepth 100000 in
theorem wt407 : Cond.methodLink RL 33 yX7_draft ∈ lw_tbl := List.mem_of_getElem? (i := 786) (by decide +kernel)
set_option maxRecDepth 100000 in
theorem wt408 : Cond.instanceMethod yX7_draft ∈ lw_tbl := List.mem_of_getElem? (i := 787) (by decide +kernel)
set_option maxRecDepth 100000 in
theorem wt409 : Cond.selects RX7 yX7_draft yX7_draft ∈ lw_tbl := List.mem_of_getElem? (i := 788) (by decide +kernel)
set_option maxRecDepth 100000 in
theorem wt410 : Cond.code yX7_draft cX7_draft 4 (some .int) ∈ lw_tbl := List.mem_of_getElem? (i := 789) (by decide +kernel)
set_option maxRecDepth 100000 in
theorem wt411 : Cond.fieldLink RX7 138 "Tollgate$Draft" "legs" "LTollgate$LegRow;" ∈ lw_tbl := List.mem_of_getElem? (i := 183) (by decide +kernel)
set_option maxRecDepth 100000 in
theorem wt412 : Cond.fieldLink RX7 141 "Tollgate$LegRow" "count" "I" ∈ lw_tbl := List.mem_of_getElem? (i := 171) (by decide +kernel)
set_option maxRecDepth 100000 in
theorem wt413 : Cond.methodLink RX7 133 yX7_needDay ∈ lw_tbl := List.mem_of_getElem? (i := 701) (by decide +kernel)
set_option maxRecDepth 100000 in
theorem wt414 : Cond.static yX7_needDay ∈ lw_tbl := List.mem_of_getElem? (i := 702) (by decide +kernel)
set_option maxRecDepth 100000 in
theorem wt415 : Cond.code yX7_needDay cX7_needDay 1 none ∈ lw_tbl := List.mem_of_getElem? (i := 703) (by decide +kernel)
set_option maxRecDepth 100000 in
theorem wt416 : Cond.methodLink RX7 142 yX1_begin ∈ lw_tbl := List.mem_of_getElem? (i := 791) (by decide +kernel)
set_option maxRecDepth 100000 in
theorem wt417 : Cond.instanceMethod yX1_begin ∈ lw_tbl := List.mem_of_getElem? (i := 792) (by decide +kernel)
set_option maxRecDepth 100000 in
theorem wt418 : Cond.selects RX1 yX1_begin yX1_begin ∈ lw_tbl := List.mem_of_getElem? (i := 793) (by decide +kernel)
set_option maxRecDepth 100000 in
theorem wt419 : Cond.code yX1_begin cX1_begin 3 none ∈ lw_tbl := List.mem_of_getElem? (i := 794) (by decide +kernel)
set_option maxRecDepth 100000 in
theorem wt420 : Cond.fieldLink RX1 27 "Tollgate$LegRow" "count" "I" ∈ lw_tbl := List.mem_of_getElem? (i := 169) (by decide +kernel)
set_option maxRecDepth 100000 in
theorem wt421 : Cond.methodLink RL 134 yX14_draft ∈ lw_tbl := List.mem_of_getElem? (i := 1266) (by decide +kernel)
set_option maxRecDepth 100000 in
theorem wt422 : Cond.instanceMethod yX14_draft ∈ lw_tbl := List.mem_of_getElem? (i := 1267) (by decide +kernel)
set_option maxRecDepth 100000 in
theorem wt423 : Cond.selects RX14 yX14_draft yX14_draft ∈ lw_tbl := List.mem_of_getElem? (i := 1268) (by decide +kernel)
set_option maxRecDepth 100000 in
theorem wt424 : Cond.code yX14_draft cX14_draft 4 (some .int) ∈ lw_tbl := List.mem_of_getElem? (i := 1269) (by decide +kernel)
set_option maxRecDepth 100000 in
theorem wt425 : Cond.fieldLink RX14 167 "TollgateModel" "hasDraft" "Z" ∈ lw_tbl := List.mem_of_getElem? (i := 1048) (by decide +kernel)
set_option maxRecDepth 100000 in
theorem wt426 : Cond.fieldLink RX14 170 "TollgateModel" "draftDay" "I" ∈ lw_tbl := List.mem_of_getElem? (i := 1049) (by decide +kernel)
set_option maxRecDepth 100000 in
theorem wt427 : Cond.fieldLink RX14 173 "TollgateModel" "draftNote" "I" ∈ lw_tbl := List.mem_of_getElem? (i := 1050) (by decide +kernel)
set_option maxRecDepth 100000 in
theorem wt428 : Cond.methodLink RL 135 yL_leg ∈ lw_tbl := List.mem_of_getElem? (i := 795) (by decide +kernel)
set_option maxRecDepth 100000 in
theorem wt429 : Cond.static yL_leg ∈ lw_tbl := List.mem_of_getElem? (i := 796) (by decide +kernel)
set_option maxRecDepth 100000 in
theorem wt430 : Cond.codeWith yL_leg cL_leg 5 (some .int) [(0, 9, 12, 24), (0, 9, 16, 13), (0, 9, 20, 15)] ∈ lw_tbl := List.mem_of_getElem? (i := 797) (by decide +kernel)
set_option maxRecDepth 100000 in
theorem wt431 : Cond.methodLink RL 36 yX7_leg ∈ lw_tbl := List.mem_of_getElem? (i := 798) (by decide +kernel)
set_option maxRecDepth 100000 in
theorem wt432 : Cond.instanceMethod yX7_leg ∈ lw_tbl := List.mem_of_getElem? (i := 799) (by decide +kernel)
set_option maxRecDepth 100000 in
theorem wt433 : Cond.selects RX7 yX7_leg yX7_leg ∈ lw_tbl := List.mem_of_getElem? (i := 800) (by decide +kernel)
set_option maxRecDepth 100000 in
theorem wt434 : Cond.code yX7_leg cX7_leg 3 (some .long) ∈ lw_tbl := List.mem_of_getElem? (i := 801) (by decide +kernel)
set_option maxRecDepth 100000 in
theorem wt435 : Cond.fieldLink RX7 149 "Tollgate$Draft" "isThere" "Z" ∈ lw_tbl := List.mem_of_getElem? (i := 185) (by decide +kernel)
set_option maxRecDepth 100000 in
theorem wt452 : Cond.methodLink RX7 162 yX4_worthSum ∈ lw_tbl := List.mem_of_getElem? (i := 385) (by decide +kernel)
set_option maxRecDepth 100000 in
theorem wt453 : Cond.instanceMethod yX4_worthSum ∈ lw_tbl := List.mem_of_getElem? (i := 386) (by decide +kernel)
set_option maxRecDepth 100000 in
theorem wt454 : Cond.selects RX4 yX4_worthSum yX4_worthSum ∈ lw_tbl := List.mem_of_getElem? (i := 387) (by decide +kernel)
set_option maxRecDepth 100000 in
theorem wt455 : Cond.code yX4_worthSum cX4_worthSum 4 (some .long) ∈ lw_tbl := List.mem_of_getElem? (i := 388) (by decide +kernel)
theorem wr_7 : ∀ w ∈ zw_7, w ∈ lw_tbl := List.forall_mem_cons.mpr ⟨wt400, List.forall_mem_cons.mpr ⟨wt401, List.forall_mem_cons.mpr ⟨wt402, List.forall_mem_cons.mpr ⟨wt403, List.forall_mem_cons.mpr ⟨wt404, List.forall_mem_cons.mpr ⟨wt405, List.forall_mem_cons.mpr ⟨wt406, List.forall_mem_cons.mpr ⟨wt407, List.forall_mem_cons.mpr ⟨wt408, List.forall_mem_cons.mpr ⟨wt409, List.forall_mem_cons.mpr ⟨wt410, List.forall_mem_cons.mpr ⟨wt411, List.forall_mem_cons.mpr ⟨wt412, List.forall_mem_cons.mpr ⟨wt413, List.forall_mem_cons.mpr ⟨wt414, List.forall_mem_cons.mpr ⟨wt415, List.forall_mem_cons.mpr ⟨wt416, List.forall_mem_cons.mpr ⟨wt417, List.forall_mem_cons.mpr ⟨wt418, List.forall_mem_cons.mpr ⟨wt419, List.forall_mem_cons.mpr ⟨wt420, List.forall_mem_cons.mpr ⟨wt421, List.forall_mem_cons.mpr ⟨wt422, List.forall_mem_cons.mpr ⟨wt423, List.forall_mem_cons.mpr ⟨wt424, List.forall_mem_cons.mpr ⟨wt425, List.forall_mem_cons.mpr ⟨wt426, List.forall_mem_cons.mpr ⟨wt427, List.forall_mem_cons.mpr ⟨wt428, List.forall_mem_cons.mpr ⟨wt429, List.forall_mem_cons.mpr ⟨wt430, List.forall_mem_cons.mpr ⟨wt431, List.forall_mem_cons.mpr ⟨wt432, List.forall_mem_cons.mpr ⟨wt433, List.forall_mem_cons.mpr ⟨wt434, List.forall_mem_cons.mpr ⟨wt435, List.forall_mem_cons.mpr ⟨wt452, List.forall_mem_cons.mpr ⟨wt453, List.forall_mem_cons.mpr ⟨wt454, List.forall_mem_cons.mpr ⟨wt455, fun _ h => absurd h List.not_mem_nil⟩⟩⟩⟩⟩⟩⟩⟩⟩⟩⟩⟩⟩⟩⟩⟩⟩⟩⟩⟩⟩⟩⟩⟩⟩⟩⟩⟩⟩⟩⟩⟩⟩⟩⟩⟩⟩⟩⟩⟩
set_option maxRecDepth 100000 in
theorem wt456 : Cond.methodLink RL 137 yX14_leg ∈ lw_tbl := List.mem_of_getElem? (i := 1270) (by decide +kernel)
set_option maxRecDepth 100000 in
theorem wt457 : Cond.instanceMethod yX14_leg ∈ lw_tbl := List.mem_of_getElem? (i := 1271) (by decide +kernel)
set_option maxRecDepth 100000 in
theorem wt458 : Cond.selects RX14 yX14_leg yX14_leg ∈ lw_tbl := List.mem_of_getElem? (i := 1272) (by decide +kernel)
set_option maxRecDepth 100000 in
theorem wt459 : Cond.code yX14_leg cX14_leg 3 (some .long) ∈ lw_tbl := List.mem_of_getElem? (i := 1273) (by decide +kernel)
set_option maxRecDepth 100000 in
theorem wt474 : Cond.methodLink RX14 184 yX14_worths ∈ lw_tbl := List.mem_of_getElem? (i := 1296) (by decide +kernel)
set_option maxRecDepth 100000 in
theorem wt475 : Cond.instanceMethod yX14_worths ∈ lw_tbl := List.mem_of_getElem? (i := 1298) (by decide +kernel)
set_option maxRecDepth 100000 in
theorem wt476 : Cond.selects RX14 yX14_worths yX14_worths ∈ lw_tbl := List.mem_of_getElem? (i := 40) (by decide +kernel)
set_option maxRecDepth 100000 in
theorem wt477 : Cond.code yX14_worths cX14_worths 5 (some .long) ∈ lw_tbl := List.mem_of_getElem? (i := 1299) (by decide +kernel)
set_option maxRecDepth 100000 in
theorem wt491 : Cond.methodLink RL 138 yL_post ∈ lw_tbl := List.mem_of_getElem? (i := 809) (by decide +kernel)
set_option maxRecDepth 100000 in
theorem wt492 : Cond.static yL_post ∈ lw_tbl := List.mem_of_getElem? (i := 810) (by decide +kernel)
set_option maxRecDepth 100000 in
theorem wt493 : Cond.codeWith yL_post cL_post 3 (some .int) [(0, 8, 11, 15)] ∈ lw_tbl := List.mem_of_getElem? (i := 811) (by decide +kernel)
set_option maxRecDepth 100000 in
theorem wt494 : Cond.classLink RL 15 "java/lang/IllegalStateException" ∈ lw_tbl := List.mem_of_getElem? (i := 717) (by decide +kernel)
set_option maxRecDepth 100000 in
theorem wt495 : Cond.methodLink RL 39 yX7_post ∈ lw_tbl := List.mem_of_getElem? (i := 812) (by decide +kernel)
set_option maxRecDepth 100000 in
theorem wt496 : Cond.instanceMethod yX7_post ∈ lw_tbl := List.mem_of_getElem? (i := 813) (by decide +kernel)
set_option maxRecDepth 100000 in
theorem wt497 : Cond.selects RX7 yX7_post yX7_post ∈ lw_tbl := List.mem_of_getElem? (i := 814) (by decide +kernel)
set_option maxRecDepth 100000 in
theorem wt498 : Cond.code yX7_post cX7_post 2 (some .int) ∈ lw_tbl := List.mem_of_getElem? (i := 815) (by decide +kernel)
set_option maxRecDepth 100000 in
theorem wt501 : Cond.methodLink RX7 166 yX7_whyNotPosted ∈ lw_tbl := List.mem_of_getElem? (i := 373) (by decide +kernel)
set_option maxRecDepth 100000 in
theorem wt502 : Cond.instanceMethod yX7_whyNotPosted ∈ lw_tbl := List.mem_of_getElem? (i := 375) (by decide +kernel)
set_option maxRecDepth 100000 in
theorem wt503 : Cond.selects RX7 yX7_whyNotPosted yX7_whyNotPosted ∈ lw_tbl := List.mem_of_getElem? (i := 0) (by decide +kernel)
set_option maxRecDepth 100000 in
theorem wt504 : Cond.code yX7_whyNotPosted cX7_whyNotPosted 1 (some .int) ∈ lw_tbl := List.mem_of_getElem? (i := 376) (by decide +kernel)
set_option maxRecDepth 100000 in
theorem wt505 : Cond.methodLink RX7 277 yX3_lastLocked ∈ lw_tbl := List.mem_of_getElem? (i := 377) (by decide +kernel)
set_option maxRecDepth 100000 in
theorem wt506 : Cond.instanceMethod yX3_lastLocked ∈ lw_tbl := List.mem_of_getElem? (i := 378) (by decide +kernel)
set_option maxRecDepth 100000 in
theorem wt507 : Cond.selects RX3 yX3_lastLocked yX3_lastLocked ∈ lw_tbl := List.mem_of_getElem? (i := 379) (by decide +kernel)
set_option maxRecDepth 100000 in
theorem wt508 : Cond.code yX3_lastLocked cX3_lastLocked 2 (some .int) ∈ lw_tbl := List.mem_of_getElem? (i := 380) (by decide +kernel)
set_option maxRecDepth 100000 in
theorem wt509 : Cond.methodLink RX3 65 yX3_lastClosing ∈ lw_tbl := List.mem_of_getElem? (i := 381) (by decide +kernel)
set_option maxRecDepth 100000 in
theorem wt510 : Cond.instanceMethod yX3_lastClosing ∈ lw_tbl := List.mem_of_getElem? (i := 382) (by decide +kernel)
set_option maxRecDepth 100000 in
theorem wt511 : Cond.selects RX3 yX3_lastClosing yX3_lastClosing ∈ lw_tbl := List.mem_of_getElem? (i := 383) (by decide +kernel)
set_option maxRecDepth 100000 in
theorem wt512 : Cond.code yX3_lastClosing cX3_lastClosing 2 (some .int) ∈ lw_tbl := List.mem_of_getElem? (i := 384) (by decide +kernel)
set_option maxRecDepth 100000 in
theorem wt562 : Cond.methodLink RL 141 yX14_post ∈ lw_tbl := List.mem_of_getElem? (i := 1359) (by decide +kernel)
set_option maxRecDepth 100000 in
theorem wt563 : Cond.instanceMethod yX14_post ∈ lw_tbl := List.mem_of_getElem? (i := 1360) (by decide +kernel)
set_option maxRecDepth 100000 in
theorem wt564 : Cond.selects RX14 yX14_post yX14_post ∈ lw_tbl := List.mem_of_getElem? (i := 1361) (by decide +kernel)
set_option maxRecDepth 100000 in
theorem wt565 : Cond.code yX14_post cX14_post 2 (some .int) ∈ lw_tbl := List.mem_of_getElem? (i := 1362) (by decide +kernel)
set_option maxRecDepth 100000 in
theorem wt566 : Cond.methodLink RX14 203 yX14_reasonNow ∈ lw_tbl := List.mem_of_getElem? (i := 1315) (by decide +kernel)
set_option maxRecDepth 100000 in
theorem wt567 : Cond.instanceMethod yX14_reasonNow ∈ lw_tbl := List.mem_of_getElem? (i := 1317) (by decide +kernel)
set_option maxRecDepth 100000 in
theorem wt568 : Cond.selects RX14 yX14_reasonNow yX14_reasonNow ∈ lw_tbl := List.mem_of_getElem? (i := 43) (by decide +kernel)
set_option maxRecDepth 100000 in
theorem wt569 : Cond.code yX14_reasonNow cX14_reasonNow 3 (some .int) ∈ lw_tbl := List.mem_of_getElem? (i := 1318) (by decide +kernel)
set_option maxRecDepth 100000 in
theorem wt612 : Cond.methodLink RL 142 yX7_reason ∈ lw_tbl := List.mem_of_getElem? (i := 369) (by decide +kernel)
set_option maxRecDepth 100000 in
theorem wt613 : Cond.instanceMethod yX7_reason ∈ lw_tbl := List.mem_of_getElem? (i := 370) (by decide +kernel)
set_option maxRecDepth 100000 in
theorem wt614 : Cond.selects RX7 yX7_reason yX7_reason ∈ lw_tbl := List.mem_of_getElem? (i := 371) (by decide +kernel)
set_option maxRecDepth 100000 in
theorem wt615 : Cond.code yX7_reason cX7_reason 1 (some .int) ∈ lw_tbl := List.mem_of_getElem? (i := 372) (by decide +kernel)
theorem wr_8 : ∀ w ∈ zw_8, w ∈ lw_tbl := List.forall_mem_cons.mpr ⟨wt456, List.forall_mem_cons.mpr ⟨wt457, List.forall_mem_cons.mpr ⟨wt458, List.forall_mem_cons.mpr ⟨wt459, List.forall_mem_cons.mpr ⟨wt474, List.forall_mem_cons.mpr ⟨wt475, List.forall_mem_cons.mpr ⟨wt476, List.forall_mem_cons.mpr ⟨wt477, List.forall_mem_cons.mpr ⟨wt491, List.forall_mem_cons.mpr ⟨wt492, List.forall_mem_cons.mpr ⟨wt493, List.forall_mem_cons.mpr ⟨wt494, List.forall_mem_cons.mpr ⟨wt495, List.forall_mem_cons.mpr ⟨wt496, List.forall_mem_cons.mpr ⟨wt497, List.forall_mem_cons.mpr ⟨wt498, List.forall_mem_cons.mpr ⟨wt501, List.forall_mem_cons.mpr ⟨wt502, List.forall_mem_cons.mpr ⟨wt503, List.forall_mem_cons.mpr ⟨wt504, List.forall_mem_cons.mpr ⟨wt505, List.forall_mem_cons.mpr ⟨wt506, List.forall_mem_cons.mpr ⟨wt507, List.forall_mem_cons.mpr ⟨wt508, List.forall_mem_cons.mpr ⟨wt509, List.forall_mem_cons.mpr ⟨wt510, List.forall_mem_cons.mpr ⟨wt511, List.forall_mem_cons.mpr ⟨wt512, List.forall_mem_cons.mpr ⟨wt562, List.forall_mem_cons.mpr ⟨wt563, List.forall_mem_cons.mpr ⟨wt564, List.forall_mem_cons.mpr ⟨wt565, List.forall_mem_cons.mpr ⟨wt566, List.forall_mem_cons.mpr ⟨wt567, List.forall_mem_cons.mpr ⟨wt568, List.forall_mem_cons.mpr ⟨wt569, List.forall_mem_cons.mpr ⟨wt612, List.forall_mem_cons.mpr ⟨wt613, List.forall_mem_cons.mpr ⟨wt614, List.forall_mem_cons.mpr ⟨wt615, fun _ h => absurd h List.not_mem_nil⟩⟩⟩⟩⟩⟩⟩⟩⟩⟩⟩⟩⟩⟩⟩⟩⟩⟩⟩⟩⟩⟩⟩⟩⟩⟩⟩⟩⟩⟩⟩⟩⟩⟩⟩⟩⟩⟩⟩⟩
set_option maxRecDepth 100000 in
theorem wt616 : Cond.methodLink RL 145 yX14_reason ∈ lw_tbl := List.mem_of_getElem? (i := 1311) (by decide +kernel)
set_option maxRecDepth 100000 in
theorem wt617 : Cond.instanceMethod yX14_reason ∈ lw_tbl := List.mem_of_getElem? (i := 1312) (by decide +kernel)
set_option maxRecDepth 100000 in
theorem wt618 : Cond.selects RX14 yX14_reason yX14_reason ∈ lw_tbl := List.mem_of_getElem? (i := 1313) (by decide +kernel)
set_option maxRecDepth 100000 in
theorem wt619 : Cond.code yX14_reason cX14_reason 1 (some .int) ∈ lw_tbl := List.mem_of_getElem? (i := 1314) (by decide +kernel)
set_option maxRecDepth 100000 in
theorem wt620 : Cond.methodLink RL 146 yL_turnBack ∈ lw_tbl := List.mem_of_getElem? (i := 830) (by decide +kernel)
set_option maxRecDepth 100000 in
theorem wt621 : Cond.static yL_turnBack ∈ lw_tbl := List.mem_of_getElem? (i := 831) (by decide +kernel)
set_option maxRecDepth 100000 in
theorem wt622 : Cond.codeWith yL_turnBack cL_turnBack 4 (some .int) [(0, 9, 12, 24), (0, 9, 15, 15)] ∈ lw_tbl := List.mem_of_getElem? (i := 832) (by decide +kernel)
set_option maxRecDepth 100000 in
theorem wt623 : Cond.methodLink RL 43 yX7_turnBack ∈ lw_tbl := List.mem_of_getElem? (i := 833) (by decide +kernel)
set_option maxRecDepth 100000 in
theorem wt624 : Cond.instanceMethod yX7_turnBack ∈ lw_tbl := List.mem_of_getElem? (i := 834) (by decide +kernel)
set_option maxRecDepth 100000 in
theorem wt625 : Cond.selects RX7 yX7_turnBack yX7_turnBack ∈ lw_tbl := List.mem_of_getElem? (i := 835) (by decide +kernel)
set_option maxRecDepth 100000 in
theorem wt626 : Cond.code yX7_turnBack cX7_turnBack 2 (some .int) ∈ lw_tbl := List.mem_of_getElem? (i := 836) (by decide +kernel)
set_option maxRecDepth 100000 in
theorem wt630 : Cond.methodLink RX7 188 yX3_has ∈ lw_tbl := List.mem_of_getElem? (i := 676) (by decide +kernel)
set_option maxRecDepth 100000 in
theorem wt631 : Cond.instanceMethod yX3_has ∈ lw_tbl := List.mem_of_getElem? (i := 677) (by decide +kernel)
set_option maxRecDepth 100000 in
theorem wt632 : Cond.selects RX3 yX3_has yX3_has ∈ lw_tbl := List.mem_of_getElem? (i := 678) (by decide +kernel)
set_option maxRecDepth 100000 in
theorem wt633 : Cond.code yX3_has cX3_has 2 (some .boolean) ∈ lw_tbl := List.mem_of_getElem? (i := 679) (by decide +kernel)
set_option maxRecDepth 100000 in
theorem wt646 : Cond.methodLink RL 148 yX14_turnBack ∈ lw_tbl := List.mem_of_getElem? (i := 1396) (by decide +kernel)
set_option maxRecDepth 100000 in
theorem wt647 : Cond.instanceMethod yX14_turnBack ∈ lw_tbl := List.mem_of_getElem? (i := 1397) (by decide +kernel)
set_option maxRecDepth 100000 in
theorem wt648 : Cond.selects RX14 yX14_turnBack yX14_turnBack ∈ lw_tbl := List.mem_of_getElem? (i := 1398) (by decide +kernel)
set_option maxRecDepth 100000 in
theorem wt649 : Cond.code yX14_turnBack cX14_turnBack 5 (some .int) ∈ lw_tbl := List.mem_of_getElem? (i := 1399) (by decide +kernel)
set_option maxRecDepth 100000 in
theorem wt652 : Cond.methodLink RX14 213 yX14_isNoEntry ∈ lw_tbl := List.mem_of_getElem? (i := 1400) (by decide +kernel)
set_option maxRecDepth 100000 in
theorem wt653 : Cond.instanceMethod yX14_isNoEntry ∈ lw_tbl := List.mem_of_getElem? (i := 1402) (by decide +kernel)
set_option maxRecDepth 100000 in
theorem wt654 : Cond.selects RX14 yX14_isNoEntry yX14_isNoEntry ∈ lw_tbl := List.mem_of_getElem? (i := 49) (by decide +kernel)
set_option maxRecDepth 100000 in
theorem wt655 : Cond.code yX14_isNoEntry cX14_isNoEntry 2 (some .boolean) ∈ lw_tbl := List.mem_of_getElem? (i := 1403) (by decide +kernel)
set_option maxRecDepth 100000 in
theorem wt656 : Cond.methodLink RL 149 yL_ofEntry ∈ lw_tbl := List.mem_of_getElem? (i := 847) (by decide +kernel)
set_option maxRecDepth 100000 in
theorem wt657 : Cond.static yL_ofEntry ∈ lw_tbl := List.mem_of_getElem? (i := 848) (by decide +kernel)
set_option maxRecDepth 100000 in
theorem wt658 : Cond.codeWith yL_ofEntry cL_ofEntry 5 (some .int) [(0, 10, 13, 24), (0, 10, 17, 13)] ∈ lw_tbl := List.mem_of_getElem? (i := 849) (by decide +kernel)
set_option maxRecDepth 100000 in
theorem wt659 : Cond.methodLink RL 46 yX7_ofEntry ∈ lw_tbl := List.mem_of_getElem? (i := 850) (by decide +kernel)
set_option maxRecDepth 100000 in
theorem wt660 : Cond.instanceMethod yX7_ofEntry ∈ lw_tbl := List.mem_of_getElem? (i := 669) (by decide +kernel)
set_option maxRecDepth 100000 in
theorem wt661 : Cond.selects RX7 yX7_ofEntry yX7_ofEntry ∈ lw_tbl := List.mem_of_getElem? (i := 670) (by decide +kernel)
set_option maxRecDepth 100000 in
theorem wt662 : Cond.code yX7_ofEntry cX7_ofEntry 3 (some .int) ∈ lw_tbl := List.mem_of_getElem? (i := 671) (by decide +kernel)
set_option maxRecDepth 100000 in
theorem wt664 : Cond.methodLink RX7 212 yX7_needEntry ∈ lw_tbl := List.mem_of_getElem? (i := 672) (by decide +kernel)
set_option maxRecDepth 100000 in
theorem wt665 : Cond.instanceMethod yX7_needEntry ∈ lw_tbl := List.mem_of_getElem? (i := 674) (by decide +kernel)
set_option maxRecDepth 100000 in
theorem wt666 : Cond.selects RX7 yX7_needEntry yX7_needEntry ∈ lw_tbl := List.mem_of_getElem? (i := 21) (by decide +kernel)
set_option maxRecDepth 100000 in
theorem wt667 : Cond.code yX7_needEntry cX7_needEntry 2 none ∈ lw_tbl := List.mem_of_getElem? (i := 675) (by decide +kernel)
set_option maxRecDepth 100000 in
theorem wt668 : Cond.methodLink RL 151 yX14_ofEntry ∈ lw_tbl := List.mem_of_getElem? (i := 1404) (by decide +kernel)
set_option maxRecDepth 100000 in
theorem wt669 : Cond.instanceMethod yX14_ofEntry ∈ lw_tbl := List.mem_of_getElem? (i := 1405) (by decide +kernel)
set_option maxRecDepth 100000 in
theorem wt670 : Cond.selects RX14 yX14_ofEntry yX14_ofEntry ∈ lw_tbl := List.mem_of_getElem? (i := 1406) (by decide +kernel)
set_option maxRecDepth 100000 in
theorem wt671 : Cond.code yX14_ofEntry cX14_ofEntry 3 (some .int) ∈ lw_tbl := List.mem_of_getElem? (i := 1407) (by decide +kernel)
set_option maxRecDepth 100000 in
theorem wt675 : Cond.methodLink RL 152 yL_ofLeg ∈ lw_tbl := List.mem_of_getElem? (i := 851) (by decide +kernel)
set_option maxRecDepth 100000 in
theorem wt676 : Cond.static yL_ofLeg ∈ lw_tbl := List.mem_of_getElem? (i := 852) (by decide +kernel)
theorem wr_9 : ∀ w ∈ zw_9, w ∈ lw_tbl := List.forall_mem_cons.mpr ⟨wt616, List.forall_mem_cons.mpr ⟨wt617, List.forall_mem_cons.mpr ⟨wt618, List.forall_mem_cons.mpr ⟨wt619, List.forall_mem_cons.mpr ⟨wt620, List.forall_mem_cons.mpr ⟨wt621, List.forall_mem_cons.mpr ⟨wt622, List.forall_mem_cons.mpr ⟨wt623, List.forall_mem_cons.mpr ⟨wt624, List.forall_mem_cons.mpr ⟨wt625, List.forall_mem_cons.mpr ⟨wt626, List.forall_mem_cons.mpr ⟨wt630, List.forall_mem_cons.mpr ⟨wt631, List.forall_mem_cons.mpr ⟨wt632, List.forall_mem_cons.mpr ⟨wt633, List.forall_mem_cons.mpr ⟨wt646, List.forall_mem_cons.mpr ⟨wt647, List.forall_mem_cons.mpr ⟨wt648, List.forall_mem_cons.mpr ⟨wt649, List.forall_mem_cons.mpr ⟨wt652, List.forall_mem_cons.mpr ⟨wt653, List.forall_mem_cons.mpr ⟨wt654, List.forall_mem_cons.mpr ⟨wt655, List.forall_mem_cons.mpr ⟨wt656, List.forall_mem_cons.mpr ⟨wt657, List.forall_mem_cons.mpr ⟨wt658, List.forall_mem_cons.mpr ⟨wt659, List.forall_mem_cons.mpr ⟨wt660, List.forall_mem_cons.mpr ⟨wt661, List.forall_mem_cons.mpr ⟨wt662, List.forall_mem_cons.mpr ⟨wt664, List.forall_mem_cons.mpr ⟨wt665, List.forall_mem_cons.mpr ⟨wt666, List.forall_mem_cons.mpr ⟨wt667, List.forall_mem_cons.mpr ⟨wt668, List.forall_mem_cons.mpr ⟨wt669, List.forall_mem_cons.mpr ⟨wt670, List.forall_mem_cons.mpr ⟨wt671, List.forall_mem_cons.mpr ⟨wt675, List.forall_mem_cons.mpr ⟨wt676, fun _ h => absurd h List.not_mem_nil⟩⟩⟩⟩⟩⟩⟩⟩⟩⟩⟩⟩⟩⟩⟩⟩⟩⟩⟩⟩⟩⟩⟩⟩⟩⟩⟩⟩⟩⟩⟩⟩⟩⟩⟩⟩⟩⟩⟩⟩
set_option maxRecDepth 100000 in
theorem wt677 : Cond.codeWith yL_ofLeg cL_ofLeg 6 (some .int) [(0, 11, 14, 24), (0, 11, 18, 13)] ∈ lw_tbl := List.mem_of_getElem? (i := 853) (by decide +kernel)
set_option maxRecDepth 100000 in
theorem wt678 : Cond.methodLink RL 49 yX7_ofLeg ∈ lw_tbl := List.mem_of_getElem? (i := 854) (by decide +kernel)
set_option maxRecDepth 100000 in
theorem wt679 : Cond.instanceMethod yX7_ofLeg ∈ lw_tbl := List.mem_of_getElem? (i := 683) (by decide +kernel)
set_option maxRecDepth 100000 in
theorem wt680 : Cond.selects RX7 yX7_ofLeg yX7_ofLeg ∈ lw_tbl := List.mem_of_getElem? (i := 684) (by decide +kernel)
set_option maxRecDepth 100000 in
theorem wt681 : Cond.code yX7_ofLeg cX7_ofLeg 5 (some .long) ∈ lw_tbl := List.mem_of_getElem? (i := 685) (by decide +kernel)
set_option maxRecDepth 100000 in
theorem wt684 : Cond.methodLink RL 155 yX14_ofLeg ∈ lw_tbl := List.mem_of_getElem? (i := 1411) (by decide +kernel)
set_option maxRecDepth 100000 in
theorem wt685 : Cond.instanceMethod yX14_ofLeg ∈ lw_tbl := List.mem_of_getElem? (i := 1412) (by decide +kernel)
set_option maxRecDepth 100000 in
theorem wt686 : Cond.selects RX14 yX14_ofLeg yX14_ofLeg ∈ lw_tbl := List.mem_of_getElem? (i := 1413) (by decide +kernel)
set_option maxRecDepth 100000 in
theorem wt687 : Cond.code yX14_ofLeg cX14_ofLeg 4 (some .long) ∈ lw_tbl := List.mem_of_getElem? (i := 1414) (by decide +kernel)
set_option maxRecDepth 100000 in
theorem wt695 : Cond.methodLink RL 156 yL_hold ∈ lw_tbl := List.mem_of_getElem? (i := 855) (by decide +kernel)
set_option maxRecDepth 100000 in
theorem wt696 : Cond.static yL_hold ∈ lw_tbl := List.mem_of_getElem? (i := 856) (by decide +kernel)
set_option maxRecDepth 100000 in
theorem wt697 : Cond.codeWith yL_hold cL_hold 6 (some .int) [(0, 12, 15, 24), (0, 12, 19, 13), (0, 12, 23, 15)] ∈ lw_tbl := List.mem_of_getElem? (i := 857) (by decide +kernel)
set_option maxRecDepth 100000 in
theorem wt698 : Cond.methodLink RL 53 yX7_hold ∈ lw_tbl := List.mem_of_getElem? (i := 858) (by decide +kernel)
set_option maxRecDepth 100000 in
theorem wt699 : Cond.instanceMethod yX7_hold ∈ lw_tbl := List.mem_of_getElem? (i := 859) (by decide +kernel)
set_option maxRecDepth 100000 in
theorem wt700 : Cond.selects RX7 yX7_hold yX7_hold ∈ lw_tbl := List.mem_of_getElem? (i := 860) (by decide +kernel)
set_option maxRecDepth 100000 in
theorem wt701 : Cond.code yX7_hold cX7_hold 4 (some .int) ∈ lw_tbl := List.mem_of_getElem? (i := 861) (by decide +kernel)
set_option maxRecDepth 100000 in
theorem wt703 : Cond.fieldLink RX7 245 "Tollgate$Holds" "count" "I" ∈ lw_tbl := List.mem_of_getElem? (i := 272) (by decide +kernel)
set_option maxRecDepth 100000 in
theorem wt712 : Cond.methodLink RL 158 yX14_hold ∈ lw_tbl := List.mem_of_getElem? (i := 1420) (by decide +kernel)
set_option maxRecDepth 100000 in
theorem wt713 : Cond.instanceMethod yX14_hold ∈ lw_tbl := List.mem_of_getElem? (i := 1421) (by decide +kernel)
set_option maxRecDepth 100000 in
theorem wt714 : Cond.selects RX14 yX14_hold yX14_hold ∈ lw_tbl := List.mem_of_getElem? (i := 1422) (by decide +kernel)
set_option maxRecDepth 100000 in
theorem wt715 : Cond.code yX14_hold cX14_hold 5 (some .int) ∈ lw_tbl := List.mem_of_getElem? (i := 1423) (by decide +kernel)
set_option maxRecDepth 100000 in
theorem wt725 : Cond.methodLink RL 159 yL_take ∈ lw_tbl := List.mem_of_getElem? (i := 869) (by decide +kernel)
set_option maxRecDepth 100000 in
theorem wt726 : Cond.static yL_take ∈ lw_tbl := List.mem_of_getElem? (i := 870) (by decide +kernel)
set_option maxRecDepth 100000 in
theorem wt727 : Cond.codeWith yL_take cL_take 6 (some .int) [(0, 12, 15, 24), (0, 12, 19, 13), (0, 12, 23, 15)] ∈ lw_tbl := List.mem_of_getElem? (i := 871) (by decide +kernel)
set_option maxRecDepth 100000 in
theorem wt728 : Cond.methodLink RL 57 yX7_take ∈ lw_tbl := List.mem_of_getElem? (i := 872) (by decide +kernel)
set_option maxRecDepth 100000 in
theorem wt729 : Cond.instanceMethod yX7_take ∈ lw_tbl := List.mem_of_getElem? (i := 873) (by decide +kernel)
set_option maxRecDepth 100000 in
theorem wt730 : Cond.selects RX7 yX7_take yX7_take ∈ lw_tbl := List.mem_of_getElem? (i := 874) (by decide +kernel)
set_option maxRecDepth 100000 in
theorem wt731 : Cond.code yX7_take cX7_take 5 (some .int) ∈ lw_tbl := List.mem_of_getElem? (i := 875) (by decide +kernel)
set_option maxRecDepth 100000 in
theorem wt735 : Cond.methodLink RX7 257 yX7_needHold ∈ lw_tbl := List.mem_of_getElem? (i := 876) (by decide +kernel)
set_option maxRecDepth 100000 in
theorem wt736 : Cond.instanceMethod yX7_needHold ∈ lw_tbl := List.mem_of_getElem? (i := 878) (by decide +kernel)
set_option maxRecDepth 100000 in
theorem wt737 : Cond.selects RX7 yX7_needHold yX7_needHold ∈ lw_tbl := List.mem_of_getElem? (i := 26) (by decide +kernel)
set_option maxRecDepth 100000 in
theorem wt738 : Cond.code yX7_needHold cX7_needHold 2 none ∈ lw_tbl := List.mem_of_getElem? (i := 879) (by decide +kernel)
set_option maxRecDepth 100000 in
theorem wt748 : Cond.methodLink RL 161 yX14_take ∈ lw_tbl := List.mem_of_getElem? (i := 1445) (by decide +kernel)
set_option maxRecDepth 100000 in
theorem wt749 : Cond.instanceMethod yX14_take ∈ lw_tbl := List.mem_of_getElem? (i := 1446) (by decide +kernel)
set_option maxRecDepth 100000 in
theorem wt750 : Cond.selects RX14 yX14_take yX14_take ∈ lw_tbl := List.mem_of_getElem? (i := 1447) (by decide +kernel)
set_option maxRecDepth 100000 in
theorem wt751 : Cond.code yX14_take cX14_take 7 (some .int) ∈ lw_tbl := List.mem_of_getElem? (i := 1448) (by decide +kernel)
set_option maxRecDepth 100000 in
theorem wt753 : Cond.methodLink RX14 244 yX14_isNoHold ∈ lw_tbl := List.mem_of_getElem? (i := 1449) (by decide +kernel)
set_option maxRecDepth 100000 in
theorem wt754 : Cond.instanceMethod yX14_isNoHold ∈ lw_tbl := List.mem_of_getElem? (i := 1451) (by decide +kernel)
set_option maxRecDepth 100000 in
theorem wt755 : Cond.selects RX14 yX14_isNoHold yX14_isNoHold ∈ lw_tbl := List.mem_of_getElem? (i := 51) (by decide +kernel)
set_option maxRecDepth 100000 in
theorem wt756 : Cond.code yX14_isNoHold cX14_isNoHold 2 (some .boolean) ∈ lw_tbl := List.mem_of_getElem? (i := 1452) (by decide +kernel)
theorem wr_10 : ∀ w ∈ zw_10, w ∈ lw_tbl := List.forall_mem_cons.mpr ⟨wt677, List.forall_mem_cons.mpr ⟨wt678, List.forall_mem_cons.mpr ⟨wt679, List.forall_mem_cons.mpr ⟨wt680, List.forall_mem_cons.mpr ⟨wt681, List.forall_mem_cons.mpr ⟨wt684, List.forall_mem_cons.mpr ⟨wt685, List.forall_mem_cons.mpr ⟨wt686, List.forall_mem_cons.mpr ⟨wt687, List.forall_mem_cons.mpr ⟨wt695, List.forall_mem_cons.mpr ⟨wt696, List.forall_mem_cons.mpr ⟨wt697, List.forall_mem_cons.mpr ⟨wt698, List.forall_mem_cons.mpr ⟨wt699, List.forall_mem_cons.mpr ⟨wt700, List.forall_mem_cons.mpr ⟨wt701, List.forall_mem_cons.mpr ⟨wt703, List.forall_mem_cons.mpr ⟨wt712, List.forall_mem_cons.mpr ⟨wt713, List.forall_mem_cons.mpr ⟨wt714, List.forall_mem_cons.mpr ⟨wt715, List.forall_mem_cons.mpr ⟨wt725, List.forall_mem_cons.mpr ⟨wt726, List.forall_mem_cons.mpr ⟨wt727, List.forall_mem_cons.mpr ⟨wt728, List.forall_mem_cons.mpr ⟨wt729, List.forall_mem_cons.mpr ⟨wt730, List.forall_mem_cons.mpr ⟨wt731, List.forall_mem_cons.mpr ⟨wt735, List.forall_mem_cons.mpr ⟨wt736, List.forall_mem_cons.mpr ⟨wt737, List.forall_mem_cons.mpr ⟨wt738, List.forall_mem_cons.mpr ⟨wt748, List.forall_mem_cons.mpr ⟨wt749, List.forall_mem_cons.mpr ⟨wt750, List.forall_mem_cons.mpr ⟨wt751, List.forall_mem_cons.mpr ⟨wt753, List.forall_mem_cons.mpr ⟨wt754, List.forall_mem_cons.mpr ⟨wt755, List.forall_mem_cons.mpr ⟨wt756, fun _ h => absurd h List.not_mem_nil⟩⟩⟩⟩⟩⟩⟩⟩⟩⟩⟩⟩⟩⟩⟩⟩⟩⟩⟩⟩⟩⟩⟩⟩⟩⟩⟩⟩⟩⟩⟩⟩⟩⟩⟩⟩⟩⟩⟩⟩
set_option maxRecDepth 100000 in
theorem wt757 : Cond.methodLink RL 162 yL_letGo ∈ lw_tbl := List.mem_of_getElem? (i := 892) (by decide +kernel)
set_option maxRecDepth 100000 in
theorem wt758 : Cond.static yL_letGo ∈ lw_tbl := List.mem_of_getElem? (i := 893) (by decide +kernel)
set_option maxRecDepth 100000 in
theorem wt759 : Cond.codeWith yL_letGo cL_letGo 4 (some .int) [(0, 9, 12, 24), (0, 9, 15, 15)] ∈ lw_tbl := List.mem_of_getElem? (i := 894) (by decide +kernel)
set_option maxRecDepth 100000 in
theorem wt760 : Cond.methodLink RL 60 yX7_letGo ∈ lw_tbl := List.mem_of_getElem? (i := 895) (by decide +kernel)
set_option maxRecDepth 100000 in
theorem wt761 : Cond.instanceMethod yX7_letGo ∈ lw_tbl := List.mem_of_getElem? (i := 896) (by decide +kernel)
set_option maxRecDepth 100000 in
theorem wt762 : Cond.selects RX7 yX7_letGo yX7_letGo ∈ lw_tbl := List.mem_of_getElem? (i := 897) (by decide +kernel)
set_option maxRecDepth 100000 in
theorem wt763 : Cond.code yX7_letGo cX7_letGo 2 (some .int) ∈ lw_tbl := List.mem_of_getElem? (i := 898) (by decide +kernel)
set_option maxRecDepth 100000 in
theorem wt764 : Cond.methodLink RL 164 yX14_letGo ∈ lw_tbl := List.mem_of_getElem? (i := 1453) (by decide +kernel)
set_option maxRecDepth 100000 in
theorem wt765 : Cond.instanceMethod yX14_letGo ∈ lw_tbl := List.mem_of_getElem? (i := 1454) (by decide +kernel)
set_option maxRecDepth 100000 in
theorem wt766 : Cond.selects RX14 yX14_letGo yX14_letGo ∈ lw_tbl := List.mem_of_getElem? (i := 1455) (by decide +kernel)
set_option maxRecDepth 100000 in
theorem wt767 : Cond.code yX14_letGo cX14_letGo 2 (some .int) ∈ lw_tbl := List.mem_of_getElem? (i := 1456) (by decide +kernel)
set_option maxRecDepth 100000 in
theorem wt768 : Cond.methodLink RL 165 yL_close ∈ lw_tbl := List.mem_of_getElem? (i := 899) (by decide +kernel)
set_option maxRecDepth 100000 in
theorem wt769 : Cond.static yL_close ∈ lw_tbl := List.mem_of_getElem? (i := 900) (by decide +kernel)
set_option maxRecDepth 100000 in
theorem wt770 : Cond.codeWith yL_close cL_close 5 (some .int) [(0, 10, 13, 24), (0, 10, 17, 13), (0, 10, 21, 15)] ∈ lw_tbl := List.mem_of_getElem? (i := 901) (by decide +kernel)
set_option maxRecDepth 100000 in
theorem wt771 : Cond.methodLink RL 63 yX7_close ∈ lw_tbl := List.mem_of_getElem? (i := 902) (by decide +kernel)
set_option maxRecDepth 100000 in
theorem wt772 : Cond.instanceMethod yX7_close ∈ lw_tbl := List.mem_of_getElem? (i := 903) (by decide +kernel)
set_option maxRecDepth 100000 in
theorem wt773 : Cond.selects RX7 yX7_close yX7_close ∈ lw_tbl := List.mem_of_getElem? (i := 904) (by decide +kernel)
set_option maxRecDepth 100000 in
theorem wt774 : Cond.code yX7_close cX7_close 5 (some .int) ∈ lw_tbl := List.mem_of_getElem? (i := 905) (by decide +kernel)
set_option maxRecDepth 100000 in
theorem wt775 : Cond.methodLink RX7 286 yX7_planClosing ∈ lw_tbl := List.mem_of_getElem? (i := 705) (by decide +kernel)
set_option maxRecDepth 100000 in
theorem wt776 : Cond.instanceMethod yX7_planClosing ∈ lw_tbl := List.mem_of_getElem? (i := 707) (by decide +kernel)
set_option maxRecDepth 100000 in
theorem wt777 : Cond.selects RX7 yX7_planClosing yX7_planClosing ∈ lw_tbl := List.mem_of_getElem? (i := 22) (by decide +kernel)
set_option maxRecDepth 100000 in
theorem wt778 : Cond.code yX7_planClosing cX7_planClosing 5 none ∈ lw_tbl := List.mem_of_getElem? (i := 708) (by decide +kernel)
set_option maxRecDepth 100000 in
theorem wt783 : Cond.methodLink RL 167 yX14_close ∈ lw_tbl := List.mem_of_getElem? (i := 1457) (by decide +kernel)
set_option maxRecDepth 100000 in
theorem wt784 : Cond.instanceMethod yX14_close ∈ lw_tbl := List.mem_of_getElem? (i := 1458) (by decide +kernel)
set_option maxRecDepth 100000 in
theorem wt785 : Cond.selects RX14 yX14_close yX14_close ∈ lw_tbl := List.mem_of_getElem? (i := 1459) (by decide +kernel)
set_option maxRecDepth 100000 in
theorem wt786 : Cond.code yX14_close cX14_close 8 (some .int) ∈ lw_tbl := List.mem_of_getElem? (i := 1460) (by decide +kernel)
set_option maxRecDepth 100000 in
theorem wt787 : Cond.methodLink RX14 253 yX14_results ∈ lw_tbl := List.mem_of_getElem? (i := 1461) (by decide +kernel)
set_option maxRecDepth 100000 in
theorem wt788 : Cond.instanceMethod yX14_results ∈ lw_tbl := List.mem_of_getElem? (i := 1463) (by decide +kernel)
set_option maxRecDepth 100000 in
theorem wt789 : Cond.selects RX14 yX14_results yX14_results ∈ lw_tbl := List.mem_of_getElem? (i := 52) (by decide +kernel)
set_option maxRecDepth 100000 in
theorem wt790 : Cond.code yX14_results cX14_results 6 (some (.object "java/util/ArrayList")) ∈ lw_tbl := List.mem_of_getElem? (i := 1464) (by decide +kernel)
set_option maxRecDepth 100000 in
theorem wt812 : Cond.methodLink RL 168 yL_open ∈ lw_tbl := List.mem_of_getElem? (i := 908) (by decide +kernel)
set_option maxRecDepth 100000 in
theorem wt813 : Cond.static yL_open ∈ lw_tbl := List.mem_of_getElem? (i := 909) (by decide +kernel)
set_option maxRecDepth 100000 in
theorem wt814 : Cond.codeWith yL_open cL_open 3 (some .int) [(0, 8, 11, 15)] ∈ lw_tbl := List.mem_of_getElem? (i := 910) (by decide +kernel)
set_option maxRecDepth 100000 in
theorem wt815 : Cond.methodLink RL 66 yX7_open ∈ lw_tbl := List.mem_of_getElem? (i := 911) (by decide +kernel)
set_option maxRecDepth 100000 in
theorem wt816 : Cond.instanceMethod yX7_open ∈ lw_tbl := List.mem_of_getElem? (i := 912) (by decide +kernel)
set_option maxRecDepth 100000 in
theorem wt817 : Cond.selects RX7 yX7_open yX7_open ∈ lw_tbl := List.mem_of_getElem? (i := 913) (by decide +kernel)
set_option maxRecDepth 100000 in
theorem wt818 : Cond.code yX7_open cX7_open 2 (some .int) ∈ lw_tbl := List.mem_of_getElem? (i := 914) (by decide +kernel)
set_option maxRecDepth 100000 in
theorem wt819 : Cond.methodLink RX7 293 yX3_lastClosing ∈ lw_tbl := List.mem_of_getElem? (i := 915) (by decide +kernel)
set_option maxRecDepth 100000 in
theorem wt830 : Cond.methodLink RL 170 yX14_open ∈ lw_tbl := List.mem_of_getElem? (i := 1489) (by decide +kernel)
set_option maxRecDepth 100000 in
theorem wt831 : Cond.instanceMethod yX14_open ∈ lw_tbl := List.mem_of_getElem? (i := 1490) (by decide +kernel)
theorem wr_11 : ∀ w ∈ zw_11, w ∈ lw_tbl := List.forall_mem_cons.mpr ⟨wt757, List.forall_mem_cons.mpr ⟨wt758, List.forall_mem_cons.mpr ⟨wt759, List.forall_mem_cons.mpr ⟨wt760, List.forall_mem_cons.mpr ⟨wt761, List.forall_mem_cons.mpr ⟨wt762, List.forall_mem_cons.mpr ⟨wt763, List.forall_mem_cons.mpr ⟨wt764, List.forall_mem_cons.mpr ⟨wt765, List.forall_mem_cons.mpr ⟨wt766, List.forall_mem_cons.mpr ⟨wt767, List.forall_mem_cons.mpr ⟨wt768, List.forall_mem_cons.mpr ⟨wt769, List.forall_mem_cons.mpr ⟨wt770, List.forall_mem_cons.mpr ⟨wt771, List.forall_mem_cons.mpr ⟨wt772, List.forall_mem_cons.mpr ⟨wt773, List.forall_mem_cons.mpr ⟨wt774, List.forall_mem_cons.mpr ⟨wt775, List.forall_mem_cons.mpr ⟨wt776, List.forall_mem_cons.mpr ⟨wt777, List.forall_mem_cons.mpr ⟨wt778, List.forall_mem_cons.mpr ⟨wt783, List.forall_mem_cons.mpr ⟨wt784, List.forall_mem_cons.mpr ⟨wt785, List.forall_mem_cons.mpr ⟨wt786, List.forall_mem_cons.mpr ⟨wt787, List.forall_mem_cons.mpr ⟨wt788, List.forall_mem_cons.mpr ⟨wt789, List.forall_mem_cons.mpr ⟨wt790, List.forall_mem_cons.mpr ⟨wt812, List.forall_mem_cons.mpr ⟨wt813, List.forall_mem_cons.mpr ⟨wt814, List.forall_mem_cons.mpr ⟨wt815, List.forall_mem_cons.mpr ⟨wt816, List.forall_mem_cons.mpr ⟨wt817, List.forall_mem_cons.mpr ⟨wt818, List.forall_mem_cons.mpr ⟨wt819, List.forall_mem_cons.mpr ⟨wt830, List.forall_mem_cons.mpr ⟨wt831, fun _ h => absurd h List.not_mem_nil⟩⟩⟩⟩⟩⟩⟩⟩⟩⟩⟩⟩⟩⟩⟩⟩⟩⟩⟩⟩⟩⟩⟩⟩⟩⟩⟩⟩⟩⟩⟩⟩⟩⟩⟩⟩⟩⟩⟩⟩
set_option maxRecDepth 100000 in
theorem wt832 : Cond.selects RX14 yX14_open yX14_open ∈ lw_tbl := List.mem_of_getElem? (i := 1491) (by decide +kernel)
set_option maxRecDepth 100000 in
theorem wt833 : Cond.code yX14_open cX14_open 3 (some .int) ∈ lw_tbl := List.mem_of_getElem? (i := 1492) (by decide +kernel)
set_option maxRecDepth 100000 in
theorem wt835 : Cond.methodLink RX14 263 yJx4a65c_isEmpty_aae02 ∈ lw_tbl := List.mem_of_getElem? (i := 1493) (by decide +kernel)
set_option maxRecDepth 100000 in
theorem wt836 : Cond.instanceMethod yJx4a65c_isEmpty_aae02 ∈ lw_tbl := List.mem_of_getElem? (i := 1494) (by decide +kernel)
set_option maxRecDepth 100000 in
theorem wt837 : Cond.selects RJx4a65c yJx4a65c_isEmpty_aae02 yJx4a65c_isEmpty_aae02 ∈ lw_tbl := List.mem_of_getElem? (i := 1495) (by decide +kernel)
set_option maxRecDepth 100000 in
theorem wt838 : Cond.code yJx4a65c_isEmpty_aae02 cJx4a65c_isEmpty_aae02 1 (some .boolean) ∈ lw_tbl := List.mem_of_getElem? (i := 1496) (by decide +kernel)
set_option maxRecDepth 100000 in
theorem wt856 : Cond.methodLink RL 171 yL_line ∈ lw_tbl := List.mem_of_getElem? (i := 921) (by decide +kernel)
set_option maxRecDepth 100000 in
theorem wt857 : Cond.static yL_line ∈ lw_tbl := List.mem_of_getElem? (i := 922) (by decide +kernel)
set_option maxRecDepth 100000 in
theorem wt858 : Cond.codeWith yL_line cL_line 6 (some .int) [(0, 12, 15, 24), (0, 12, 19, 13), (0, 12, 23, 15)] ∈ lw_tbl := List.mem_of_getElem? (i := 923) (by decide +kernel)
set_option maxRecDepth 100000 in
theorem wt859 : Cond.methodLink RL 69 yX7_line ∈ lw_tbl := List.mem_of_getElem? (i := 924) (by decide +kernel)
set_option maxRecDepth 100000 in
theorem wt860 : Cond.instanceMethod yX7_line ∈ lw_tbl := List.mem_of_getElem? (i := 925) (by decide +kernel)
set_option maxRecDepth 100000 in
theorem wt861 : Cond.selects RX7 yX7_line yX7_line ∈ lw_tbl := List.mem_of_getElem? (i := 926) (by decide +kernel)
set_option maxRecDepth 100000 in
theorem wt862 : Cond.code yX7_line cX7_line 4 (some .int) ∈ lw_tbl := List.mem_of_getElem? (i := 927) (by decide +kernel)
set_option maxRecDepth 100000 in
theorem wt863 : Cond.fieldLink RX7 301 "Tollgate$Lines" "count" "I" ∈ lw_tbl := List.mem_of_getElem? (i := 300) (by decide +kernel)
set_option maxRecDepth 100000 in
theorem wt872 : Cond.methodLink RL 173 yX14_line ∈ lw_tbl := List.mem_of_getElem? (i := 1515) (by decide +kernel)
set_option maxRecDepth 100000 in
theorem wt873 : Cond.instanceMethod yX14_line ∈ lw_tbl := List.mem_of_getElem? (i := 1516) (by decide +kernel)
set_option maxRecDepth 100000 in
theorem wt874 : Cond.selects RX14 yX14_line yX14_line ∈ lw_tbl := List.mem_of_getElem? (i := 1517) (by decide +kernel)
set_option maxRecDepth 100000 in
theorem wt875 : Cond.code yX14_line cX14_line 4 (some .int) ∈ lw_tbl := List.mem_of_getElem? (i := 1518) (by decide +kernel)
set_option maxRecDepth 100000 in
theorem wt887 : Cond.methodLink RL 174 yL_match ∈ lw_tbl := List.mem_of_getElem? (i := 937) (by decide +kernel)
set_option maxRecDepth 100000 in
theorem wt888 : Cond.static yL_match ∈ lw_tbl := List.mem_of_getElem? (i := 938) (by decide +kernel)
set_option maxRecDepth 100000 in
theorem wt889 : Cond.codeWith yL_match cL_match 5 (some .int) [(0, 10, 13, 24), (0, 10, 17, 13)] ∈ lw_tbl := List.mem_of_getElem? (i := 939) (by decide +kernel)
set_option maxRecDepth 100000 in
theorem wt890 : Cond.methodLink RL 72 yX7_match ∈ lw_tbl := List.mem_of_getElem? (i := 940) (by decide +kernel)
set_option maxRecDepth 100000 in
theorem wt891 : Cond.instanceMethod yX7_match ∈ lw_tbl := List.mem_of_getElem? (i := 941) (by decide +kernel)
set_option maxRecDepth 100000 in
theorem wt892 : Cond.selects RX7 yX7_match yX7_match ∈ lw_tbl := List.mem_of_getElem? (i := 942) (by decide +kernel)
set_option maxRecDepth 100000 in
theorem wt893 : Cond.code yX7_match cX7_match 3 (some .int) ∈ lw_tbl := List.mem_of_getElem? (i := 943) (by decide +kernel)
set_option maxRecDepth 100000 in
theorem wt954 : Cond.methodLink RL 176 yX14_match ∈ lw_tbl := List.mem_of_getElem? (i := 1542) (by decide +kernel)
set_option maxRecDepth 100000 in
theorem wt955 : Cond.instanceMethod yX14_match ∈ lw_tbl := List.mem_of_getElem? (i := 1543) (by decide +kernel)
set_option maxRecDepth 100000 in
theorem wt956 : Cond.selects RX14 yX14_match yX14_match ∈ lw_tbl := List.mem_of_getElem? (i := 1544) (by decide +kernel)
set_option maxRecDepth 100000 in
theorem wt957 : Cond.code yX14_match cX14_match 7 (some .int) ∈ lw_tbl := List.mem_of_getElem? (i := 1545) (by decide +kernel)
set_option maxRecDepth 100000 in
theorem wt1004 : Cond.methodLink RL 177 yL_left ∈ lw_tbl := List.mem_of_getElem? (i := 948) (by decide +kernel)
set_option maxRecDepth 100000 in
theorem wt1005 : Cond.static yL_left ∈ lw_tbl := List.mem_of_getElem? (i := 949) (by decide +kernel)
set_option maxRecDepth 100000 in
theorem wt1006 : Cond.codeWith yL_left cL_left 5 (some .int) [(0, 9, 12, 24), (0, 9, 16, 13)] ∈ lw_tbl := List.mem_of_getElem? (i := 950) (by decide +kernel)
set_option maxRecDepth 100000 in
theorem wt1007 : Cond.methodLink RL 75 yX7_left ∈ lw_tbl := List.mem_of_getElem? (i := 951) (by decide +kernel)
set_option maxRecDepth 100000 in
theorem wt1008 : Cond.instanceMethod yX7_left ∈ lw_tbl := List.mem_of_getElem? (i := 594) (by decide +kernel)
set_option maxRecDepth 100000 in
theorem wt1009 : Cond.selects RX7 yX7_left yX7_left ∈ lw_tbl := List.mem_of_getElem? (i := 595) (by decide +kernel)
set_option maxRecDepth 100000 in
theorem wt1010 : Cond.code yX7_left cX7_left 3 (some .long) ∈ lw_tbl := List.mem_of_getElem? (i := 596) (by decide +kernel)
set_option maxRecDepth 100000 in
theorem wt1025 : Cond.methodLink RL 179 yX14_left ∈ lw_tbl := List.mem_of_getElem? (i := 1829) (by decide +kernel)
set_option maxRecDepth 100000 in
theorem wt1026 : Cond.instanceMethod yX14_left ∈ lw_tbl := List.mem_of_getElem? (i := 1830) (by decide +kernel)
set_option maxRecDepth 100000 in
theorem wt1027 : Cond.selects RX14 yX14_left yX14_left ∈ lw_tbl := List.mem_of_getElem? (i := 1831) (by decide +kernel)
set_option maxRecDepth 100000 in
theorem wt1028 : Cond.code yX14_left cX14_left 3 (some .long) ∈ lw_tbl := List.mem_of_getElem? (i := 1832) (by decide +kernel)
theorem wr_12 : ∀ w ∈ zw_12, w ∈ lw_tbl := List.forall_mem_cons.mpr ⟨wt832, List.forall_mem_cons.mpr ⟨wt833, List.forall_mem_cons.mpr ⟨wt835, List.forall_mem_cons.mpr ⟨wt836, List.forall_mem_cons.mpr ⟨wt837, List.forall_mem_cons.mpr ⟨wt838, List.forall_mem_cons.mpr ⟨wt856, List.forall_mem_cons.mpr ⟨wt857, List.forall_mem_cons.mpr ⟨wt858, List.forall_mem_cons.mpr ⟨wt859, List.forall_mem_cons.mpr ⟨wt860, List.forall_mem_cons.mpr ⟨wt861, List.forall_mem_cons.mpr ⟨wt862, List.forall_mem_cons.mpr ⟨wt863, List.forall_mem_cons.mpr ⟨wt872, List.forall_mem_cons.mpr ⟨wt873, List.forall_mem_cons.mpr ⟨wt874, List.forall_mem_cons.mpr ⟨wt875, List.forall_mem_cons.mpr ⟨wt887, List.forall_mem_cons.mpr ⟨wt888, List.forall_mem_cons.mpr ⟨wt889, List.forall_mem_cons.mpr ⟨wt890, List.forall_mem_cons.mpr ⟨wt891, List.forall_mem_cons.mpr ⟨wt892, List.forall_mem_cons.mpr ⟨wt893, List.forall_mem_cons.mpr ⟨wt954, List.forall_mem_cons.mpr ⟨wt955, List.forall_mem_cons.mpr ⟨wt956, List.forall_mem_cons.mpr ⟨wt957, List.forall_mem_cons.mpr ⟨wt1004, List.forall_mem_cons.mpr ⟨wt1005, List.forall_mem_cons.mpr ⟨wt1006, List.forall_mem_cons.mpr ⟨wt1007, List.forall_mem_cons.mpr ⟨wt1008, List.forall_mem_cons.mpr ⟨wt1009, List.forall_mem_cons.mpr ⟨wt1010, List.forall_mem_cons.mpr ⟨wt1025, List.forall_mem_cons.mpr ⟨wt1026, List.forall_mem_cons.mpr ⟨wt1027, List.forall_mem_cons.mpr ⟨wt1028, fun _ h => absurd h List.not_mem_nil⟩⟩⟩⟩⟩⟩⟩⟩⟩⟩⟩⟩⟩⟩⟩⟩⟩⟩⟩⟩⟩⟩⟩⟩⟩⟩⟩⟩⟩⟩⟩⟩⟩⟩⟩⟩⟩⟩⟩⟩
set_option maxRecDepth 100000 in
theorem wt1037 : Cond.methodLink RL 180 yL_matched ∈ lw_tbl := List.mem_of_getElem? (i := 952) (by decide +kernel)
set_option maxRecDepth 100000 in
theorem wt1038 : Cond.static yL_matched ∈ lw_tbl := List.mem_of_getElem? (i := 953) (by decide +kernel)
set_option maxRecDepth 100000 in
theorem wt1039 : Cond.codeWith yL_matched cL_matched 4 (some .int) [(0, 9, 12, 24)] ∈ lw_tbl := List.mem_of_getElem? (i := 954) (by decide +kernel)
set_option maxRecDepth 100000 in
theorem wt1040 : Cond.methodLink RL 78 yX7_matched ∈ lw_tbl := List.mem_of_getElem? (i := 955) (by decide +kernel)
set_option maxRecDepth 100000 in
theorem wt1041 : Cond.instanceMethod yX7_matched ∈ lw_tbl := List.mem_of_getElem? (i := 688) (by decide +kernel)
set_option maxRecDepth 100000 in
theorem wt1042 : Cond.selects RX7 yX7_matched yX7_matched ∈ lw_tbl := List.mem_of_getElem? (i := 689) (by decide +kernel)
set_option maxRecDepth 100000 in
theorem wt1043 : Cond.code yX7_matched cX7_matched 3 (some .int) ∈ lw_tbl := List.mem_of_getElem? (i := 690) (by decide +kernel)
set_option maxRecDepth 100000 in
theorem wt1046 : Cond.methodLink RL 182 yX14_matched_ ∈ lw_tbl := List.mem_of_getElem? (i := 1841) (by decide +kernel)
set_option maxRecDepth 100000 in
theorem wt1047 : Cond.instanceMethod yX14_matched_ ∈ lw_tbl := List.mem_of_getElem? (i := 1842) (by decide +kernel)
set_option maxRecDepth 100000 in
theorem wt1048 : Cond.selects RX14 yX14_matched_ yX14_matched_ ∈ lw_tbl := List.mem_of_getElem? (i := 1843) (by decide +kernel)
set_option maxRecDepth 100000 in
theorem wt1049 : Cond.code yX14_matched_ cX14_matched_ 2 (some .int) ∈ lw_tbl := List.mem_of_getElem? (i := 1844) (by decide +kernel)
set_option maxRecDepth 100000 in
theorem wt1055 : Cond.methodLink RL 183 yL_many ∈ lw_tbl := List.mem_of_getElem? (i := 956) (by decide +kernel)
set_option maxRecDepth 100000 in
theorem wt1056 : Cond.static yL_many ∈ lw_tbl := List.mem_of_getElem? (i := 957) (by decide +kernel)
set_option maxRecDepth 100000 in
theorem wt1057 : Cond.codeWith yL_many cL_many 4 (some .int) [(0, 9, 12, 13)] ∈ lw_tbl := List.mem_of_getElem? (i := 958) (by decide +kernel)
set_option maxRecDepth 100000 in
theorem wt1058 : Cond.methodLink RL 81 yX7_many ∈ lw_tbl := List.mem_of_getElem? (i := 959) (by decide +kernel)
set_option maxRecDepth 100000 in
theorem wt1059 : Cond.instanceMethod yX7_many ∈ lw_tbl := List.mem_of_getElem? (i := 473) (by decide +kernel)
set_option maxRecDepth 100000 in
theorem wt1060 : Cond.selects RX7 yX7_many yX7_many ∈ lw_tbl := List.mem_of_getElem? (i := 474) (by decide +kernel)
set_option maxRecDepth 100000 in
theorem wt1061 : Cond.code yX7_many cX7_many 2 (some .int) ∈ lw_tbl := List.mem_of_getElem? (i := 475) (by decide +kernel)
set_option maxRecDepth 100000 in
theorem wt1062 : Cond.methodLink RX7 337 yX3_countStanding ∈ lw_tbl := List.mem_of_getElem? (i := 459) (by decide +kernel)
set_option maxRecDepth 100000 in
theorem wt1063 : Cond.instanceMethod yX3_countStanding ∈ lw_tbl := List.mem_of_getElem? (i := 460) (by decide +kernel)
set_option maxRecDepth 100000 in
theorem wt1064 : Cond.selects RX3 yX3_countStanding yX3_countStanding ∈ lw_tbl := List.mem_of_getElem? (i := 461) (by decide +kernel)
set_option maxRecDepth 100000 in
theorem wt1065 : Cond.code yX3_countStanding cX3_countStanding 3 (some .int) ∈ lw_tbl := List.mem_of_getElem? (i := 462) (by decide +kernel)
set_option maxRecDepth 100000 in
theorem wt1066 : Cond.methodLink RX7 340 yX2_countOpen ∈ lw_tbl := List.mem_of_getElem? (i := 476) (by decide +kernel)
set_option maxRecDepth 100000 in
theorem wt1067 : Cond.instanceMethod yX2_countOpen ∈ lw_tbl := List.mem_of_getElem? (i := 477) (by decide +kernel)
set_option maxRecDepth 100000 in
theorem wt1068 : Cond.selects RX2 yX2_countOpen yX2_countOpen ∈ lw_tbl := List.mem_of_getElem? (i := 478) (by decide +kernel)
set_option maxRecDepth 100000 in
theorem wt1069 : Cond.code yX2_countOpen cX2_countOpen 4 (some .int) ∈ lw_tbl := List.mem_of_getElem? (i := 479) (by decide +kernel)
set_option maxRecDepth 100000 in
theorem wt1070 : Cond.methodLink RL 185 yX14_many ∈ lw_tbl := List.mem_of_getElem? (i := 1849) (by decide +kernel)
set_option maxRecDepth 100000 in
theorem wt1071 : Cond.instanceMethod yX14_many ∈ lw_tbl := List.mem_of_getElem? (i := 1850) (by decide +kernel)
set_option maxRecDepth 100000 in
theorem wt1072 : Cond.selects RX14 yX14_many yX14_many ∈ lw_tbl := List.mem_of_getElem? (i := 1851) (by decide +kernel)
set_option maxRecDepth 100000 in
theorem wt1073 : Cond.code yX14_many cX14_many 2 (some .int) ∈ lw_tbl := List.mem_of_getElem? (i := 1852) (by decide +kernel)
set_option maxRecDepth 100000 in
theorem wt1074 : Cond.methodLink RX14 333 yX14_count ∈ lw_tbl := List.mem_of_getElem? (i := 1853) (by decide +kernel)
set_option maxRecDepth 100000 in
theorem wt1075 : Cond.instanceMethod yX14_count ∈ lw_tbl := List.mem_of_getElem? (i := 1855) (by decide +kernel)
set_option maxRecDepth 100000 in
theorem wt1076 : Cond.selects RX14 yX14_count yX14_count ∈ lw_tbl := List.mem_of_getElem? (i := 62) (by decide +kernel)
set_option maxRecDepth 100000 in
theorem wt1077 : Cond.code yX14_count cX14_count 5 (some .int) ∈ lw_tbl := List.mem_of_getElem? (i := 1856) (by decide +kernel)
set_option maxRecDepth 100000 in
theorem wt1078 : Cond.methodLink RL 186 yL_told ∈ lw_tbl := List.mem_of_getElem? (i := 960) (by decide +kernel)
set_option maxRecDepth 100000 in
theorem wt1079 : Cond.static yL_told ∈ lw_tbl := List.mem_of_getElem? (i := 961) (by decide +kernel)
set_option maxRecDepth 100000 in
theorem wt1080 : Cond.codeWith yL_told cL_told 5 (some .int) [(0, 9, 12, 24), (0, 9, 16, 13)] ∈ lw_tbl := List.mem_of_getElem? (i := 962) (by decide +kernel)
set_option maxRecDepth 100000 in
theorem wt1081 : Cond.methodLink RL 84 yX7_told ∈ lw_tbl := List.mem_of_getElem? (i := 963) (by decide +kernel)
set_option maxRecDepth 100000 in
theorem wt1082 : Cond.instanceMethod yX7_told ∈ lw_tbl := List.mem_of_getElem? (i := 557) (by decide +kernel)
set_option maxRecDepth 100000 in
theorem wt1083 : Cond.selects RX7 yX7_told yX7_told ∈ lw_tbl := List.mem_of_getElem? (i := 558) (by decide +kernel)
theorem wr_13 : ∀ w ∈ zw_13, w ∈ lw_tbl := List.forall_mem_cons.mpr ⟨wt1037, List.forall_mem_cons.mpr ⟨wt1038, List.forall_mem_cons.mpr ⟨wt1039, List.forall_mem_cons.mpr ⟨wt1040, List.forall_mem_cons.mpr ⟨wt1041, List.forall_mem_cons.mpr ⟨wt1042, List.forall_mem_cons.mpr ⟨wt1043, List.forall_mem_cons.mpr ⟨wt1046, List.forall_mem_cons.mpr ⟨wt1047, List.forall_mem_cons.mpr ⟨wt1048, List.forall_mem_cons.mpr ⟨wt1049, List.forall_mem_cons.mpr ⟨wt1055, List.forall_mem_cons.mpr ⟨wt1056, List.forall_mem_cons.mpr ⟨wt1057, List.forall_mem_cons.mpr ⟨wt1058, List.forall_mem_cons.mpr ⟨wt1059, List.forall_mem_cons.mpr ⟨wt1060, List.forall_mem_cons.mpr ⟨wt1061, List.forall_mem_cons.mpr ⟨wt1062, List.forall_mem_cons.mpr ⟨wt1063, List.forall_mem_cons.mpr ⟨wt1064, List.forall_mem_cons.mpr ⟨wt1065, List.forall_mem_cons.mpr ⟨wt1066, List.forall_mem_cons.mpr ⟨wt1067, List.forall_mem_cons.mpr ⟨wt1068, List.forall_mem_cons.mpr ⟨wt1069, List.forall_mem_cons.mpr ⟨wt1070, List.forall_mem_cons.mpr ⟨wt1071, List.forall_mem_cons.mpr ⟨wt1072, List.forall_mem_cons.mpr ⟨wt1073, List.forall_mem_cons.mpr ⟨wt1074, List.forall_mem_cons.mpr ⟨wt1075, List.forall_mem_cons.mpr ⟨wt1076, List.forall_mem_cons.mpr ⟨wt1077, List.forall_mem_cons.mpr ⟨wt1078, List.forall_mem_cons.mpr ⟨wt1079, List.forall_mem_cons.mpr ⟨wt1080, List.forall_mem_cons.mpr ⟨wt1081, List.forall_mem_cons.mpr ⟨wt1082, List.forall_mem_cons.mpr ⟨wt1083, fun _ h => absurd h List.not_mem_nil⟩⟩⟩⟩⟩⟩⟩⟩⟩⟩⟩⟩⟩⟩⟩⟩⟩⟩⟩⟩⟩⟩⟩⟩⟩⟩⟩⟩⟩⟩⟩⟩⟩⟩⟩⟩⟩⟩⟩⟩
set_option maxRecDepth 100000 in
theorem wt1084 : Cond.code yX7_told cX7_told 3 (some .long) ∈ lw_tbl := List.mem_of_getElem? (i := 559) (by decide +kernel)
set_option maxRecDepth 100000 in
theorem wt1089 : Cond.methodLink RL 188 yX14_told ∈ lw_tbl := List.mem_of_getElem? (i := 1857) (by decide +kernel)
set_option maxRecDepth 100000 in
theorem wt1090 : Cond.instanceMethod yX14_told ∈ lw_tbl := List.mem_of_getElem? (i := 1858) (by decide +kernel)
set_option maxRecDepth 100000 in
theorem wt1091 : Cond.selects RX14 yX14_told yX14_told ∈ lw_tbl := List.mem_of_getElem? (i := 1859) (by decide +kernel)
set_option maxRecDepth 100000 in
theorem wt1092 : Cond.code yX14_told cX14_told 3 (some .long) ∈ lw_tbl := List.mem_of_getElem? (i := 1860) (by decide +kernel)
set_option maxRecDepth 100000 in
theorem wt1101 : Cond.methodLink RL 189 yL_at ∈ lw_tbl := List.mem_of_getElem? (i := 964) (by decide +kernel)
set_option maxRecDepth 100000 in
theorem wt1102 : Cond.static yL_at ∈ lw_tbl := List.mem_of_getElem? (i := 965) (by decide +kernel)
set_option maxRecDepth 100000 in
theorem wt1103 : Cond.codeWith yL_at cL_at 5 (some .int) [(0, 9, 12, 24), (0, 9, 16, 13)] ∈ lw_tbl := List.mem_of_getElem? (i := 966) (by decide +kernel)
set_option maxRecDepth 100000 in
theorem wt1104 : Cond.methodLink RL 87 yX7_at ∈ lw_tbl := List.mem_of_getElem? (i := 967) (by decide +kernel)
set_option maxRecDepth 100000 in
theorem wt1105 : Cond.instanceMethod yX7_at ∈ lw_tbl := List.mem_of_getElem? (i := 968) (by decide +kernel)
set_option maxRecDepth 100000 in
theorem wt1106 : Cond.selects RX7 yX7_at yX7_at ∈ lw_tbl := List.mem_of_getElem? (i := 969) (by decide +kernel)
set_option maxRecDepth 100000 in
theorem wt1107 : Cond.code yX7_at cX7_at 3 (some .long) ∈ lw_tbl := List.mem_of_getElem? (i := 970) (by decide +kernel)
set_option maxRecDepth 100000 in
theorem wt1108 : Cond.methodLink RL 191 yX14_at ∈ lw_tbl := List.mem_of_getElem? (i := 1869) (by decide +kernel)
set_option maxRecDepth 100000 in
theorem wt1109 : Cond.instanceMethod yX14_at ∈ lw_tbl := List.mem_of_getElem? (i := 1870) (by decide +kernel)
set_option maxRecDepth 100000 in
theorem wt1110 : Cond.selects RX14 yX14_at yX14_at ∈ lw_tbl := List.mem_of_getElem? (i := 1871) (by decide +kernel)
set_option maxRecDepth 100000 in
theorem wt1111 : Cond.code yX14_at cX14_at 3 (some .long) ∈ lw_tbl := List.mem_of_getElem? (i := 1872) (by decide +kernel)
set_option maxRecDepth 100000 in
theorem wt1112 : Cond.methodLink RX14 342 yX14_isNoDay ∈ lw_tbl := List.mem_of_getElem? (i := 1873) (by decide +kernel)
set_option maxRecDepth 100000 in
theorem wt1113 : Cond.static yX14_isNoDay ∈ lw_tbl := List.mem_of_getElem? (i := 1874) (by decide +kernel)
set_option maxRecDepth 100000 in
theorem wt1114 : Cond.code yX14_isNoDay cX14_isNoDay 1 (some .boolean) ∈ lw_tbl := List.mem_of_getElem? (i := 1875) (by decide +kernel)
set_option maxRecDepth 100000 in
theorem wt1115 : Cond.methodLink RL 192 yL_ofKind ∈ lw_tbl := List.mem_of_getElem? (i := 971) (by decide +kernel)
set_option maxRecDepth 100000 in
theorem wt1116 : Cond.static yL_ofKind ∈ lw_tbl := List.mem_of_getElem? (i := 972) (by decide +kernel)
set_option maxRecDepth 100000 in
theorem wt1117 : Cond.codeWith yL_ofKind cL_ofKind 4 (some .int) [(0, 8, 11, 13)] ∈ lw_tbl := List.mem_of_getElem? (i := 973) (by decide +kernel)
set_option maxRecDepth 100000 in
theorem wt1118 : Cond.methodLink RL 90 yX7_ofKind ∈ lw_tbl := List.mem_of_getElem? (i := 974) (by decide +kernel)
set_option maxRecDepth 100000 in
theorem wt1119 : Cond.instanceMethod yX7_ofKind ∈ lw_tbl := List.mem_of_getElem? (i := 693) (by decide +kernel)
set_option maxRecDepth 100000 in
theorem wt1120 : Cond.selects RX7 yX7_ofKind yX7_ofKind ∈ lw_tbl := List.mem_of_getElem? (i := 694) (by decide +kernel)
set_option maxRecDepth 100000 in
theorem wt1121 : Cond.code yX7_ofKind cX7_ofKind 5 (some .long) ∈ lw_tbl := List.mem_of_getElem? (i := 695) (by decide +kernel)
set_option maxRecDepth 100000 in
theorem wt1122 : Cond.methodLink RL 194 yX14_ofKind ∈ lw_tbl := List.mem_of_getElem? (i := 1876) (by decide +kernel)
set_option maxRecDepth 100000 in
theorem wt1123 : Cond.instanceMethod yX14_ofKind ∈ lw_tbl := List.mem_of_getElem? (i := 1877) (by decide +kernel)
set_option maxRecDepth 100000 in
theorem wt1124 : Cond.selects RX14 yX14_ofKind yX14_ofKind ∈ lw_tbl := List.mem_of_getElem? (i := 1878) (by decide +kernel)
set_option maxRecDepth 100000 in
theorem wt1125 : Cond.code yX14_ofKind cX14_ofKind 2 (some .long) ∈ lw_tbl := List.mem_of_getElem? (i := 1879) (by decide +kernel)
set_option maxRecDepth 100000 in
theorem wt1126 : Cond.methodLink RX14 345 yX14_ofKindNow ∈ lw_tbl := List.mem_of_getElem? (i := 1880) (by decide +kernel)
set_option maxRecDepth 100000 in
theorem wt1127 : Cond.instanceMethod yX14_ofKindNow ∈ lw_tbl := List.mem_of_getElem? (i := 1882) (by decide +kernel)
set_option maxRecDepth 100000 in
theorem wt1128 : Cond.selects RX14 yX14_ofKindNow yX14_ofKindNow ∈ lw_tbl := List.mem_of_getElem? (i := 65) (by decide +kernel)
set_option maxRecDepth 100000 in
theorem wt1129 : Cond.code yX14_ofKindNow cX14_ofKindNow 5 (some .long) ∈ lw_tbl := List.mem_of_getElem? (i := 1883) (by decide +kernel)
set_option maxRecDepth 100000 in
theorem wt1130 : Cond.methodLink RL 195 yL_earned ∈ lw_tbl := List.mem_of_getElem? (i := 975) (by decide +kernel)
set_option maxRecDepth 100000 in
theorem wt1131 : Cond.static yL_earned ∈ lw_tbl := List.mem_of_getElem? (i := 976) (by decide +kernel)
set_option maxRecDepth 100000 in
theorem wt1132 : Cond.codeWith yL_earned cL_earned 5 (some .int) [(0, 9, 12, 13)] ∈ lw_tbl := List.mem_of_getElem? (i := 977) (by decide +kernel)
set_option maxRecDepth 100000 in
theorem wt1133 : Cond.methodLink RL 94 yX7_earned ∈ lw_tbl := List.mem_of_getElem? (i := 978) (by decide +kernel)
set_option maxRecDepth 100000 in
theorem wt1134 : Cond.instanceMethod yX7_earned ∈ lw_tbl := List.mem_of_getElem? (i := 979) (by decide +kernel)
set_option maxRecDepth 100000 in
theorem wt1135 : Cond.selects RX7 yX7_earned yX7_earned ∈ lw_tbl := List.mem_of_getElem? (i := 980) (by decide +kernel)
theorem wr_14 : ∀ w ∈ zw_14, w ∈ lw_tbl := List.forall_mem_cons.mpr ⟨wt1084, List.forall_mem_cons.mpr ⟨wt1089, List.forall_mem_cons.mpr ⟨wt1090, List.forall_mem_cons.mpr ⟨wt1091, List.forall_mem_cons.mpr ⟨wt1092, List.forall_mem_cons.mpr ⟨wt1101, List.forall_mem_cons.mpr ⟨wt1102, List.forall_mem_cons.mpr ⟨wt1103, List.forall_mem_cons.mpr ⟨wt1104, List.forall_mem_cons.mpr ⟨wt1105, List.forall_mem_cons.mpr ⟨wt1106, List.forall_mem_cons.mpr ⟨wt1107, List.forall_mem_cons.mpr ⟨wt1108, List.forall_mem_cons.mpr ⟨wt1109, List.forall_mem_cons.mpr ⟨wt1110, List.forall_mem_cons.mpr ⟨wt1111, List.forall_mem_cons.mpr ⟨wt1112, List.forall_mem_cons.mpr ⟨wt1113, List.forall_mem_cons.mpr ⟨wt1114, List.forall_mem_cons.mpr ⟨wt1115, List.forall_mem_cons.mpr ⟨wt1116, List.forall_mem_cons.mpr ⟨wt1117, List.forall_mem_cons.mpr ⟨wt1118, List.forall_mem_cons.mpr ⟨wt1119, List.forall_mem_cons.mpr ⟨wt1120, List.forall_mem_cons.mpr ⟨wt1121, List.forall_mem_cons.mpr ⟨wt1122, List.forall_mem_cons.mpr ⟨wt1123, List.forall_mem_cons.mpr ⟨wt1124, List.forall_mem_cons.mpr ⟨wt1125, List.forall_mem_cons.mpr ⟨wt1126, List.forall_mem_cons.mpr ⟨wt1127, List.forall_mem_cons.mpr ⟨wt1128, List.forall_mem_cons.mpr ⟨wt1129, List.forall_mem_cons.mpr ⟨wt1130, List.forall_mem_cons.mpr ⟨wt1131, List.forall_mem_cons.mpr ⟨wt1132, List.forall_mem_cons.mpr ⟨wt1133, List.forall_mem_cons.mpr ⟨wt1134, List.forall_mem_cons.mpr ⟨wt1135, fun _ h => absurd h List.not_mem_nil⟩⟩⟩⟩⟩⟩⟩⟩⟩⟩⟩⟩⟩⟩⟩⟩⟩⟩⟩⟩⟩⟩⟩⟩⟩⟩⟩⟩⟩⟩⟩⟩⟩⟩⟩⟩⟩⟩⟩⟩
set_option maxRecDepth 100000 in
theorem wt1136 : Cond.code yX7_earned cX7_earned 6 (some .long) ∈ lw_tbl := List.mem_of_getElem? (i := 981) (by decide +kernel)
set_option maxRecDepth 100000 in
theorem wt1141 : Cond.methodLink RL 197 yX14_earned ∈ lw_tbl := List.mem_of_getElem? (i := 1884) (by decide +kernel)
set_option maxRecDepth 100000 in
theorem wt1142 : Cond.instanceMethod yX14_earned ∈ lw_tbl := List.mem_of_getElem? (i := 1885) (by decide +kernel)
set_option maxRecDepth 100000 in
theorem wt1143 : Cond.selects RX14 yX14_earned yX14_earned ∈ lw_tbl := List.mem_of_getElem? (i := 1886) (by decide +kernel)
set_option maxRecDepth 100000 in
theorem wt1144 : Cond.code yX14_earned cX14_earned 8 (some .long) ∈ lw_tbl := List.mem_of_getElem? (i := 1887) (by decide +kernel)
set_option maxRecDepth 100000 in
theorem wt1145 : Cond.methodLink RL 198 yL_hadOn ∈ lw_tbl := List.mem_of_getElem? (i := 986) (by decide +kernel)
set_option maxRecDepth 100000 in
theorem wt1146 : Cond.static yL_hadOn ∈ lw_tbl := List.mem_of_getElem? (i := 987) (by decide +kernel)
set_option maxRecDepth 100000 in
theorem wt1147 : Cond.codeWith yL_hadOn cL_hadOn 5 (some .int) [(0, 9, 12, 24), (0, 9, 16, 13)] ∈ lw_tbl := List.mem_of_getElem? (i := 988) (by decide +kernel)
set_option maxRecDepth 100000 in
theorem wt1148 : Cond.methodLink RL 97 yX7_hadOn ∈ lw_tbl := List.mem_of_getElem? (i := 989) (by decide +kernel)
set_option maxRecDepth 100000 in
theorem wt1149 : Cond.instanceMethod yX7_hadOn ∈ lw_tbl := List.mem_of_getElem? (i := 990) (by decide +kernel)
set_option maxRecDepth 100000 in
theorem wt1150 : Cond.selects RX7 yX7_hadOn yX7_hadOn ∈ lw_tbl := List.mem_of_getElem? (i := 991) (by decide +kernel)
set_option maxRecDepth 100000 in
theorem wt1151 : Cond.code yX7_hadOn cX7_hadOn 3 (some .long) ∈ lw_tbl := List.mem_of_getElem? (i := 992) (by decide +kernel)
set_option maxRecDepth 100000 in
theorem wt1152 : Cond.methodLink RL 200 yX14_hadOn ∈ lw_tbl := List.mem_of_getElem? (i := 1888) (by decide +kernel)
set_option maxRecDepth 100000 in
theorem wt1153 : Cond.instanceMethod yX14_hadOn ∈ lw_tbl := List.mem_of_getElem? (i := 1889) (by decide +kernel)
set_option maxRecDepth 100000 in
theorem wt1154 : Cond.selects RX14 yX14_hadOn yX14_hadOn ∈ lw_tbl := List.mem_of_getElem? (i := 1890) (by decide +kernel)
set_option maxRecDepth 100000 in
theorem wt1155 : Cond.code yX14_hadOn cX14_hadOn 3 (some .long) ∈ lw_tbl := List.mem_of_getElem? (i := 1891) (by decide +kernel)
set_option maxRecDepth 100000 in
theorem wt1156 : Cond.methodLink RL 201 yL_wouldMatch ∈ lw_tbl := List.mem_of_getElem? (i := 994) (by decide +kernel)
set_option maxRecDepth 100000 in
theorem wt1157 : Cond.static yL_wouldMatch ∈ lw_tbl := List.mem_of_getElem? (i := 995) (by decide +kernel)
set_option maxRecDepth 100000 in
theorem wt1158 : Cond.codeWith yL_wouldMatch cL_wouldMatch 5 (some .int) [(0, 10, 13, 24), (0, 10, 17, 13)] ∈ lw_tbl := List.mem_of_getElem? (i := 996) (by decide +kernel)
set_option maxRecDepth 100000 in
theorem wt1159 : Cond.methodLink RL 100 yX7_wouldMatch ∈ lw_tbl := List.mem_of_getElem? (i := 997) (by decide +kernel)
set_option maxRecDepth 100000 in
theorem wt1160 : Cond.instanceMethod yX7_wouldMatch ∈ lw_tbl := List.mem_of_getElem? (i := 998) (by decide +kernel)
set_option maxRecDepth 100000 in
theorem wt1161 : Cond.selects RX7 yX7_wouldMatch yX7_wouldMatch ∈ lw_tbl := List.mem_of_getElem? (i := 999) (by decide +kernel)
set_option maxRecDepth 100000 in
theorem wt1162 : Cond.code yX7_wouldMatch cX7_wouldMatch 3 (some .int) ∈ lw_tbl := List.mem_of_getElem? (i := 1000) (by decide +kernel)
set_option maxRecDepth 100000 in
theorem wt1163 : Cond.methodLink RL 203 yX14_wouldMatch ∈ lw_tbl := List.mem_of_getElem? (i := 1892) (by decide +kernel)
set_option maxRecDepth 100000 in
theorem wt1164 : Cond.instanceMethod yX14_wouldMatch ∈ lw_tbl := List.mem_of_getElem? (i := 1893) (by decide +kernel)
set_option maxRecDepth 100000 in
theorem wt1165 : Cond.selects RX14 yX14_wouldMatch yX14_wouldMatch ∈ lw_tbl := List.mem_of_getElem? (i := 1894) (by decide +kernel)
set_option maxRecDepth 100000 in
theorem wt1166 : Cond.code yX14_wouldMatch cX14_wouldMatch 3 (some .int) ∈ lw_tbl := List.mem_of_getElem? (i := 1895) (by decide +kernel)
set_option maxRecDepth 100000 in
theorem wt1171 : Cond.methodLink RL 204 yL_wouldClose ∈ lw_tbl := List.mem_of_getElem? (i := 1001) (by decide +kernel)
set_option maxRecDepth 100000 in
theorem wt1172 : Cond.static yL_wouldClose ∈ lw_tbl := List.mem_of_getElem? (i := 1002) (by decide +kernel)
set_option maxRecDepth 100000 in
theorem wt1173 : Cond.codeWith yL_wouldClose cL_wouldClose 4 (some .int) [(0, 8, 11, 13)] ∈ lw_tbl := List.mem_of_getElem? (i := 1003) (by decide +kernel)
set_option maxRecDepth 100000 in
theorem wt1174 : Cond.methodLink RL 103 yX7_wouldClose ∈ lw_tbl := List.mem_of_getElem? (i := 1004) (by decide +kernel)
set_option maxRecDepth 100000 in
theorem wt1175 : Cond.instanceMethod yX7_wouldClose ∈ lw_tbl := List.mem_of_getElem? (i := 698) (by decide +kernel)
set_option maxRecDepth 100000 in
theorem wt1176 : Cond.selects RX7 yX7_wouldClose yX7_wouldClose ∈ lw_tbl := List.mem_of_getElem? (i := 699) (by decide +kernel)
set_option maxRecDepth 100000 in
theorem wt1177 : Cond.code yX7_wouldClose cX7_wouldClose 2 (some .long) ∈ lw_tbl := List.mem_of_getElem? (i := 700) (by decide +kernel)
set_option maxRecDepth 100000 in
theorem wt1178 : Cond.methodLink RL 206 yX14_wouldClose ∈ lw_tbl := List.mem_of_getElem? (i := 1900) (by decide +kernel)
set_option maxRecDepth 100000 in
theorem wt1179 : Cond.instanceMethod yX14_wouldClose ∈ lw_tbl := List.mem_of_getElem? (i := 1901) (by decide +kernel)
set_option maxRecDepth 100000 in
theorem wt1180 : Cond.selects RX14 yX14_wouldClose yX14_wouldClose ∈ lw_tbl := List.mem_of_getElem? (i := 1902) (by decide +kernel)
set_option maxRecDepth 100000 in
theorem wt1181 : Cond.code yX14_wouldClose cX14_wouldClose 2 (some .long) ∈ lw_tbl := List.mem_of_getElem? (i := 1903) (by decide +kernel)
set_option maxRecDepth 100000 in
theorem wt1182 : Cond.methodLink RL 207 yX7_meanLegs ∈ lw_tbl := List.mem_of_getElem? (i := 455) (by decide +kernel)
set_option maxRecDepth 100000 in
theorem wt1183 : Cond.instanceMethod yX7_meanLegs ∈ lw_tbl := List.mem_of_getElem? (i := 456) (by decide +kernel)
theorem wr_15 : ∀ w ∈ zw_15, w ∈ lw_tbl := List.forall_mem_cons.mpr ⟨wt1136, List.forall_mem_cons.mpr ⟨wt1141, List.forall_mem_cons.mpr ⟨wt1142, List.forall_mem_cons.mpr ⟨wt1143, List.forall_mem_cons.mpr ⟨wt1144, List.forall_mem_cons.mpr ⟨wt1145, List.forall_mem_cons.mpr ⟨wt1146, List.forall_mem_cons.mpr ⟨wt1147, List.forall_mem_cons.mpr ⟨wt1148, List.forall_mem_cons.mpr ⟨wt1149, List.forall_mem_cons.mpr ⟨wt1150, List.forall_mem_cons.mpr ⟨wt1151, List.forall_mem_cons.mpr ⟨wt1152, List.forall_mem_cons.mpr ⟨wt1153, List.forall_mem_cons.mpr ⟨wt1154, List.forall_mem_cons.mpr ⟨wt1155, List.forall_mem_cons.mpr ⟨wt1156, List.forall_mem_cons.mpr ⟨wt1157, List.forall_mem_cons.mpr ⟨wt1158, List.forall_mem_cons.mpr ⟨wt1159, List.forall_mem_cons.mpr ⟨wt1160, List.forall_mem_cons.mpr ⟨wt1161, List.forall_mem_cons.mpr ⟨wt1162, List.forall_mem_cons.mpr ⟨wt1163, List.forall_mem_cons.mpr ⟨wt1164, List.forall_mem_cons.mpr ⟨wt1165, List.forall_mem_cons.mpr ⟨wt1166, List.forall_mem_cons.mpr ⟨wt1171, List.forall_mem_cons.mpr ⟨wt1172, List.forall_mem_cons.mpr ⟨wt1173, List.forall_mem_cons.mpr ⟨wt1174, List.forall_mem_cons.mpr ⟨wt1175, List.forall_mem_cons.mpr ⟨wt1176, List.forall_mem_cons.mpr ⟨wt1177, List.forall_mem_cons.mpr ⟨wt1178, List.forall_mem_cons.mpr ⟨wt1179, List.forall_mem_cons.mpr ⟨wt1180, List.forall_mem_cons.mpr ⟨wt1181, List.forall_mem_cons.mpr ⟨wt1182, List.forall_mem_cons.mpr ⟨wt1183, fun _ h => absurd h List.not_mem_nil⟩⟩⟩⟩⟩⟩⟩⟩⟩⟩⟩⟩⟩⟩⟩⟩⟩⟩⟩⟩⟩⟩⟩⟩⟩⟩⟩⟩⟩⟩⟩⟩⟩⟩⟩⟩⟩⟩⟩⟩
set_option maxRecDepth 100000 in
theorem wt1184 : Cond.selects RX7 yX7_meanLegs yX7_meanLegs ∈ lw_tbl := List.mem_of_getElem? (i := 457) (by decide +kernel)
set_option maxRecDepth 100000 in
theorem wt1185 : Cond.code yX7_meanLegs cX7_meanLegs 2 (some .double) ∈ lw_tbl := List.mem_of_getElem? (i := 458) (by decide +kernel)
set_option maxRecDepth 100000 in
theorem wt1190 : Cond.methodLink RL 211 yX14_meanLegs ∈ lw_tbl := List.mem_of_getElem? (i := 1904) (by decide +kernel)
set_option maxRecDepth 100000 in
theorem wt1191 : Cond.instanceMethod yX14_meanLegs ∈ lw_tbl := List.mem_of_getElem? (i := 1905) (by decide +kernel)
set_option maxRecDepth 100000 in
theorem wt1192 : Cond.selects RX14 yX14_meanLegs yX14_meanLegs ∈ lw_tbl := List.mem_of_getElem? (i := 1906) (by decide +kernel)
set_option maxRecDepth 100000 in
theorem wt1193 : Cond.code yX14_meanLegs cX14_meanLegs 3 (some .double) ∈ lw_tbl := List.mem_of_getElem? (i := 1907) (by decide +kernel)
set_option maxRecDepth 100000 in
theorem wt1194 : Cond.methodLink RL 212 yX7_digest ∈ lw_tbl := List.mem_of_getElem? (i := 467) (by decide +kernel)
set_option maxRecDepth 100000 in
theorem wt1195 : Cond.instanceMethod yX7_digest ∈ lw_tbl := List.mem_of_getElem? (i := 468) (by decide +kernel)
set_option maxRecDepth 100000 in
theorem wt1196 : Cond.selects RX7 yX7_digest yX7_digest ∈ lw_tbl := List.mem_of_getElem? (i := 469) (by decide +kernel)
set_option maxRecDepth 100000 in
theorem wt1197 : Cond.code yX7_digest cX7_digest 4 (some .long) ∈ lw_tbl := List.mem_of_getElem? (i := 470) (by decide +kernel)
set_option maxRecDepth 100000 in
theorem wt1198 : Cond.constantLong RX7 364 (58089) ∈ lw_tbl := List.mem_of_getElem? (i := 471) (by decide +kernel)
set_option maxRecDepth 100000 in
theorem wt1199 : Cond.fieldLink RX7 377 "Tollgate$Journal" "count" "I" ∈ lw_tbl := List.mem_of_getElem? (i := 220) (by decide +kernel)
set_option maxRecDepth 100000 in
theorem wt1200 : Cond.methodLink RX7 366 yX7_many ∈ lw_tbl := List.mem_of_getElem? (i := 472) (by decide +kernel)
set_option maxRecDepth 100000 in
theorem wt1201 : Cond.methodLink RX7 369 yX7_mix ∈ lw_tbl := List.mem_of_getElem? (i := 548) (by decide +kernel)
set_option maxRecDepth 100000 in
theorem wt1202 : Cond.static yX7_mix ∈ lw_tbl := List.mem_of_getElem? (i := 549) (by decide +kernel)
set_option maxRecDepth 100000 in
theorem wt1203 : Cond.code yX7_mix cX7_mix 4 (some .long) ∈ lw_tbl := List.mem_of_getElem? (i := 550) (by decide +kernel)
set_option maxRecDepth 100000 in
theorem wt1204 : Cond.constantLong RX7 390 (31) ∈ lw_tbl := List.mem_of_getElem? (i := 551) (by decide +kernel)
set_option maxRecDepth 100000 in
theorem wt1218 : Cond.methodLink RX7 384 yX7_ofKind ∈ lw_tbl := List.mem_of_getElem? (i := 692) (by decide +kernel)
set_option maxRecDepth 100000 in
theorem wt1219 : Cond.methodLink RX7 387 yX7_wouldClose ∈ lw_tbl := List.mem_of_getElem? (i := 697) (by decide +kernel)
set_option maxRecDepth 100000 in
theorem wt1220 : Cond.methodLink RL 216 yX14_digest ∈ lw_tbl := List.mem_of_getElem? (i := 1908) (by decide +kernel)
set_option maxRecDepth 100000 in
theorem wt1221 : Cond.instanceMethod yX14_digest ∈ lw_tbl := List.mem_of_getElem? (i := 1909) (by decide +kernel)
set_option maxRecDepth 100000 in
theorem wt1222 : Cond.selects RX14 yX14_digest yX14_digest ∈ lw_tbl := List.mem_of_getElem? (i := 1910) (by decide +kernel)
set_option maxRecDepth 100000 in
theorem wt1223 : Cond.code yX14_digest cX14_digest 7 (some .long) ∈ lw_tbl := List.mem_of_getElem? (i := 1911) (by decide +kernel)
set_option maxRecDepth 100000 in
theorem wt1224 : Cond.constantLong RX14 355 (58089) ∈ lw_tbl := List.mem_of_getElem? (i := 1912) (by decide +kernel)
set_option maxRecDepth 100000 in
theorem wt1225 : Cond.methodLink RX14 357 yX14_add ∈ lw_tbl := List.mem_of_getElem? (i := 1913) (by decide +kernel)
set_option maxRecDepth 100000 in
theorem wt1226 : Cond.static yX14_add ∈ lw_tbl := List.mem_of_getElem? (i := 1914) (by decide +kernel)
set_option maxRecDepth 100000 in
theorem wt1227 : Cond.code yX14_add cX14_add 4 (some .long) ∈ lw_tbl := List.mem_of_getElem? (i := 1915) (by decide +kernel)
set_option maxRecDepth 100000 in
theorem wt1228 : Cond.constantLong RX14 353 (31) ∈ lw_tbl := List.mem_of_getElem? (i := 1916) (by decide +kernel)
theorem wr_16 : ∀ w ∈ zw_16, w ∈ lw_tbl := List.forall_mem_cons.mpr ⟨wt1184, List.forall_mem_cons.mpr ⟨wt1185, List.forall_mem_cons.mpr ⟨wt1190, List.forall_mem_cons.mpr ⟨wt1191, List.forall_mem_cons.mpr ⟨wt1192, List.forall_mem_cons.mpr ⟨wt1193, List.forall_mem_cons.mpr ⟨wt1194, List.forall_mem_cons.mpr ⟨wt1195, List.forall_mem_cons.mpr ⟨wt1196, List.forall_mem_cons.mpr ⟨wt1197, List.forall_mem_cons.mpr ⟨wt1198, List.forall_mem_cons.mpr ⟨wt1199, List.forall_mem_cons.mpr ⟨wt1200, List.forall_mem_cons.mpr ⟨wt1201, List.forall_mem_cons.mpr ⟨wt1202, List.forall_mem_cons.mpr ⟨wt1203, List.forall_mem_cons.mpr ⟨wt1204, List.forall_mem_cons.mpr ⟨wt1218, List.forall_mem_cons.mpr ⟨wt1219, List.forall_mem_cons.mpr ⟨wt1220, List.forall_mem_cons.mpr ⟨wt1221, List.forall_mem_cons.mpr ⟨wt1222, List.forall_mem_cons.mpr ⟨wt1223, List.forall_mem_cons.mpr ⟨wt1224, List.forall_mem_cons.mpr ⟨wt1225, List.forall_mem_cons.mpr ⟨wt1226, List.forall_mem_cons.mpr ⟨wt1227, List.forall_mem_cons.mpr ⟨wt1228, fun _ h => absurd h List.not_mem_nil⟩⟩⟩⟩⟩⟩⟩⟩⟩⟩⟩⟩⟩⟩⟩⟩⟩⟩⟩⟩⟩⟩⟩⟩⟩⟩⟩⟩
set_option maxRecDepth 100000 in
theorem wtxX0 : ∀ w ∈ wsX00, w ∈ lw_tbl := by decide +kernel
set_option maxRecDepth 100000 in
theorem wtxX1 : ∀ w ∈ wsX10, w ∈ lw_tbl := by decide +kernel
set_option maxRecDepth 100000 in
theorem wtxX2 : ∀ w ∈ wsX20, w ∈ lw_tbl := by decide +kernel
set_option maxRecDepth 100000 in
theorem wtxX3 : ∀ w ∈ wsX30, w ∈ lw_tbl := by decide +kernel
set_option maxRecDepth 100000 in
theorem wtxX4 : ∀ w ∈ wsX40, w ∈ lw_tbl := by decide +kernel
set_option maxRecDepth 100000 in
theorem wtxX5 : ∀ w ∈ wsX50, w ∈ lw_tbl := by decide +kernel
set_option maxRecDepth 100000 in
theorem wtxX6 : ∀ w ∈ wsX60, w ∈ lw_tbl := by decide +kernel
set_option maxRecDepth 100000 in
theorem wtxX7 : ∀ w ∈ wsX70, w ∈ lw_tbl := by decide +kernel
set_option maxRecDepth 100000 in
theorem wtxX8 : ∀ w ∈ wsX80, w ∈ lw_tbl := by decide +kernel
set_option maxRecDepth 100000 in
theorem wtxX14 : ∀ w ∈ wsX140, w ∈ lw_tbl := by decide +kernel
set_option maxRecDepth 100000 in
theorem wtxJx4a65c : ∀ w ∈ wsJx4a65c0, w ∈ lw_tbl := by decide +kernel
set_option maxRecDepth 100000 in
theorem wth0 : ∀ w ∈ (vx_atS RX7 75 "java/lang/IllegalArgumentException" ["java/lang/RuntimeException", "java/lang/Exception"]).filter goodWord, w ∈ lw_tbl := by decide +kernel
set_option maxRecDepth 100000 in
theorem wth1 : ∀ w ∈ (vx_atS RX7 86 "java/lang/IllegalStateException" ["java/lang/RuntimeException", "java/lang/Exception"]).filter goodWord, w ∈ lw_tbl := by decide +kernel
set_option maxRecDepth 100000 in
theorem wth2 : ∀ w ∈ (vx_atS RX7 198 "java/lang/IndexOutOfBoundsException" ["java/lang/RuntimeException", "java/lang/Exception"]).filter goodWord, w ∈ lw_tbl := by decide +kernel
set_option maxRecDepth 100000 in
theorem WALL_in : ∀ w ∈ WALL, w ∈ lw_tbl := (List.forall_mem_append.mpr ⟨(List.forall_mem_append.mpr ⟨(List.forall_mem_append.mpr ⟨(List.forall_mem_append.mpr ⟨(List.forall_mem_append.mpr ⟨(List.forall_mem_append.mpr ⟨(List.forall_mem_append.mpr ⟨(List.forall_mem_append.mpr ⟨(List.forall_mem_append.mpr ⟨(List.forall_mem_append.mpr ⟨(List.forall_mem_append.mpr ⟨(List.forall_mem_append.mpr ⟨(List.forall_mem_append.mpr ⟨(List.forall_mem_append.mpr ⟨(List.forall_mem_append.mpr ⟨wr_0, (List.forall_mem_append.mpr ⟨wr_1, (List.forall_mem_append.mpr ⟨wr_2, (List.forall_mem_append.mpr ⟨wr_3, (List.forall_mem_append.mpr ⟨wr_4, (List.forall_mem_append.mpr ⟨wr_5, (List.forall_mem_append.mpr ⟨wr_6, (List.forall_mem_append.mpr ⟨wr_7, (List.forall_mem_append.mpr ⟨wr_8, (List.forall_mem_append.mpr ⟨wr_9, (List.forall_mem_append.mpr ⟨wr_10, (List.forall_mem_append.mpr ⟨wr_11, (List.forall_mem_append.mpr ⟨wr_12, (List.forall_mem_append.mpr ⟨wr_13, (List.forall_mem_append.mpr ⟨wr_14, (List.forall_mem_append.mpr ⟨wr_15, wr_16⟩)⟩)⟩)⟩)⟩)⟩)⟩)⟩)⟩)⟩)⟩)⟩)⟩)⟩)⟩)⟩), wtxX0⟩), wtxX1⟩), wtxX2⟩), wtxX3⟩), wtxX4⟩), wtxX5⟩), wtxX6⟩), wtxX7⟩), wtxX8⟩), wtxX14⟩), wtxJx4a65c⟩), wth0⟩), wth1⟩), wth2⟩)
set_option maxRecDepth 100000 in
theorem wn_RX7_11 : Cond.methodLinkNest RX7 11 yX0_init "Tollgate" ∈ lw_tbl := List.mem_of_getElem? (i := 116) (by decide +kernel)
set_option maxRecDepth 100000 in
theorem wn_RX7_18 : Cond.methodLinkNest RX7 18 yX1_init "Tollgate" ∈ lw_tbl := List.mem_of_getElem? (i := 149) (by decide +kernel)
set_option maxRecDepth 100000 in
theorem wn_RX1_9 : Cond.methodLinkNest RX1 9 yX4_init "Tollgate" ∈ lw_tbl := List.mem_of_getElem? (i := 155) (by decide +kernel)
set_option maxRecDepth 100000 in
theorem wn_RX7_25 : Cond.methodLinkNest RX7 25 yX3_init "Tollgate" ∈ lw_tbl := List.mem_of_getElem? (i := 201) (by decide +kernel)
set_option maxRecDepth 100000 in
theorem wn_RX7_32 : Cond.methodLinkNest RX7 32 yX2_init "Tollgate" ∈ lw_tbl := List.mem_of_getElem? (i := 260) (by decide +kernel)
set_option maxRecDepth 100000 in
theorem wn_RX7_39 : Cond.methodLinkNest RX7 39 yX5_init "Tollgate" ∈ lw_tbl := List.mem_of_getElem? (i := 286) (by decide +kernel)
set_option maxRecDepth 100000 in
theorem wn_RX7_58 : Cond.methodLinkNest RX7 58 yX4_init "Tollgate" ∈ lw_tbl := List.mem_of_getElem? (i := 337) (by decide +kernel)
