/-! ===== BEGIN words of one list among another's, by their places ===== -/
theorem goodIn_r {big : List Cond} (ws : List Cond) (ps : List Nat) (hp : ws = ps.filterMap (fun i => big[i]?)) (h : ws.all goodWord = true) : GoodIn big ws := by
  intro w hw
  have h1 := List.all_eq_true.mp h w hw
  rw [hp] at hw
  obtain ⟨i, -, hi⟩ := List.mem_filterMap.mp hw
  have hm : w ∈ big := by first | exact List.mem_of_getElem? hi | exact List.getElem?_mem hi
  exact ⟨hm, good_of_word h1⟩
theorem goodIn_app {big a b : List Cond} (ha : GoodIn big a) (hb : GoodIn big b) : GoodIn big (a ++ b) := fun w h => (List.mem_append.mp h).elim (ha w) (hb w)
theorem goodIn_ca {big a b : List Cond} {c : Cond} (ha : GoodIn big (c :: a)) (hb : GoodIn big b) : GoodIn big (c :: (a ++ b)) := fun w h => (List.mem_cons.mp h).elim (fun e => ha w (List.mem_cons.mpr (Or.inl e))) (fun h => (List.mem_append.mp h).elim (fun h => ha w (List.mem_cons.mpr (Or.inr h))) (hb w))
theorem goodIn_sub {big ws : List Cond} (hm : ∀ w ∈ ws, w ∈ big) (h : ws.all goodWord = true) : GoodIn big ws := fun w hw => ⟨hm w hw, good_of_word (List.all_eq_true.mp h w hw)⟩
/-! ===== END ===== -/
def RX0 : String := "Tollgate$Accounts"
def TX0 : u_T := fun k => match k with
  | 0 => ("Tollgate$Accounts", "rates", "[I", true)
  | 1 => ("Tollgate$Accounts", "kind", "[I", true)
  | 2 => ("Tollgate$Accounts", "currency", "[I", true)
  | 3 => ("Tollgate$Accounts", "floors", "[I", true)
  | 4 => ("Tollgate$Accounts", "hasFloor", "[Z", true)
  | _ => ("Tollgate$Accounts", "count", "I", false)
def tyX0 : Nat → FieldType := fun k => match k with
  | 0 => .array .int
  | 1 => .array .int
  | 2 => .array .int
  | 3 => .array .int
  | 4 => .array .boolean
  | _ => .int
abbrev wsX00 : List Cond := u_ws RX0 TX0 6
theorem nmX0 : ∀ a, a < 6 → ∀ b, b < 6 → a ≠ b → (TX0 a).2.1 ≠ (TX0 b).2.1 := by decide +kernel
theorem tyX0_ok : ∀ k, k < 6 → parseFieldDescriptor (TX0 k).2.2.1 = some (tyX0 k) := by decide +kernel
abbrev cX0_init : ByteArray := prog_2_method_1_code
def yX0_init : MethodName := ⟨RX0, "<init>", "()V"⟩
abbrev cX0_add : ByteArray := prog_2_method_2_code
def yX0_add : MethodName := ⟨RX0, "add", "(II)I"⟩
abbrev cX0_anyIn : ByteArray := prog_2_method_3_code
def yX0_anyIn : MethodName := ⟨RX0, "anyIn", "(I)Z"⟩
abbrev cX0_isClosed : ByteArray := prog_2_method_4_code
def yX0_isClosed : MethodName := ⟨RX0, "isClosed", "(I)Z"⟩
abbrev cX0_stand : ByteArray := prog_2_method_5_code
def yX0_stand : MethodName := ⟨RX0, "stand", "(IJ)J"⟩
abbrev cX0_worth : ByteArray := prog_2_method_6_code
def yX0_worth : MethodName := ⟨RX0, "worth", "(IJ)J"⟩
def RX1 : String := "Tollgate$Draft"
def TX1 : u_T := fun k => match k with
  | 0 => ("Tollgate$Draft", "legs", "LTollgate$LegRow;", true)
  | 1 => ("Tollgate$Draft", "isThere", "Z", false)
  | 2 => ("Tollgate$Draft", "day", "I", false)
  | _ => ("Tollgate$Draft", "note", "I", false)
def tyX1 : Nat → FieldType := fun k => match k with
  | 0 => .object "Tollgate$LegRow"
  | 1 => .boolean
  | 2 => .int
  | _ => .int
abbrev wsX10 : List Cond := u_ws RX1 TX1 4
theorem nmX1 : ∀ a, a < 4 → ∀ b, b < 4 → a ≠ b → (TX1 a).2.1 ≠ (TX1 b).2.1 := by decide +kernel
theorem tyX1_ok : ∀ k, k < 4 → parseFieldDescriptor (TX1 k).2.2.1 = some (tyX1 k) := by decide +kernel
abbrev cX1_init : ByteArray := prog_3_method_1_code
def yX1_init : MethodName := ⟨RX1, "<init>", "()V"⟩
abbrev cX1_begin : ByteArray := prog_3_method_2_code
def yX1_begin : MethodName := ⟨RX1, "begin", "(II)V"⟩
abbrev cX1_forget : ByteArray := prog_3_method_3_code
def yX1_forget : MethodName := ⟨RX1, "forget", "()V"⟩
def RX2 : String := "Tollgate$Holds"
def TX2 : u_T := fun k => match k with
  | 0 => ("Tollgate$Holds", "account", "[I", true)
  | 1 => ("Tollgate$Holds", "amount", "[I", true)
  | 2 => ("Tollgate$Holds", "lastDay", "[I", true)
  | 3 => ("Tollgate$Holds", "isEnded", "[Z", true)
  | _ => ("Tollgate$Holds", "count", "I", false)
def tyX2 : Nat → FieldType := fun k => match k with
  | 0 => .array .int
  | 1 => .array .int
  | 2 => .array .int
  | 3 => .array .boolean
  | _ => .int
abbrev wsX20 : List Cond := u_ws RX2 TX2 5
theorem nmX2 : ∀ a, a < 5 → ∀ b, b < 5 → a ≠ b → (TX2 a).2.1 ≠ (TX2 b).2.1 := by decide +kernel
theorem tyX2_ok : ∀ k, k < 5 → parseFieldDescriptor (TX2 k).2.2.1 = some (tyX2 k) := by decide +kernel
abbrev cX2_init : ByteArray := prog_4_method_1_code
def yX2_init : MethodName := ⟨RX2, "<init>", "()V"⟩
abbrev cX2_isOpen : ByteArray := prog_4_method_3_code
def yX2_isOpen : MethodName := ⟨RX2, "isOpen", "(II)Z"⟩
abbrev cX2_heldOn : ByteArray := prog_4_method_4_code
def yX2_heldOn : MethodName := ⟨RX2, "heldOn", "(III)J"⟩
abbrev cX2_countOpen : ByteArray := prog_4_method_5_code
def yX2_countOpen : MethodName := ⟨RX2, "countOpen", "(I)I"⟩
def RX3 : String := "Tollgate$Journal"
def TX3 : u_T := fun k => match k with
  | 0 => ("Tollgate$Journal", "day", "[I", true)
  | 1 => ("Tollgate$Journal", "note", "[I", true)
  | 2 => ("Tollgate$Journal", "firstLeg", "[I", true)
  | 3 => ("Tollgate$Journal", "legsOf", "[I", true)
  | 4 => ("Tollgate$Journal", "gone", "[Z", true)
  | 5 => ("Tollgate$Journal", "isClosing", "[Z", true)
  | 6 => ("Tollgate$Journal", "count", "I", false)
  | 7 => ("Tollgate$Journal", "entryOf", "[I", true)
  | 8 => ("Tollgate$Journal", "account", "[I", true)
  | 9 => ("Tollgate$Journal", "amount", "[J", true)
  | 10 => ("Tollgate$Journal", "worth", "[J", true)
  | _ => ("Tollgate$Journal", "legCount", "I", false)
def tyX3 : Nat → FieldType := fun k => match k with
  | 0 => .array .int
  | 1 => .array .int
  | 2 => .array .int
  | 3 => .array .int
  | 4 => .array .boolean
  | 5 => .array .boolean
  | 6 => .int
  | 7 => .array .int
  | 8 => .array .int
  | 9 => .array .long
  | 10 => .array .long
  | _ => .int
abbrev wsX30 : List Cond := u_ws RX3 TX3 12
theorem nmX3 : ∀ a, a < 12 → ∀ b, b < 12 → a ≠ b → (TX3 a).2.1 ≠ (TX3 b).2.1 := by decide +kernel
theorem tyX3_ok : ∀ k, k < 12 → parseFieldDescriptor (TX3 k).2.2.1 = some (tyX3 k) := by decide +kernel
abbrev cX3_init : ByteArray := prog_5_method_1_code
def yX3_init : MethodName := ⟨RX3, "<init>", "()V"⟩
abbrev cX3_has : ByteArray := prog_5_method_2_code
def yX3_has : MethodName := ⟨RX3, "has", "(I)Z"⟩
abbrev cX3_isFull : ByteArray := prog_5_method_3_code
def yX3_isFull : MethodName := ⟨RX3, "isFull", "()Z"⟩
abbrev cX3_enter : ByteArray := prog_5_method_4_code
def yX3_enter : MethodName := ⟨RX3, "enter", "(IIZLTollgate$LegRow;)I"⟩
abbrev cX3_addLeg : ByteArray := prog_5_method_5_code
def yX3_addLeg : MethodName := ⟨RX3, "addLeg", "(IIJJ)V"⟩
abbrev cX3_counts : ByteArray := prog_5_method_6_code
def yX3_counts : MethodName := ⟨RX3, "counts", "(I)Z"⟩
abbrev cX3_dayOf : ByteArray := prog_5_method_7_code
def yX3_dayOf : MethodName := ⟨RX3, "dayOf", "(I)I"⟩
abbrev cX3_lastClosing : ByteArray := prog_5_method_8_code
def yX3_lastClosing : MethodName := ⟨RX3, "lastClosing", "()I"⟩
abbrev cX3_lastLocked : ByteArray := prog_5_method_9_code
def yX3_lastLocked : MethodName := ⟨RX3, "lastLocked", "()I"⟩
abbrev cX3_countStanding : ByteArray := prog_5_method_10_code
def yX3_countStanding : MethodName := ⟨RX3, "countStanding", "()I"⟩
abbrev cX3_amountUpTo : ByteArray := prog_5_method_12_code
def yX3_amountUpTo : MethodName := ⟨RX3, "amountUpTo", "(II)J"⟩
abbrev cX3_worthOn : ByteArray := prog_5_method_13_code
def yX3_worthOn : MethodName := ⟨RX3, "worthOn", "(I)J"⟩
abbrev cX3_worthBetween : ByteArray := prog_5_method_14_code
def yX3_worthBetween : MethodName := ⟨RX3, "worthBetween", "(III)J"⟩
def RX4 : String := "Tollgate$LegRow"
def TX4 : u_T := fun k => match k with
  | 0 => ("Tollgate$LegRow", "account", "[I", true)
  | 1 => ("Tollgate$LegRow", "amount", "[J", true)
  | 2 => ("Tollgate$LegRow", "worth", "[J", true)
  | _ => ("Tollgate$LegRow", "count", "I", false)
def tyX4 : Nat → FieldType := fun k => match k with
  | 0 => .array .int
  | 1 => .array .long
  | 2 => .array .long
  | _ => .int
abbrev wsX40 : List Cond := u_ws RX4 TX4 4
theorem nmX4 : ∀ a, a < 4 → ∀ b, b < 4 → a ≠ b → (TX4 a).2.1 ≠ (TX4 b).2.1 := by decide +kernel
theorem tyX4_ok : ∀ k, k < 4 → parseFieldDescriptor (TX4 k).2.2.1 = some (tyX4 k) := by decide +kernel
abbrev cX4_init : ByteArray := prog_6_method_1_code
def yX4_init : MethodName := ⟨RX4, "<init>", "()V"⟩
abbrev cX4_add : ByteArray := prog_6_method_2_code
def yX4_add : MethodName := ⟨RX4, "add", "(IJJ)V"⟩
abbrev cX4_worthSum : ByteArray := prog_6_method_3_code
def yX4_worthSum : MethodName := ⟨RX4, "worthSum", "()J"⟩
abbrev cX4_amountOn : ByteArray := prog_6_method_4_code
def yX4_amountOn : MethodName := ⟨RX4, "amountOn", "(I)J"⟩
def RX5 : String := "Tollgate$Lines"
def TX5 : u_T := fun k => match k with
  | 0 => ("Tollgate$Lines", "account", "[I", true)
  | 1 => ("Tollgate$Lines", "day", "[I", true)
  | 2 => ("Tollgate$Lines", "amount", "[I", true)
  | 3 => ("Tollgate$Lines", "byDay", "[I", true)
  | _ => ("Tollgate$Lines", "count", "I", false)
def tyX5 : Nat → FieldType := fun k => match k with
  | 0 => .array .int
  | 1 => .array .int
  | 2 => .array .int
  | 3 => .array .int
  | _ => .int
abbrev wsX50 : List Cond := u_ws RX5 TX5 5
theorem nmX5 : ∀ a, a < 5 → ∀ b, b < 5 → a ≠ b → (TX5 a).2.1 ≠ (TX5 b).2.1 := by decide +kernel
theorem tyX5_ok : ∀ k, k < 5 → parseFieldDescriptor (TX5 k).2.2.1 = some (tyX5 k) := by decide +kernel
abbrev cX5_init : ByteArray := prog_7_method_1_code
def yX5_init : MethodName := ⟨RX5, "<init>", "()V"⟩
abbrev cX5_add : ByteArray := prog_7_method_2_code
def yX5_add : MethodName := ⟨RX5, "add", "(III)I"⟩
abbrev cX5_sortIn : ByteArray := prog_7_method_3_code
def yX5_sortIn : MethodName := ⟨RX5, "sortIn", "(I)V"⟩
abbrev cX5_countOf : ByteArray := prog_7_method_4_code
def yX5_countOf : MethodName := ⟨RX5, "countOf", "(I)I"⟩
def RX6 : String := "Tollgate$Matching"
def TX6 : u_T := fun k => match k with
  | 0 => ("Tollgate$Matching", "journal", "LTollgate$Journal;", true)
  | 1 => ("Tollgate$Matching", "lines", "LTollgate$Lines;", true)
  | 2 => ("Tollgate$Matching", "lineOfLeg", "[I", true)
  | 3 => ("Tollgate$Matching", "firstOfLine", "[I", true)
  | _ => ("Tollgate$Matching", "secondOfLine", "[I", true)
def tyX6 : Nat → FieldType := fun k => match k with
  | 0 => .object "Tollgate$Journal"
  | 1 => .object "Tollgate$Lines"
  | 2 => .array .int
  | 3 => .array .int
  | _ => .array .int
abbrev wsX60 : List Cond := u_ws RX6 TX6 5
theorem nmX6 : ∀ a, a < 5 → ∀ b, b < 5 → a ≠ b → (TX6 a).2.1 ≠ (TX6 b).2.1 := by decide +kernel
theorem tyX6_ok : ∀ k, k < 5 → parseFieldDescriptor (TX6 k).2.2.1 = some (tyX6 k) := by decide +kernel
abbrev cX6_init : ByteArray := prog_8_method_1_code
def yX6_init : MethodName := ⟨RX6, "<init>", "(LTollgate$Journal;LTollgate$Lines;)V"⟩
abbrev cX6_pairUp : ByteArray := prog_8_method_2_code
def yX6_pairUp : MethodName := ⟨RX6, "pairUp", "(II)I"⟩
abbrev cX6_isLeft : ByteArray := prog_8_method_3_code
def yX6_isLeft : MethodName := ⟨RX6, "isLeft", "(II)Z"⟩
abbrev cX6_isLegLeft : ByteArray := prog_8_method_4_code
def yX6_isLegLeft : MethodName := ⟨RX6, "isLegLeft", "(II)Z"⟩
abbrev cX6_away : ByteArray := prog_8_method_5_code
def yX6_away : MethodName := ⟨RX6, "away", "(II)I"⟩
abbrev cX6_bindNearest : ByteArray := prog_8_method_6_code
def yX6_bindNearest : MethodName := ⟨RX6, "bindNearest", "(II)V"⟩
abbrev cX6_isNearer : ByteArray := prog_8_method_7_code
def yX6_isNearer : MethodName := ⟨RX6, "isNearer", "(III)Z"⟩
abbrev cX6_bindFirstTwo : ByteArray := prog_8_method_8_code
def yX6_bindFirstTwo : MethodName := ⟨RX6, "bindFirstTwo", "(II)V"⟩
abbrev cX6_secondBehind : ByteArray := prog_8_method_9_code
def yX6_secondBehind : MethodName := ⟨RX6, "secondBehind", "(II)I"⟩
abbrev cX6_bind : ByteArray := prog_8_method_10_code
def yX6_bind : MethodName := ⟨RX6, "bind", "(III)V"⟩
abbrev cX6_freeLine : ByteArray := prog_8_method_11_code
def yX6_freeLine : MethodName := ⟨RX6, "freeLine", "(I)V"⟩
abbrev cX6_freeLegsOf : ByteArray := prog_8_method_12_code
def yX6_freeLegsOf : MethodName := ⟨RX6, "freeLegsOf", "(I)V"⟩
abbrev cX6_linesLeft : ByteArray := prog_8_method_13_code
def yX6_linesLeft : MethodName := ⟨RX6, "linesLeft", "(I)I"⟩
abbrev cX6_lineSumLeft : ByteArray := prog_8_method_14_code
def yX6_lineSumLeft : MethodName := ⟨RX6, "lineSumLeft", "(I)J"⟩
abbrev cX6_legsLeft : ByteArray := prog_8_method_15_code
def yX6_legsLeft : MethodName := ⟨RX6, "legsLeft", "(I)I"⟩
abbrev cX6_legSumLeft : ByteArray := prog_8_method_16_code
def yX6_legSumLeft : MethodName := ⟨RX6, "legSumLeft", "(I)J"⟩
def RX7 : String := "Tollgate"
def TX7 : u_T := fun k => match k with
  | 0 => ("Tollgate", "accounts", "LTollgate$Accounts;", true)
  | 1 => ("Tollgate", "draft", "LTollgate$Draft;", true)
  | 2 => ("Tollgate", "journal", "LTollgate$Journal;", true)
  | 3 => ("Tollgate", "holds", "LTollgate$Holds;", true)
  | 4 => ("Tollgate", "lines", "LTollgate$Lines;", true)
  | 5 => ("Tollgate", "kept", "LTollgate$Matching;", true)
  | 6 => ("Tollgate", "trial", "LTollgate$Matching;", true)
  | 7 => ("Tollgate", "plan", "LTollgate$LegRow;", true)
  | 8 => ("Tollgate", "exchangeAccount", "I", false)
  | _ => ("Tollgate", "today", "I", false)
def tyX7 : Nat → FieldType := fun k => match k with
  | 0 => .object "Tollgate$Accounts"
  | 1 => .object "Tollgate$Draft"
  | 2 => .object "Tollgate$Journal"
  | 3 => .object "Tollgate$Holds"
  | 4 => .object "Tollgate$Lines"
  | 5 => .object "Tollgate$Matching"
  | 6 => .object "Tollgate$Matching"
  | 7 => .object "Tollgate$LegRow"
  | 8 => .int
  | _ => .int
abbrev wsX70 : List Cond := u_ws RX7 TX7 10
theorem nmX7 : ∀ a, a < 10 → ∀ b, b < 10 → a ≠ b → (TX7 a).2.1 ≠ (TX7 b).2.1 := by decide +kernel
theorem tyX7_ok : ∀ k, k < 10 → parseFieldDescriptor (TX7 k).2.2.1 = some (tyX7 k) := by decide +kernel
abbrev cX7_init : ByteArray := prog_1_method_1_code
def yX7_init : MethodName := ⟨RX7, "<init>", "()V"⟩
abbrev cX7_rate : ByteArray := prog_1_method_2_code
def yX7_rate : MethodName := ⟨RX7, "rate", "(II)I"⟩
abbrev cX7_account : ByteArray := prog_1_method_3_code
def yX7_account : MethodName := ⟨RX7, "account", "(II)I"⟩
abbrev cX7_exchange : ByteArray := prog_1_method_5_code
def yX7_exchange : MethodName := ⟨RX7, "exchange", "(I)I"⟩
abbrev cX7_pass : ByteArray := prog_1_method_6_code
def yX7_pass : MethodName := ⟨RX7, "pass", "(I)I"⟩
abbrev cX7_draft : ByteArray := prog_1_method_7_code
def yX7_draft : MethodName := ⟨RX7, "draft", "(II)I"⟩
abbrev cX7_leg : ByteArray := prog_1_method_8_code
def yX7_leg : MethodName := ⟨RX7, "leg", "(II)J"⟩
abbrev cX7_post : ByteArray := prog_1_method_9_code
def yX7_post : MethodName := ⟨RX7, "post", "()I"⟩
abbrev cX7_reason : ByteArray := prog_1_method_10_code
def yX7_reason : MethodName := ⟨RX7, "reason", "()I"⟩
abbrev cX7_ofEntry : ByteArray := prog_1_method_12_code
def yX7_ofEntry : MethodName := ⟨RX7, "ofEntry", "(II)I"⟩
abbrev cX7_ofLeg : ByteArray := prog_1_method_13_code
def yX7_ofLeg : MethodName := ⟨RX7, "ofLeg", "(III)J"⟩
abbrev cX7_close : ByteArray := prog_1_method_17_code
def yX7_close : MethodName := ⟨RX7, "close", "(II)I"⟩
abbrev cX7_open : ByteArray := prog_1_method_18_code
def yX7_open : MethodName := ⟨RX7, "open", "()I"⟩
abbrev cX7_line : ByteArray := prog_1_method_19_code
def yX7_line : MethodName := ⟨RX7, "line", "(III)I"⟩
abbrev cX7_match : ByteArray := prog_1_method_20_code
def yX7_match : MethodName := ⟨RX7, "match", "(II)I"⟩
abbrev cX7_left : ByteArray := prog_1_method_21_code
def yX7_left : MethodName := ⟨RX7, "left", "(II)J"⟩
abbrev cX7_matched : ByteArray := prog_1_method_22_code
def yX7_matched : MethodName := ⟨RX7, "matched", "(I)I"⟩
abbrev cX7_many : ByteArray := prog_1_method_23_code
def yX7_many : MethodName := ⟨RX7, "many", "(I)I"⟩
abbrev cX7_told : ByteArray := prog_1_method_24_code
def yX7_told : MethodName := ⟨RX7, "told", "(II)J"⟩
abbrev cX7_at : ByteArray := prog_1_method_25_code
def yX7_at : MethodName := ⟨RX7, "at", "(II)J"⟩
abbrev cX7_ofKind : ByteArray := prog_1_method_26_code
def yX7_ofKind : MethodName := ⟨RX7, "ofKind", "(I)J"⟩
abbrev cX7_earned : ByteArray := prog_1_method_27_code
def yX7_earned : MethodName := ⟨RX7, "earned", "(II)J"⟩
abbrev cX7_hadOn : ByteArray := prog_1_method_28_code
def yX7_hadOn : MethodName := ⟨RX7, "hadOn", "(II)J"⟩
abbrev cX7_wouldMatch : ByteArray := prog_1_method_29_code
def yX7_wouldMatch : MethodName := ⟨RX7, "wouldMatch", "(II)I"⟩
abbrev cX7_wouldClose : ByteArray := prog_1_method_30_code
def yX7_wouldClose : MethodName := ⟨RX7, "wouldClose", "(I)J"⟩
abbrev cX7_digest : ByteArray := prog_1_method_32_code
def yX7_digest : MethodName := ⟨RX7, "digest", "()J"⟩
abbrev cX7_mix : ByteArray := prog_1_method_33_code
def yX7_mix : MethodName := ⟨RX7, "mix", "(JJ)J"⟩
abbrev cX7_mixAccount : ByteArray := prog_1_method_34_code
def yX7_mixAccount : MethodName := ⟨RX7, "mixAccount", "(JI)J"⟩
abbrev cX7_mixEntry : ByteArray := prog_1_method_35_code
def yX7_mixEntry : MethodName := ⟨RX7, "mixEntry", "(JI)J"⟩
abbrev cX7_needAccount : ByteArray := prog_1_method_36_code
def yX7_needAccount : MethodName := ⟨RX7, "needAccount", "(I)V"⟩
abbrev cX7_needEntry : ByteArray := prog_1_method_37_code
def yX7_needEntry : MethodName := ⟨RX7, "needEntry", "(I)V"⟩
abbrev cX7_needDay : ByteArray := prog_1_method_40_code
def yX7_needDay : MethodName := ⟨RX7, "needDay", "(I)V"⟩
abbrev cX7_needAmount : ByteArray := prog_1_method_41_code
def yX7_needAmount : MethodName := ⟨RX7, "needAmount", "(I)V"⟩
abbrev cX7_needDaysAway : ByteArray := prog_1_method_42_code
def yX7_needDaysAway : MethodName := ⟨RX7, "needDaysAway", "(I)V"⟩
abbrev cX7_standOf : ByteArray := prog_1_method_44_code
def yX7_standOf : MethodName := ⟨RX7, "standOf", "(I)J"⟩
abbrev cX7_hadIf : ByteArray := prog_1_method_45_code
def yX7_hadIf : MethodName := ⟨RX7, "hadIf", "(II)J"⟩
abbrev cX7_whyNotPosted : ByteArray := prog_1_method_46_code
def yX7_whyNotPosted : MethodName := ⟨RX7, "whyNotPosted", "()I"⟩
abbrev cX7_canBeExchanged : ByteArray := prog_1_method_47_code
def yX7_canBeExchanged : MethodName := ⟨RX7, "canBeExchanged", "()Z"⟩
abbrev cX7_draftHasTwoCurrencies : ByteArray := prog_1_method_48_code
def yX7_draftHasTwoCurrencies : MethodName := ⟨RX7, "draftHasTwoCurrencies", "()Z"⟩
abbrev cX7_planLeg : ByteArray := prog_1_method_49_code
def yX7_planLeg : MethodName := ⟨RX7, "planLeg", "(IJ)V"⟩
abbrev cX7_planDraft : ByteArray := prog_1_method_50_code
def yX7_planDraft : MethodName := ⟨RX7, "planDraft", "()V"⟩
abbrev cX7_planClosing : ByteArray := prog_1_method_53_code
def yX7_planClosing : MethodName := ⟨RX7, "planClosing", "(I)V"⟩
abbrev cX7_planKeepsFloors : ByteArray := prog_1_method_54_code
def yX7_planKeepsFloors : MethodName := ⟨RX7, "planKeepsFloors", "(I)Z"⟩
def RX8 : String := "TollgateModel$Account"
def TX8 : u_T := fun k => match k with
  | _ => ("", "", "", false)
def tyX8 : Nat → FieldType := fun k => match k with
  | _ => .int
abbrev wsX80 : List Cond := u_ws RX8 TX8 0
theorem nmX8 : ∀ a, a < 0 → ∀ b, b < 0 → a ≠ b → (TX8 a).2.1 ≠ (TX8 b).2.1 := by decide +kernel
theorem tyX8_ok : ∀ k, k < 0 → parseFieldDescriptor (TX8 k).2.2.1 = some (tyX8 k) := by decide +kernel
def RX9 : String := "TollgateModel$Dated"
def TX9 : u_T := fun k => match k with
  | _ => ("", "", "", false)
def tyX9 : Nat → FieldType := fun k => match k with
  | _ => .int
abbrev wsX90 : List Cond := u_ws RX9 TX9 0
theorem nmX9 : ∀ a, a < 0 → ∀ b, b < 0 → a ≠ b → (TX9 a).2.1 ≠ (TX9 b).2.1 := by decide +kernel
theorem tyX9_ok : ∀ k, k < 0 → parseFieldDescriptor (TX9 k).2.2.1 = some (tyX9 k) := by decide +kernel
def RX10 : String := "TollgateModel$Entry"
def TX10 : u_T := fun k => match k with
  | _ => ("", "", "", false)
def tyX10 : Nat → FieldType := fun k => match k with
  | _ => .int
abbrev wsX100 : List Cond := u_ws RX10 TX10 0
theorem nmX10 : ∀ a, a < 0 → ∀ b, b < 0 → a ≠ b → (TX10 a).2.1 ≠ (TX10 b).2.1 := by decide +kernel
theorem tyX10_ok : ∀ k, k < 0 → parseFieldDescriptor (TX10 k).2.2.1 = some (tyX10 k) := by decide +kernel
def RX11 : String := "TollgateModel$Hold"
def TX11 : u_T := fun k => match k with
  | _ => ("", "", "", false)
def tyX11 : Nat → FieldType := fun k => match k with
  | _ => .int
abbrev wsX110 : List Cond := u_ws RX11 TX11 0
theorem nmX11 : ∀ a, a < 0 → ∀ b, b < 0 → a ≠ b → (TX11 a).2.1 ≠ (TX11 b).2.1 := by decide +kernel
theorem tyX11_ok : ∀ k, k < 0 → parseFieldDescriptor (TX11 k).2.2.1 = some (tyX11 k) := by decide +kernel
def RX12 : String := "TollgateModel$Leg"
def TX12 : u_T := fun k => match k with
  | _ => ("", "", "", false)
def tyX12 : Nat → FieldType := fun k => match k with
  | _ => .int
abbrev wsX120 : List Cond := u_ws RX12 TX12 0
theorem nmX12 : ∀ a, a < 0 → ∀ b, b < 0 → a ≠ b → (TX12 a).2.1 ≠ (TX12 b).2.1 := by decide +kernel
theorem tyX12_ok : ∀ k, k < 0 → parseFieldDescriptor (TX12 k).2.2.1 = some (tyX12 k) := by decide +kernel
def RX13 : String := "TollgateModel$Line"
def TX13 : u_T := fun k => match k with
  | _ => ("", "", "", false)
def tyX13 : Nat → FieldType := fun k => match k with
  | _ => .int
abbrev wsX130 : List Cond := u_ws RX13 TX13 0
theorem nmX13 : ∀ a, a < 0 → ∀ b, b < 0 → a ≠ b → (TX13 a).2.1 ≠ (TX13 b).2.1 := by decide +kernel
theorem tyX13_ok : ∀ k, k < 0 → parseFieldDescriptor (TX13 k).2.2.1 = some (tyX13 k) := by decide +kernel
def RX14 : String := "TollgateModel"
def TX14 : u_T := fun k => match k with
  | _ => ("", "", "", false)
def tyX14 : Nat → FieldType := fun k => match k with
  | _ => .int
abbrev wsX140 : List Cond := u_ws RX14 TX14 0
theorem nmX14 : ∀ a, a < 0 → ∀ b, b < 0 → a ≠ b → (TX14 a).2.1 ≠ (TX14 b).2.1 := by decide +kernel
theorem tyX14_ok : ∀ k, k < 0 → parseFieldDescriptor (TX14 k).2.2.1 = some (tyX14 k) := by decide +kernel
def RJx145de : String := "java/io/Serializable"
def TJx145de : u_T := fun k => match k with
  | _ => ("", "", "", false)
def tyJx145de : Nat → FieldType := fun k => match k with
  | _ => .int
abbrev wsJx145de0 : List Cond := u_ws RJx145de TJx145de 0
theorem nmJx145de : ∀ a, a < 0 → ∀ b, b < 0 → a ≠ b → (TJx145de a).2.1 ≠ (TJx145de b).2.1 := by decide +kernel
theorem tyJx145de_ok : ∀ k, k < 0 → parseFieldDescriptor (TJx145de k).2.2.1 = some (tyJx145de k) := by decide +kernel
def RJ9 : String := "java/lang/Math"
def TJ9 : u_T := fun k => match k with
  | _ => ("", "", "", false)
def tyJ9 : Nat → FieldType := fun k => match k with
  | _ => .int
abbrev wsJ90 : List Cond := u_ws RJ9 TJ9 0
theorem nmJ9 : ∀ a, a < 0 → ∀ b, b < 0 → a ≠ b → (TJ9 a).2.1 ≠ (TJ9 b).2.1 := by decide +kernel
theorem tyJ9_ok : ∀ k, k < 0 → parseFieldDescriptor (TJ9 k).2.2.1 = some (tyJ9 k) := by decide +kernel
abbrev cJ9_abs_0f7a4 : ByteArray := prog_21_method_59_code
def yJ9_abs_0f7a4 : MethodName := ⟨RJ9, "abs", "(I)I"⟩
abbrev cJ9_abs_067f4 : ByteArray := prog_21_method_61_code
def yJ9_abs_067f4 : MethodName := ⟨RJ9, "abs", "(J)J"⟩
def RJ0 : String := "java/lang/String"
def TJ0 : u_T := fun k => match k with
  | _ => ("", "", "", false)
def tyJ0 : Nat → FieldType := fun k => match k with
  | _ => .int
abbrev wsJ00 : List Cond := u_ws RJ0 TJ0 0
theorem nmJ0 : ∀ a, a < 0 → ∀ b, b < 0 → a ≠ b → (TJ0 a).2.1 ≠ (TJ0 b).2.1 := by decide +kernel
theorem tyJ0_ok : ∀ k, k < 0 → parseFieldDescriptor (TJ0 k).2.2.1 = some (tyJ0 k) := by decide +kernel
def RL : String := "TollgateLaw"
abbrev cL_below : ByteArray := method_2_code
def yL_below : MethodName := ⟨RL, "below", "(II)I"⟩
abbrev cL_cell : ByteArray := method_3_code
def yL_cell : MethodName := ⟨RL, "cell", "([II)I"⟩
abbrev cL_law : ByteArray := code
def yL_law : MethodName := ⟨RL, "law", "([I)Z"⟩
def wsL_below : List Cond := .code yL_below cL_below 2 (some .int) :: ([.constant RL 7 (2147483647)])
def wsL_cell : List Cond := .code yL_cell cL_cell 2 (some .int) :: ([.constant RL 8 (790386105)])
def wsL_law0_r1 : List Cond := [Cond.classLink RL 9 RX7, Cond.instantiable RX7 10, Cond.initialized RX7, Cond.methodLink RL 95 Lib.MathLoose.abs_long.x, Cond.static Lib.MathLoose.abs_long.x, Cond.initialized "java/lang/Math", Cond.code Lib.MathLoose.abs_long.x Lib.MathLoose.abs_long.code 2 (some .long), Cond.methodLink RL 11 yX7_init, Cond.instanceMethod yX7_init, Cond.code yX7_init cX7_init 1 none, Cond.methodLink RX7 3 objectInit, Cond.instanceMethod objectInit, Cond.code objectInit ⟨#[0xb1]⟩ 1 none, Cond.classLink RX7 9 RX0, Cond.instantiable RX0 6, Cond.initialized RX0, Cond.fieldLink RX7 12 "Tollgate" "accounts" "LTollgate$Accounts;", Cond.classLink RX7 16 RX1, Cond.instantiable RX1 4, Cond.initialized RX1, Cond.fieldLink RX7 19 "Tollgate" "draft" "LTollgate$Draft;", Cond.classLink RX7 23 RX3, Cond.instantiable RX3 12, Cond.initialized RX3]
def wsL_law0_r2 : List Cond := [Cond.fieldLink RX7 26 "Tollgate" "journal" "LTollgate$Journal;", Cond.classLink RX7 30 RX2, Cond.instantiable RX2 5, Cond.initialized RX2, Cond.fieldLink RX7 33 "Tollgate" "holds" "LTollgate$Holds;", Cond.classLink RX7 37 RX5, Cond.instantiable RX5 5, Cond.initialized RX5, Cond.fieldLink RX7 40 "Tollgate" "lines" "LTollgate$Lines;", Cond.classLink RX7 44 RX6, Cond.instantiable RX6 5, Cond.initialized RX6, Cond.fieldLink RX7 49 "Tollgate" "kept" "LTollgate$Matching;", Cond.fieldLink RX7 53 "Tollgate" "trial" "LTollgate$Matching;", Cond.classLink RX7 56 RX4, Cond.instantiable RX4 4, Cond.initialized RX4, Cond.fieldLink RX7 59 "Tollgate" "plan" "LTollgate$LegRow;", Cond.fieldLink RX7 63 "Tollgate" "exchangeAccount" "I", Cond.fieldLink RX7 67 "Tollgate" "today" "I", Cond.instanceMethod yX0_init, Cond.code yX0_init cX0_init 1 none, Cond.methodLink RX0 3 objectInit, Cond.arrayClass .int]
def wsL_law0_r3 : List Cond := [Cond.fieldLink RX0 9 "Tollgate$Accounts" "rates" "[I", Cond.fieldLink RX0 15 "Tollgate$Accounts" "kind" "[I", Cond.fieldLink RX0 18 "Tollgate$Accounts" "currency" "[I", Cond.fieldLink RX0 21 "Tollgate$Accounts" "floors" "[I", Cond.arrayClass .boolean, Cond.fieldLink RX0 24 "Tollgate$Accounts" "hasFloor" "[Z", Cond.fieldLink RX0 28 "Tollgate$Accounts" "count" "I", Cond.instanceMethod yX1_init, Cond.code yX1_init cX1_init 1 none, Cond.methodLink RX1 1 objectInit, Cond.classLink RX1 7 RX4, Cond.fieldLink RX1 10 "Tollgate$Draft" "legs" "LTollgate$LegRow;", Cond.fieldLink RX1 16 "Tollgate$Draft" "isThere" "Z", Cond.fieldLink RX1 20 "Tollgate$Draft" "day" "I", Cond.fieldLink RX1 24 "Tollgate$Draft" "note" "I", Cond.instanceMethod yX4_init, Cond.code yX4_init cX4_init 1 none, Cond.methodLink RX4 3 objectInit, Cond.fieldLink RX4 9 "Tollgate$LegRow" "account" "[I", Cond.arrayClass .long, Cond.fieldLink RX4 15 "Tollgate$LegRow" "amount" "[J", Cond.fieldLink RX4 19 "Tollgate$LegRow" "worth" "[J", Cond.fieldLink RX4 22 "Tollgate$LegRow" "count" "I", Cond.instanceMethod yX3_init]
def wsL_law0_r4 : List Cond := [Cond.code yX3_init cX3_init 1 none, Cond.methodLink RX3 3 objectInit, Cond.fieldLink RX3 9 "Tollgate$Journal" "day" "[I", Cond.fieldLink RX3 15 "Tollgate$Journal" "note" "[I", Cond.fieldLink RX3 18 "Tollgate$Journal" "firstLeg" "[I", Cond.fieldLink RX3 21 "Tollgate$Journal" "legsOf" "[I", Cond.fieldLink RX3 24 "Tollgate$Journal" "gone" "[Z", Cond.fieldLink RX3 28 "Tollgate$Journal" "isClosing" "[Z", Cond.fieldLink RX3 31 "Tollgate$Journal" "count" "I", Cond.fieldLink RX3 35 "Tollgate$Journal" "entryOf" "[I", Cond.fieldLink RX3 38 "Tollgate$Journal" "account" "[I", Cond.fieldLink RX3 41 "Tollgate$Journal" "amount" "[J", Cond.fieldLink RX3 45 "Tollgate$Journal" "worth" "[J", Cond.fieldLink RX3 48 "Tollgate$Journal" "legCount" "I", Cond.instanceMethod yX2_init, Cond.code yX2_init cX2_init 1 none, Cond.methodLink RX2 3 objectInit, Cond.fieldLink RX2 9 "Tollgate$Holds" "account" "[I", Cond.fieldLink RX2 15 "Tollgate$Holds" "amount" "[I", Cond.fieldLink RX2 18 "Tollgate$Holds" "lastDay" "[I", Cond.fieldLink RX2 21 "Tollgate$Holds" "isEnded" "[Z", Cond.fieldLink RX2 25 "Tollgate$Holds" "count" "I", Cond.instanceMethod yX5_init, Cond.code yX5_init cX5_init 1 none]
def wsL_law0_r5 : List Cond := [Cond.methodLink RX5 3 objectInit, Cond.fieldLink RX5 9 "Tollgate$Lines" "account" "[I", Cond.fieldLink RX5 15 "Tollgate$Lines" "day" "[I", Cond.fieldLink RX5 18 "Tollgate$Lines" "amount" "[I", Cond.fieldLink RX5 21 "Tollgate$Lines" "byDay" "[I", Cond.fieldLink RX5 24 "Tollgate$Lines" "count" "I", Cond.methodLink RX7 46 yX6_init, Cond.instanceMethod yX6_init, Cond.code yX6_init cX6_init 4 none, Cond.methodLink RX6 3 objectInit, Cond.fieldLink RX6 9 "Tollgate$Matching" "lineOfLeg" "[I", Cond.fieldLink RX6 15 "Tollgate$Matching" "firstOfLine" "[I", Cond.fieldLink RX6 18 "Tollgate$Matching" "secondOfLine" "[I", Cond.fieldLink RX6 21 "Tollgate$Matching" "journal" "LTollgate$Journal;", Cond.fieldLink RX6 25 "Tollgate$Matching" "lines" "LTollgate$Lines;", Cond.methodLink RL 12 yL_cell, Cond.static yL_cell, Cond.initialized RL, Cond.code yL_cell cL_cell 2 (some .int), Cond.constant RL 8 (790386105), Cond.methodLink RL 18 yL_below, Cond.static yL_below, Cond.code yL_below cL_below 2 (some .int), Cond.constant RL 7 (2147483647)]
def wsL_law0_r6 : List Cond := [Cond.methodLink RL 22 yX7_rate, Cond.instanceMethod yX7_rate, Cond.selects RX7 yX7_rate yX7_rate, Cond.code yX7_rate cX7_rate 4 (some .int), Cond.classLink RX7 71 "java/lang/IllegalArgumentException", Cond.initialized "java/lang/IllegalArgumentException", Cond.classLink RX7 82 "java/lang/IllegalStateException", Cond.initialized "java/lang/IllegalStateException", Cond.constant RX7 70 (100000), Cond.fieldLink RX7 87 "Tollgate$Accounts" "rates" "[I", Cond.methodLink RX7 78 yX0_anyIn, Cond.instanceMethod yX0_anyIn, Cond.selects RX0 yX0_anyIn yX0_anyIn, Cond.code yX0_anyIn cX0_anyIn 3 (some .boolean), Cond.methodLink RL 25 yX7_account, Cond.instanceMethod yX7_account, Cond.selects RX7 yX7_account yX7_account, Cond.code yX7_account cX7_account 3 (some .int), Cond.fieldLink RX7 93 "Tollgate$Accounts" "count" "I", Cond.methodLink RX7 98 yX0_add, Cond.instanceMethod yX0_add, Cond.selects RX0 yX0_add yX0_add, Cond.code yX0_add cX0_add 3 (some .int), Cond.methodLink RL 28 yX7_exchange]
def wsL_law0_r7 : List Cond := [Cond.instanceMethod yX7_exchange, Cond.selects RX7 yX7_exchange yX7_exchange, Cond.code yX7_exchange cX7_exchange 3 (some .int), Cond.fieldLink RX7 126 "Tollgate$Accounts" "currency" "[I", Cond.methodLink RX7 102 yX7_needAccount, Cond.instanceMethod yX7_needAccount, Cond.selects RX7 yX7_needAccount yX7_needAccount, Cond.code yX7_needAccount cX7_needAccount 2 none, Cond.classLink RX7 194 "java/lang/IndexOutOfBoundsException", Cond.initialized "java/lang/IndexOutOfBoundsException", Cond.methodLink RL 32 yX7_pass, Cond.instanceMethod yX7_pass, Cond.selects RX7 yX7_pass yX7_pass, Cond.code yX7_pass cX7_pass 2 (some .int), Cond.methodLink RL 35 yX7_many, Cond.instanceMethod yX7_many, Cond.selects RX7 yX7_many yX7_many, Cond.code yX7_many cX7_many 2 (some .int), Cond.fieldLink RX7 301 "Tollgate$Lines" "count" "I", Cond.methodLink RX7 337 yX3_countStanding, Cond.instanceMethod yX3_countStanding, Cond.selects RX3 yX3_countStanding yX3_countStanding, Cond.code yX3_countStanding cX3_countStanding 3 (some .int), Cond.methodLink RX7 340 yX2_countOpen]
def wsL_law0_r8 : List Cond := [Cond.instanceMethod yX2_countOpen, Cond.selects RX2 yX2_countOpen yX2_countOpen, Cond.code yX2_countOpen cX2_countOpen 4 (some .int), Cond.methodLink RX2 29 yX2_isOpen, Cond.instanceMethod yX2_isOpen, Cond.selects RX2 yX2_isOpen yX2_isOpen, Cond.code yX2_isOpen cX2_isOpen 3 (some .boolean), Cond.methodLink RX7 277 yX3_lastLocked, Cond.instanceMethod yX3_lastLocked, Cond.selects RX3 yX3_lastLocked yX3_lastLocked, Cond.code yX3_lastLocked cX3_lastLocked 2 (some .int), Cond.methodLink RX3 65 yX3_lastClosing, Cond.instanceMethod yX3_lastClosing, Cond.selects RX3 yX3_lastClosing yX3_lastClosing, Cond.code yX3_lastClosing cX3_lastClosing 2 (some .int), Cond.methodLink RL 38 yX7_wouldClose, Cond.instanceMethod yX7_wouldClose, Cond.selects RX7 yX7_wouldClose yX7_wouldClose, Cond.code yX7_wouldClose cX7_wouldClose 2 (some .long), Cond.methodLink RX7 133 yX7_needDay, Cond.static yX7_needDay, Cond.code yX7_needDay cX7_needDay 1 none, Cond.methodLink RX7 286 yX7_planClosing, Cond.instanceMethod yX7_planClosing]
def wsL_law0_r9 : List Cond := [Cond.selects RX7 yX7_planClosing yX7_planClosing, Cond.code yX7_planClosing cX7_planClosing 5 none, Cond.fieldLink RX7 141 "Tollgate$LegRow" "count" "I", Cond.methodLink RX7 353 yX0_isClosed, Cond.instanceMethod yX0_isClosed, Cond.selects RX0 yX0_isClosed yX0_isClosed, Cond.code yX0_isClosed cX0_isClosed 2 (some .boolean), Cond.methodLink RX7 345 yX3_amountUpTo, Cond.instanceMethod yX3_amountUpTo, Cond.selects RX3 yX3_amountUpTo yX3_amountUpTo, Cond.code yX3_amountUpTo cX3_amountUpTo 6 (some .long), Cond.methodLink RX3 69 yX3_counts, Cond.instanceMethod yX3_counts, Cond.selects RX3 yX3_counts yX3_counts, Cond.code yX3_counts cX3_counts 2 (some .boolean), Cond.methodLink RX3 73 yX3_dayOf, Cond.instanceMethod yX3_dayOf, Cond.selects RX3 yX3_dayOf yX3_dayOf, Cond.code yX3_dayOf cX3_dayOf 2 (some .int), Cond.methodLink RX7 289 yX7_planLeg, Cond.instanceMethod yX7_planLeg, Cond.selects RX7 yX7_planLeg yX7_planLeg, Cond.code yX7_planLeg cX7_planLeg 4 none, Cond.methodLink RX7 155 yX0_worth]
def wsL_law0_r10 : List Cond := [Cond.instanceMethod yX0_worth, Cond.selects RX0 yX0_worth yX0_worth, Cond.code yX0_worth cX0_worth 8 (some .long), Cond.constantLong RX0 32 (-500), Cond.constantLong RX0 34 (500), Cond.constantLong RX0 36 (1000), Cond.methodLink RX7 159 yX4_add, Cond.instanceMethod yX4_add, Cond.selects RX4 yX4_add yX4_add, Cond.code yX4_add cX4_add 6 none, Cond.methodLink RX7 162 yX4_worthSum, Cond.instanceMethod yX4_worthSum, Cond.selects RX4 yX4_worthSum yX4_worthSum, Cond.code yX4_worthSum cX4_worthSum 4 (some .long), Cond.methodLink RL 42 yX7_close, Cond.instanceMethod yX7_close, Cond.selects RX7 yX7_close yX7_close, Cond.code yX7_close cX7_close 5 (some .int), Cond.fieldLink RX7 239 "Tollgate$Accounts" "kind" "[I", Cond.methodLink RX7 280 yX3_isFull, Cond.instanceMethod yX3_isFull, Cond.selects RX3 yX3_isFull yX3_isFull, Cond.code yX3_isFull cX3_isFull 1 (some .boolean), Cond.methodLink RX7 181 yX3_enter]
def wsL_law0_r11 : List Cond := [Cond.instanceMethod yX3_enter, Cond.selects RX3 yX3_enter yX3_enter, Cond.code yX3_enter cX3_enter 7 (some .int), Cond.fieldLink RX3 55 "Tollgate$LegRow" "count" "I", Cond.fieldLink RX3 58 "Tollgate$LegRow" "account" "[I", Cond.fieldLink RX3 59 "Tollgate$LegRow" "amount" "[J", Cond.fieldLink RX3 60 "Tollgate$LegRow" "worth" "[J", Cond.methodLink RX3 51 yX3_isFull, Cond.methodLink RX3 61 yX3_addLeg, Cond.instanceMethod yX3_addLeg, Cond.selects RX3 yX3_addLeg yX3_addLeg, Cond.code yX3_addLeg cX3_addLeg 7 none, Cond.methodLink RL 45 yX7_ofEntry, Cond.instanceMethod yX7_ofEntry, Cond.selects RX7 yX7_ofEntry yX7_ofEntry, Cond.code yX7_ofEntry cX7_ofEntry 3 (some .int), Cond.fieldLink RX7 215 "Tollgate$Journal" "day" "[I", Cond.fieldLink RX7 210 "Tollgate$Journal" "note" "[I", Cond.fieldLink RX7 217 "Tollgate$Journal" "legsOf" "[I", Cond.fieldLink RX7 191 "Tollgate$Journal" "gone" "[Z", Cond.methodLink RX7 212 yX7_needEntry, Cond.instanceMethod yX7_needEntry, Cond.selects RX7 yX7_needEntry yX7_needEntry, Cond.code yX7_needEntry cX7_needEntry 2 none]
def wsL_law0_r12 : List Cond := [Cond.methodLink RX7 188 yX3_has, Cond.instanceMethod yX3_has, Cond.selects RX3 yX3_has yX3_has, Cond.code yX3_has cX3_has 2 (some .boolean), Cond.methodLink RL 48 yX7_ofLeg, Cond.instanceMethod yX7_ofLeg, Cond.selects RX7 yX7_ofLeg yX7_ofLeg, Cond.code yX7_ofLeg cX7_ofLeg 5 (some .long), Cond.fieldLink RX7 224 "Tollgate$Journal" "firstLeg" "[I", Cond.fieldLink RX7 227 "Tollgate$Journal" "account" "[I", Cond.fieldLink RX7 230 "Tollgate$Journal" "amount" "[J", Cond.fieldLink RX7 234 "Tollgate$Journal" "worth" "[J", Cond.fieldLink RX7 236 "Tollgate$Matching" "lineOfLeg" "[I", Cond.methodLink RL 52 yX7_open, Cond.instanceMethod yX7_open, Cond.selects RX7 yX7_open yX7_open, Cond.code yX7_open cX7_open 2 (some .int), Cond.methodLink RX7 293 yX3_lastClosing, Cond.methodLink RX7 298 yX6_freeLegsOf, Cond.instanceMethod yX6_freeLegsOf, Cond.selects RX6 yX6_freeLegsOf yX6_freeLegsOf, Cond.code yX6_freeLegsOf cX6_freeLegsOf 4 none, Cond.fieldLink RX6 108 "Tollgate$Journal" "firstLeg" "[I", Cond.fieldLink RX6 111 "Tollgate$Journal" "legsOf" "[I"]
def wsL_law0_r13 : List Cond := [Cond.methodLink RX6 38 yX6_freeLine, Cond.instanceMethod yX6_freeLine, Cond.selects RX6 yX6_freeLine yX6_freeLine, Cond.code yX6_freeLine cX6_freeLine 2 none, Cond.methodLink RL 56 yX7_line, Cond.instanceMethod yX7_line, Cond.selects RX7 yX7_line yX7_line, Cond.code yX7_line cX7_line 4 (some .int), Cond.methodLink RX7 146 yX7_needAmount, Cond.static yX7_needAmount, Cond.code yX7_needAmount cX7_needAmount 1 none, Cond.constant RX7 414 (-1000000), Cond.constant RX7 242 (1000000), Cond.methodLink RX7 304 yX5_add, Cond.instanceMethod yX5_add, Cond.selects RX5 yX5_add yX5_add, Cond.code yX5_add cX5_add 4 (some .int), Cond.methodLink RX5 28 yX5_sortIn, Cond.instanceMethod yX5_sortIn, Cond.selects RX5 yX5_sortIn yX5_sortIn, Cond.code yX5_sortIn cX5_sortIn 3 none, Cond.methodLink RL 60 yX7_wouldMatch, Cond.instanceMethod yX7_wouldMatch, Cond.selects RX7 yX7_wouldMatch yX7_wouldMatch]
def wsL_law0_r14 : List Cond := [Cond.code yX7_wouldMatch cX7_wouldMatch 3 (some .int), Cond.methodLink RX7 305 yX7_needDaysAway, Cond.static yX7_needDaysAway, Cond.code yX7_needDaysAway cX7_needDaysAway 1 none, Cond.methodLink RX7 308 yX6_pairUp, Cond.instanceMethod yX6_pairUp, Cond.selects RX6 yX6_pairUp yX6_pairUp, Cond.code yX6_pairUp cX6_pairUp 4 (some .int), Cond.fieldLink RX6 29 "Tollgate$Lines" "count" "I", Cond.fieldLink RX6 35 "Tollgate$Lines" "account" "[I", Cond.fieldLink RX6 42 "Tollgate$Lines" "byDay" "[I", Cond.methodLink RX6 45 yX6_isLeft, Cond.instanceMethod yX6_isLeft, Cond.selects RX6 yX6_isLeft yX6_isLeft, Cond.code yX6_isLeft cX6_isLeft 3 (some .boolean), Cond.methodLink RX6 49 yX6_bindNearest, Cond.instanceMethod yX6_bindNearest, Cond.selects RX6 yX6_bindNearest yX6_bindNearest, Cond.code yX6_bindNearest cX6_bindNearest 5 none, Cond.fieldLink RX6 81 "Tollgate$Journal" "legCount" "I", Cond.fieldLink RX6 87 "Tollgate$Journal" "amount" "[J", Cond.fieldLink RX6 91 "Tollgate$Lines" "amount" "[I", Cond.methodLink RX6 84 yX6_isLegLeft, Cond.instanceMethod yX6_isLegLeft]
def wsL_law0_r15 : List Cond := [Cond.selects RX6 yX6_isLegLeft yX6_isLegLeft, Cond.code yX6_isLegLeft cX6_isLegLeft 3 (some .boolean), Cond.fieldLink RX6 63 "Tollgate$Journal" "account" "[I", Cond.methodLink RX6 66 yX3_counts, Cond.methodLink RX6 93 yX6_away, Cond.instanceMethod yX6_away, Cond.selects RX6 yX6_away yX6_away, Cond.code yX6_away cX6_away 3 (some .int), Cond.fieldLink RX6 73 "Tollgate$Lines" "day" "[I", Cond.methodLink RX6 76 Lib.Math.abs.name, Cond.static Lib.Math.abs.name, Cond.code Lib.Math.abs.name Lib.Math.abs.code 1 (some .int), Cond.methodLink RX6 70 yX3_dayOf, Cond.methodLink RX6 97 yX6_isNearer, Cond.instanceMethod yX6_isNearer, Cond.selects RX6 yX6_isNearer yX6_isNearer, Cond.code yX6_isNearer cX6_isNearer 6 (some .boolean), Cond.methodLink RX6 101 yX6_bind, Cond.instanceMethod yX6_bind, Cond.selects RX6 yX6_bind yX6_bind, Cond.code yX6_bind cX6_bind 4 none, Cond.methodLink RX6 53 yX6_bindFirstTwo, Cond.instanceMethod yX6_bindFirstTwo, Cond.selects RX6 yX6_bindFirstTwo yX6_bindFirstTwo]
def wsL_law0_r16 : List Cond := [Cond.code yX6_bindFirstTwo cX6_bindFirstTwo 5 none, Cond.methodLink RX6 105 yX6_secondBehind, Cond.instanceMethod yX6_secondBehind, Cond.selects RX6 yX6_secondBehind yX6_secondBehind, Cond.code yX6_secondBehind cX6_secondBehind 4 (some .int), Cond.methodLink RX6 56 yX5_countOf, Cond.instanceMethod yX5_countOf, Cond.selects RX5 yX5_countOf yX5_countOf, Cond.code yX5_countOf cX5_countOf 4 (some .int), Cond.methodLink RX6 60 yX6_linesLeft, Cond.instanceMethod yX6_linesLeft, Cond.selects RX6 yX6_linesLeft yX6_linesLeft, Cond.code yX6_linesLeft cX6_linesLeft 4 (some .int), Cond.methodLink RL 63 yX7_match, Cond.instanceMethod yX7_match, Cond.selects RX7 yX7_match yX7_match, Cond.code yX7_match cX7_match 3 (some .int), Cond.methodLink RL 66 yX7_left, Cond.instanceMethod yX7_left, Cond.selects RX7 yX7_left yX7_left, Cond.code yX7_left cX7_left 3 (some .long), Cond.methodLink RX7 311 yX5_countOf, Cond.methodLink RX7 315 yX6_linesLeft, Cond.methodLink RX7 318 yX6_legsLeft]
def wsL_law0_r17 : List Cond := [Cond.instanceMethod yX6_legsLeft, Cond.selects RX6 yX6_legsLeft yX6_legsLeft, Cond.code yX6_legsLeft cX6_legsLeft 4 (some .int), Cond.methodLink RX7 321 yX6_lineSumLeft, Cond.instanceMethod yX6_lineSumLeft, Cond.selects RX6 yX6_lineSumLeft yX6_lineSumLeft, Cond.code yX6_lineSumLeft cX6_lineSumLeft 5 (some .long), Cond.methodLink RX7 324 yX6_legSumLeft, Cond.instanceMethod yX6_legSumLeft, Cond.selects RX6 yX6_legSumLeft yX6_legSumLeft, Cond.code yX6_legSumLeft cX6_legSumLeft 5 (some .long), Cond.methodLink RL 70 yX7_draft, Cond.instanceMethod yX7_draft, Cond.selects RX7 yX7_draft yX7_draft, Cond.code yX7_draft cX7_draft 4 (some .int), Cond.fieldLink RX7 138 "Tollgate$Draft" "legs" "LTollgate$LegRow;", Cond.methodLink RX7 142 yX1_begin, Cond.instanceMethod yX1_begin, Cond.selects RX1 yX1_begin yX1_begin, Cond.code yX1_begin cX1_begin 3 none, Cond.fieldLink RX1 27 "Tollgate$LegRow" "count" "I", Cond.methodLink RL 73 yX7_leg, Cond.instanceMethod yX7_leg, Cond.selects RX7 yX7_leg yX7_leg]
def wsL_law0_r18 : List Cond := [Cond.code yX7_leg cX7_leg 3 (some .long), Cond.fieldLink RX7 149 "Tollgate$Draft" "isThere" "Z", Cond.methodLink RL 76 yX7_reason, Cond.instanceMethod yX7_reason, Cond.selects RX7 yX7_reason yX7_reason, Cond.code yX7_reason cX7_reason 1 (some .int), Cond.methodLink RX7 166 yX7_whyNotPosted, Cond.instanceMethod yX7_whyNotPosted, Cond.selects RX7 yX7_whyNotPosted yX7_whyNotPosted, Cond.code yX7_whyNotPosted cX7_whyNotPosted 1 (some .int), Cond.fieldLink RX7 175 "Tollgate$Draft" "day" "I", Cond.methodLink RX7 427 yX7_canBeExchanged, Cond.instanceMethod yX7_canBeExchanged, Cond.selects RX7 yX7_canBeExchanged yX7_canBeExchanged, Cond.code yX7_canBeExchanged cX7_canBeExchanged 1 (some .boolean), Cond.methodLink RX7 433 Lib.MathLoose.abs_long.x, Cond.methodLink RX7 430 yX7_draftHasTwoCurrencies, Cond.instanceMethod yX7_draftHasTwoCurrencies, Cond.selects RX7 yX7_draftHasTwoCurrencies yX7_draftHasTwoCurrencies, Cond.code yX7_draftHasTwoCurrencies cX7_draftHasTwoCurrencies 2 (some .boolean), Cond.fieldLink RX7 439 "Tollgate$LegRow" "account" "[I", Cond.methodLink RX7 172 yX7_planDraft, Cond.instanceMethod yX7_planDraft, Cond.selects RX7 yX7_planDraft yX7_planDraft]
def wsL_law0_r19 : List Cond := [Cond.code yX7_planDraft cX7_planDraft 3 none, Cond.fieldLink RX7 440 "Tollgate$LegRow" "amount" "[J", Cond.fieldLink RX7 441 "Tollgate$LegRow" "worth" "[J", Cond.methodLink RX7 419 yX7_planKeepsFloors, Cond.instanceMethod yX7_planKeepsFloors, Cond.selects RX7 yX7_planKeepsFloors yX7_planKeepsFloors, Cond.code yX7_planKeepsFloors cX7_planKeepsFloors 8 (some .boolean), Cond.fieldLink RX7 122 "Tollgate$Accounts" "hasFloor" "[Z", Cond.fieldLink RX7 119 "Tollgate$Accounts" "floors" "[I", Cond.methodLink RX7 442 yX4_amountOn, Cond.instanceMethod yX4_amountOn, Cond.selects RX4 yX4_amountOn yX4_amountOn, Cond.code yX4_amountOn cX4_amountOn 5 (some .long), Cond.methodLink RX7 424 yX0_stand, Cond.instanceMethod yX0_stand, Cond.selects RX0 yX0_stand yX0_stand, Cond.code yX0_stand cX0_stand 4 (some .long), Cond.methodLink RX7 113 yX2_heldOn, Cond.instanceMethod yX2_heldOn, Cond.selects RX2 yX2_heldOn yX2_heldOn, Cond.code yX2_heldOn cX2_heldOn 7 (some .long), Cond.methodLink RL 79 yX7_post, Cond.instanceMethod yX7_post, Cond.selects RX7 yX7_post yX7_post]
def wsL_law0_r20 : List Cond := [Cond.code yX7_post cX7_post 2 (some .int), Cond.fieldLink RX7 178 "Tollgate$Draft" "note" "I", Cond.methodLink RX7 185 yX1_forget, Cond.instanceMethod yX1_forget, Cond.selects RX1 yX1_forget yX1_forget, Cond.code yX1_forget cX1_forget 1 none, Cond.methodLink RL 82 yX7_ofKind, Cond.instanceMethod yX7_ofKind, Cond.selects RX7 yX7_ofKind yX7_ofKind, Cond.code yX7_ofKind cX7_ofKind 5 (some .long), Cond.methodLink RX7 348 yX3_worthOn, Cond.instanceMethod yX3_worthOn, Cond.selects RX3 yX3_worthOn yX3_worthOn, Cond.code yX3_worthOn cX3_worthOn 5 (some .long), Cond.methodLink RL 85 yX7_digest, Cond.instanceMethod yX7_digest, Cond.selects RX7 yX7_digest yX7_digest, Cond.code yX7_digest cX7_digest 4 (some .long), Cond.constantLong RX7 364 (58089), Cond.fieldLink RX7 377 "Tollgate$Journal" "count" "I", Cond.methodLink RX7 366 yX7_many, Cond.methodLink RX7 369 yX7_mix, Cond.static yX7_mix, Cond.code yX7_mix cX7_mix 4 (some .long)]
def wsL_law0_r21 : List Cond := [Cond.constantLong RX7 390 (31), Cond.methodLink RX7 373 yX7_mixAccount, Cond.instanceMethod yX7_mixAccount, Cond.selects RX7 yX7_mixAccount yX7_mixAccount, Cond.code yX7_mixAccount cX7_mixAccount 7 (some .long), Cond.methodLink RX7 392 yX7_told, Cond.instanceMethod yX7_told, Cond.selects RX7 yX7_told yX7_told, Cond.code yX7_told cX7_told 3 (some .long), Cond.methodLink RX7 109 yX7_standOf, Cond.instanceMethod yX7_standOf, Cond.selects RX7 yX7_standOf yX7_standOf, Cond.code yX7_standOf cX7_standOf 2 (some .long), Cond.methodLink RX7 248 yX7_hadIf, Cond.instanceMethod yX7_hadIf, Cond.selects RX7 yX7_hadIf yX7_hadIf, Cond.code yX7_hadIf cX7_hadIf 5 (some .long), Cond.methodLink RX7 395 yX7_left, Cond.methodLink RX7 378 yX7_mixEntry, Cond.instanceMethod yX7_mixEntry, Cond.selects RX7 yX7_mixEntry yX7_mixEntry, Cond.code yX7_mixEntry cX7_mixEntry 8 (some .long), Cond.methodLink RX7 398 yX7_ofEntry, Cond.methodLink RX7 401 yX7_ofLeg]
def wsL_law0_r22 : List Cond := [Cond.methodLink RX7 381 yX7_matched, Cond.instanceMethod yX7_matched, Cond.selects RX7 yX7_matched yX7_matched, Cond.code yX7_matched cX7_matched 3 (some .int), Cond.fieldLink RX7 331 "Tollgate$Matching" "firstOfLine" "[I", Cond.fieldLink RX7 334 "Tollgate$Journal" "entryOf" "[I", Cond.methodLink RX7 384 yX7_ofKind, Cond.methodLink RX7 387 yX7_wouldClose, Cond.methodLink RL 89 yX7_at, Cond.instanceMethod yX7_at, Cond.selects RX7 yX7_at yX7_at, Cond.code yX7_at cX7_at 3 (some .long), Cond.methodLink RL 92 yX7_told, Cond.methodLink RL 101 yX7_hadOn, Cond.instanceMethod yX7_hadOn, Cond.selects RX7 yX7_hadOn yX7_hadOn, Cond.code yX7_hadOn cX7_hadOn 3 (some .long), Cond.methodLink RL 104 yX7_matched, Cond.methodLink RL 107 yX7_earned, Cond.instanceMethod yX7_earned, Cond.selects RX7 yX7_earned yX7_earned, Cond.code yX7_earned cX7_earned 6 (some .long), Cond.methodLink RX7 356 yX3_worthBetween, Cond.instanceMethod yX3_worthBetween]
def wsL_law0_r23 : List Cond := [Cond.selects RX3 yX3_worthBetween yX3_worthBetween, Cond.code yX3_worthBetween cX3_worthBetween 7 (some .long)]
def wsL_law0 : List Cond := (wsL_law0_r1 ++ (wsL_law0_r2 ++ (wsL_law0_r3 ++ (wsL_law0_r4 ++ (wsL_law0_r5 ++ (wsL_law0_r6 ++ (wsL_law0_r7 ++ (wsL_law0_r8 ++ (wsL_law0_r9 ++ (wsL_law0_r10 ++ (wsL_law0_r11 ++ (wsL_law0_r12 ++ (wsL_law0_r13 ++ (wsL_law0_r14 ++ (wsL_law0_r15 ++ (wsL_law0_r16 ++ (wsL_law0_r17 ++ (wsL_law0_r18 ++ (wsL_law0_r19 ++ (wsL_law0_r20 ++ (wsL_law0_r21 ++ (wsL_law0_r22 ++ wsL_law0_r23)))))))))))))))))))))) ++ wsX70 ++ wsX00 ++ wsX10 ++ wsX30 ++ wsX20 ++ wsX50 ++ wsX60 ++ wsX40 ++ ([] : List Cond)
abbrev vwCl : List vw_C := [(RX0, TX0, 6), (RX1, TX1, 4), (RX2, TX2, 5), (RX3, TX3, 12), (RX4, TX4, 4), (RX5, TX5, 5), (RX6, TX6, 5), (RX7, TX7, 10)]

