section
-- ===== PART A: goes FIRST, ahead of the names: the tables' words, and 'selects' of the private methods out of them =====
/-- a private method of a class that the tables say can be made, by its rows of tables_1 -/
def lw_okq (q : MethodName × Nat) : Prop := (q.1.cls ≠ "java/lang/invoke/MethodHandle" ∧ q.1.cls ≠ "java/lang/invoke/VarHandle") ∧ Cond.instantiable q.1.cls q.2 ∈ tables_1 ∧ Cond.privateMethod q.1 ∈ tables_1 ∧ Cond.instanceMethod q.1 ∈ tables_1
theorem lw_p0 : lw_okq (⟨"java/lang/Throwable", "fillInStackTrace", "(I)Ljava/lang/Throwable;"⟩, 6) := ⟨⟨by decide +kernel, by decide +kernel⟩, List.mem_of_getElem? (i := 318) (by decide +kernel), List.mem_of_getElem? (i := 316) (by decide +kernel), List.mem_of_getElem? (i := 317) (by decide +kernel)⟩
theorem lw_p1 : lw_okq (⟨"Tollgate", "needAccount", "(I)V"⟩, 10) := ⟨⟨by decide +kernel, by decide +kernel⟩, List.mem_of_getElem? (i := 17) (by decide +kernel), List.mem_of_getElem? (i := 382) (by decide +kernel), List.mem_of_getElem? (i := 383) (by decide +kernel)⟩
theorem lw_p2 : lw_okq (⟨"Tollgate", "whyNotPosted", "()I"⟩, 10) := ⟨⟨by decide +kernel, by decide +kernel⟩, List.mem_of_getElem? (i := 17) (by decide +kernel), List.mem_of_getElem? (i := 450) (by decide +kernel), List.mem_of_getElem? (i := 451) (by decide +kernel)⟩
theorem lw_p3 : lw_okq (⟨"Tollgate", "canBeExchanged", "()Z"⟩, 10) := ⟨⟨by decide +kernel, by decide +kernel⟩, List.mem_of_getElem? (i := 17) (by decide +kernel), List.mem_of_getElem? (i := 462) (by decide +kernel), List.mem_of_getElem? (i := 463) (by decide +kernel)⟩
theorem lw_p4 : lw_okq (⟨"Tollgate", "draftHasTwoCurrencies", "()Z"⟩, 10) := ⟨⟨by decide +kernel, by decide +kernel⟩, List.mem_of_getElem? (i := 17) (by decide +kernel), List.mem_of_getElem? (i := 466) (by decide +kernel), List.mem_of_getElem? (i := 467) (by decide +kernel)⟩
theorem lw_p5 : lw_okq (⟨"Tollgate", "planDraft", "()V"⟩, 10) := ⟨⟨by decide +kernel, by decide +kernel⟩, List.mem_of_getElem? (i := 17) (by decide +kernel), List.mem_of_getElem? (i := 473) (by decide +kernel), List.mem_of_getElem? (i := 474) (by decide +kernel)⟩
theorem lw_p6 : lw_okq (⟨"Tollgate", "planLeg", "(IJ)V"⟩, 10) := ⟨⟨by decide +kernel, by decide +kernel⟩, List.mem_of_getElem? (i := 17) (by decide +kernel), List.mem_of_getElem? (i := 477) (by decide +kernel), List.mem_of_getElem? (i := 478) (by decide +kernel)⟩
theorem lw_p7 : lw_okq (⟨"Tollgate", "planKeepsFloors", "(I)Z"⟩, 10) := ⟨⟨by decide +kernel, by decide +kernel⟩, List.mem_of_getElem? (i := 17) (by decide +kernel), List.mem_of_getElem? (i := 481) (by decide +kernel), List.mem_of_getElem? (i := 482) (by decide +kernel)⟩
theorem lw_p8 : lw_okq (⟨"Tollgate$Journal", "addLeg", "(IIJJ)V"⟩, 12) := ⟨⟨by decide +kernel, by decide +kernel⟩, List.mem_of_getElem? (i := 110) (by decide +kernel), List.mem_of_getElem? (i := 523) (by decide +kernel), List.mem_of_getElem? (i := 524) (by decide +kernel)⟩
theorem lw_p9 : lw_okq (⟨"Tollgate", "needEntry", "(I)V"⟩, 10) := ⟨⟨by decide +kernel, by decide +kernel⟩, List.mem_of_getElem? (i := 17) (by decide +kernel), List.mem_of_getElem? (i := 539) (by decide +kernel), List.mem_of_getElem? (i := 540) (by decide +kernel)⟩
theorem lw_p10 : lw_okq (⟨"Tollgate", "planClosing", "(I)V"⟩, 10) := ⟨⟨by decide +kernel, by decide +kernel⟩, List.mem_of_getElem? (i := 17) (by decide +kernel), List.mem_of_getElem? (i := 560) (by decide +kernel), List.mem_of_getElem? (i := 561) (by decide +kernel)⟩
theorem lw_p11 : lw_okq (⟨"Tollgate$Matching", "freeLine", "(I)V"⟩, 5) := ⟨⟨by decide +kernel, by decide +kernel⟩, List.mem_of_getElem? (i := 218) (by decide +kernel), List.mem_of_getElem? (i := 578) (by decide +kernel), List.mem_of_getElem? (i := 579) (by decide +kernel)⟩
theorem lw_p12 : lw_okq (⟨"Tollgate$Lines", "sortIn", "(I)V"⟩, 5) := ⟨⟨by decide +kernel, by decide +kernel⟩, List.mem_of_getElem? (i := 190) (by decide +kernel), List.mem_of_getElem? (i := 591) (by decide +kernel), List.mem_of_getElem? (i := 592) (by decide +kernel)⟩
theorem lw_p13 : lw_okq (⟨"Tollgate$Matching", "isLeft", "(II)Z"⟩, 5) := ⟨⟨by decide +kernel, by decide +kernel⟩, List.mem_of_getElem? (i := 218) (by decide +kernel), List.mem_of_getElem? (i := 607) (by decide +kernel), List.mem_of_getElem? (i := 608) (by decide +kernel)⟩
theorem lw_p14 : lw_okq (⟨"Tollgate$Matching", "bindNearest", "(II)V"⟩, 5) := ⟨⟨by decide +kernel, by decide +kernel⟩, List.mem_of_getElem? (i := 218) (by decide +kernel), List.mem_of_getElem? (i := 611) (by decide +kernel), List.mem_of_getElem? (i := 612) (by decide +kernel)⟩
theorem lw_p15 : lw_okq (⟨"Tollgate$Matching", "isLegLeft", "(II)Z"⟩, 5) := ⟨⟨by decide +kernel, by decide +kernel⟩, List.mem_of_getElem? (i := 218) (by decide +kernel), List.mem_of_getElem? (i := 615) (by decide +kernel), List.mem_of_getElem? (i := 616) (by decide +kernel)⟩
def lw_privs_1 : List (MethodName × Nat) := [(⟨"java/lang/Throwable", "fillInStackTrace", "(I)Ljava/lang/Throwable;"⟩, 6), (⟨"Tollgate", "needAccount", "(I)V"⟩, 10), (⟨"Tollgate", "whyNotPosted", "()I"⟩, 10), (⟨"Tollgate", "canBeExchanged", "()Z"⟩, 10), (⟨"Tollgate", "draftHasTwoCurrencies", "()Z"⟩, 10), (⟨"Tollgate", "planDraft", "()V"⟩, 10), (⟨"Tollgate", "planLeg", "(IJ)V"⟩, 10), (⟨"Tollgate", "planKeepsFloors", "(I)Z"⟩, 10), (⟨"Tollgate$Journal", "addLeg", "(IIJJ)V"⟩, 12), (⟨"Tollgate", "needEntry", "(I)V"⟩, 10), (⟨"Tollgate", "planClosing", "(I)V"⟩, 10), (⟨"Tollgate$Matching", "freeLine", "(I)V"⟩, 5), (⟨"Tollgate$Lines", "sortIn", "(I)V"⟩, 5), (⟨"Tollgate$Matching", "isLeft", "(II)Z"⟩, 5), (⟨"Tollgate$Matching", "bindNearest", "(II)V"⟩, 5), (⟨"Tollgate$Matching", "isLegLeft", "(II)Z"⟩, 5)]
theorem lw_r1 : ∀ q ∈ lw_privs_1, lw_okq q := List.forall_mem_cons.mpr ⟨lw_p0, List.forall_mem_cons.mpr ⟨lw_p1, List.forall_mem_cons.mpr ⟨lw_p2, List.forall_mem_cons.mpr ⟨lw_p3, List.forall_mem_cons.mpr ⟨lw_p4, List.forall_mem_cons.mpr ⟨lw_p5, List.forall_mem_cons.mpr ⟨lw_p6, List.forall_mem_cons.mpr ⟨lw_p7, List.forall_mem_cons.mpr ⟨lw_p8, List.forall_mem_cons.mpr ⟨lw_p9, List.forall_mem_cons.mpr ⟨lw_p10, List.forall_mem_cons.mpr ⟨lw_p11, List.forall_mem_cons.mpr ⟨lw_p12, List.forall_mem_cons.mpr ⟨lw_p13, List.forall_mem_cons.mpr ⟨lw_p14, List.forall_mem_cons.mpr ⟨lw_p15, fun _ h => absurd h List.not_mem_nil⟩⟩⟩⟩⟩⟩⟩⟩⟩⟩⟩⟩⟩⟩⟩⟩
theorem lw_p16 : lw_okq (⟨"Tollgate$Matching", "away", "(II)I"⟩, 5) := ⟨⟨by decide +kernel, by decide +kernel⟩, List.mem_of_getElem? (i := 218) (by decide +kernel), List.mem_of_getElem? (i := 620) (by decide +kernel), List.mem_of_getElem? (i := 621) (by decide +kernel)⟩
theorem lw_p17 : lw_okq (⟨"Tollgate$Matching", "isNearer", "(III)Z"⟩, 5) := ⟨⟨by decide +kernel, by decide +kernel⟩, List.mem_of_getElem? (i := 218) (by decide +kernel), List.mem_of_getElem? (i := 628) (by decide +kernel), List.mem_of_getElem? (i := 629) (by decide +kernel)⟩
theorem lw_p18 : lw_okq (⟨"Tollgate$Matching", "bind", "(III)V"⟩, 5) := ⟨⟨by decide +kernel, by decide +kernel⟩, List.mem_of_getElem? (i := 218) (by decide +kernel), List.mem_of_getElem? (i := 632) (by decide +kernel), List.mem_of_getElem? (i := 633) (by decide +kernel)⟩
theorem lw_p19 : lw_okq (⟨"Tollgate$Matching", "bindFirstTwo", "(II)V"⟩, 5) := ⟨⟨by decide +kernel, by decide +kernel⟩, List.mem_of_getElem? (i := 218) (by decide +kernel), List.mem_of_getElem? (i := 636) (by decide +kernel), List.mem_of_getElem? (i := 637) (by decide +kernel)⟩
theorem lw_p20 : lw_okq (⟨"Tollgate$Matching", "secondBehind", "(II)I"⟩, 5) := ⟨⟨by decide +kernel, by decide +kernel⟩, List.mem_of_getElem? (i := 218) (by decide +kernel), List.mem_of_getElem? (i := 640) (by decide +kernel), List.mem_of_getElem? (i := 641) (by decide +kernel)⟩
theorem lw_p21 : lw_okq (⟨"Tollgate", "standOf", "(I)J"⟩, 10) := ⟨⟨by decide +kernel, by decide +kernel⟩, List.mem_of_getElem? (i := 17) (by decide +kernel), List.mem_of_getElem? (i := 693) (by decide +kernel), List.mem_of_getElem? (i := 694) (by decide +kernel)⟩
theorem lw_p22 : lw_okq (⟨"Tollgate", "hadIf", "(II)J"⟩, 10) := ⟨⟨by decide +kernel, by decide +kernel⟩, List.mem_of_getElem? (i := 17) (by decide +kernel), List.mem_of_getElem? (i := 701) (by decide +kernel), List.mem_of_getElem? (i := 702) (by decide +kernel)⟩
theorem lw_p23 : lw_okq (⟨"Tollgate", "mixAccount", "(JI)J"⟩, 10) := ⟨⟨by decide +kernel, by decide +kernel⟩, List.mem_of_getElem? (i := 17) (by decide +kernel), List.mem_of_getElem? (i := 745) (by decide +kernel), List.mem_of_getElem? (i := 746) (by decide +kernel)⟩
theorem lw_p24 : lw_okq (⟨"Tollgate", "mixEntry", "(JI)J"⟩, 10) := ⟨⟨by decide +kernel, by decide +kernel⟩, List.mem_of_getElem? (i := 17) (by decide +kernel), List.mem_of_getElem? (i := 751) (by decide +kernel), List.mem_of_getElem? (i := 752) (by decide +kernel)⟩
def lw_privs_2 : List (MethodName × Nat) := [(⟨"Tollgate$Matching", "away", "(II)I"⟩, 5), (⟨"Tollgate$Matching", "isNearer", "(III)Z"⟩, 5), (⟨"Tollgate$Matching", "bind", "(III)V"⟩, 5), (⟨"Tollgate$Matching", "bindFirstTwo", "(II)V"⟩, 5), (⟨"Tollgate$Matching", "secondBehind", "(II)I"⟩, 5), (⟨"Tollgate", "standOf", "(I)J"⟩, 10), (⟨"Tollgate", "hadIf", "(II)J"⟩, 10), (⟨"Tollgate", "mixAccount", "(JI)J"⟩, 10), (⟨"Tollgate", "mixEntry", "(JI)J"⟩, 10)]
theorem lw_r2 : ∀ q ∈ lw_privs_2, lw_okq q := List.forall_mem_cons.mpr ⟨lw_p16, List.forall_mem_cons.mpr ⟨lw_p17, List.forall_mem_cons.mpr ⟨lw_p18, List.forall_mem_cons.mpr ⟨lw_p19, List.forall_mem_cons.mpr ⟨lw_p20, List.forall_mem_cons.mpr ⟨lw_p21, List.forall_mem_cons.mpr ⟨lw_p22, List.forall_mem_cons.mpr ⟨lw_p23, List.forall_mem_cons.mpr ⟨lw_p24, fun _ h => absurd h List.not_mem_nil⟩⟩⟩⟩⟩⟩⟩⟩⟩
def lw_privs : List (MethodName × Nat) := lw_privs_1 ++ (lw_privs_2)
def lw_tbl : List Cond := k2_sels lw_privs ++ tables_1
theorem lw_privs_ok : ∀ q ∈ lw_privs, lw_okq q := by
  show ∀ q ∈ lw_privs_1 ++ (lw_privs_2), lw_okq q
  exact List.forall_mem_append.mpr ⟨lw_r1, lw_r2⟩
-- ===== end of PART A; then your names; then what follows =====
end
section
/-! ===== BEGIN words of one list among another's, by their places ===== -/
theorem goodIn_r {big : List Cond} (ws : List Cond) (ps : List Nat) (hp : ws = ps.filterMap (fun i => big[i]?)) (h : ws.all goodWord = true) : GoodIn big ws := by
  intro w hw
  have h1 := List.all_eq_true.mp h w hw
  rw [hp] at hw
  obtain ⟨i, -, hi⟩ := List.mem_filterMap.mp hw
  have hm : w ∈ big := by first | exact List.mem_of_getElem? hi | exact List.getElem?_mem hi
  exact ⟨hm, good_of_word h1⟩
theorem goodIn_app {big a b : List Cond} (ha : GoodIn big a) (hb : GoodIn big b) : GoodIn big (a ++ b) := fun w h => (List.mem_append.mp h).elim (ha w) (hb w)
theorem goodIn_ca {big a b : List Cond} {c : Cond} (ha : GoodIn big (c :: a)) (hb : GoodIn big b) : GoodIn big (c :: (a ++ b)) := fun w h => (List.mem_cons.mp h).elim (fun e => ha w (List.mem_cons.mpr (Or.inl e))) (fun h => (List.mem_append.mp h).elim (fun h => ha w (List.mem_cons.mpr (Or.inr h))) (hb w))
theorem goodIn_sub {big ws : List Cond} (hm : ∀ w ∈ ws, w ∈ big) (h : ws.all goodWord = true) : GoodIn big ws := fun w hw => ⟨hm w hw, good_of_word (List.all_eq_true.mp h w hw)⟩
/-! ===== END ===== -/
def RX0 : String := "Tollgate$Accounts"
def TX0 : u_T := fun k => match k with
  | 0 => ("Tollgate$Accounts", "rates", "[I", true)
  | 1 => ("Tollgate$Accounts", "kind", "[I", true)
  | 2 => ("Tollgate$Accounts", "currency", "[I", true)
  | 3 => ("Tollgate$Accounts", "floors", "[I", true)
  | 4 => ("Tollgate$Accounts", "hasFloor", "[Z", true)
  | _ => ("Tollgate$Accounts", "count", "I", false)
def tyX0 : Nat → FieldType := fun k => match k with
  | 0 => .array .int
  | 1 => .array .int
  | 2 => .array .int
  | 3 => .array .int
  | 4 => .array .boolean
  | _ => .int
abbrev wsX00 : List Cond := u_ws RX0 TX0 6
theorem nmX0 : ∀ a, a < 6 → ∀ b, b < 6 → a ≠ b → (TX0 a).2.1 ≠ (TX0 b).2.1 := by decide +kernel
theorem tyX0_ok : ∀ k, k < 6 → parseFieldDescriptor (TX0 k).2.2.1 = some (tyX0 k) := by decide +kernel
abbrev cX0_init : ByteArray := prog_2_method_1_code
def yX0_init : MethodName := ⟨RX0, "<init>", "()V"⟩
abbrev cX0_add : ByteArray := prog_2_method_2_code
def yX0_add : MethodName := ⟨RX0, "add", "(II)I"⟩
abbrev cX0_anyIn : ByteArray := prog_2_method_3_code
def yX0_anyIn : MethodName := ⟨RX0, "anyIn", "(I)Z"⟩
abbrev cX0_isClosed : ByteArray := prog_2_method_4_code
def yX0_isClosed : MethodName := ⟨RX0, "isClosed", "(I)Z"⟩
abbrev cX0_stand : ByteArray := prog_2_method_5_code
def yX0_stand : MethodName := ⟨RX0, "stand", "(IJ)J"⟩
abbrev cX0_worth : ByteArray := prog_2_method_6_code
def yX0_worth : MethodName := ⟨RX0, "worth", "(IJ)J"⟩
def RX1 : String := "Tollgate$Draft"
def TX1 : u_T := fun k => match k with
  | 0 => ("Tollgate$Draft", "legs", "LTollgate$LegRow;", true)
  | 1 => ("Tollgate$Draft", "isThere", "Z", false)
  | 2 => ("Tollgate$Draft", "day", "I", false)
  | _ => ("Tollgate$Draft", "note", "I", false)
def tyX1 : Nat → FieldType := fun k => match k with
  | 0 => .object "Tollgate$LegRow"
  | 1 => .boolean
  | 2 => .int
  | _ => .int
abbrev wsX10 : List Cond := u_ws RX1 TX1 4
theorem nmX1 : ∀ a, a < 4 → ∀ b, b < 4 → a ≠ b → (TX1 a).2.1 ≠ (TX1 b).2.1 := by decide +kernel
theorem tyX1_ok : ∀ k, k < 4 → parseFieldDescriptor (TX1 k).2.2.1 = some (tyX1 k) := by decide +kernel
abbrev cX1_init : ByteArray := prog_3_method_1_code
def yX1_init : MethodName := ⟨RX1, "<init>", "()V"⟩
abbrev cX1_begin : ByteArray := prog_3_method_2_code
def yX1_begin : MethodName := ⟨RX1, "begin", "(II)V"⟩
abbrev cX1_forget : ByteArray := prog_3_method_3_code
def yX1_forget : MethodName := ⟨RX1, "forget", "()V"⟩
def RX2 : String := "Tollgate$Holds"
def TX2 : u_T := fun k => match k with
  | 0 => ("Tollgate$Holds", "account", "[I", true)
  | 1 => ("Tollgate$Holds", "amount", "[I", true)
  | 2 => ("Tollgate$Holds", "lastDay", "[I", true)
  | 3 => ("Tollgate$Holds", "isEnded", "[Z", true)
  | _ => ("Tollgate$Holds", "count", "I", false)
def tyX2 : Nat → FieldType := fun k => match k with
  | 0 => .array .int
  | 1 => .array .int
  | 2 => .array .int
  | 3 => .array .boolean
  | _ => .int
abbrev wsX20 : List Cond := u_ws RX2 TX2 5
theorem nmX2 : ∀ a, a < 5 → ∀ b, b < 5 → a ≠ b → (TX2 a).2.1 ≠ (TX2 b).2.1 := by decide +kernel
theorem tyX2_ok : ∀ k, k < 5 → parseFieldDescriptor (TX2 k).2.2.1 = some (tyX2 k) := by decide +kernel
abbrev cX2_init : ByteArray := prog_4_method_1_code
def yX2_init : MethodName := ⟨RX2, "<init>", "()V"⟩
abbrev cX2_isOpen : ByteArray := prog_4_method_3_code
def yX2_isOpen : MethodName := ⟨RX2, "isOpen", "(II)Z"⟩
abbrev cX2_heldOn : ByteArray := prog_4_method_4_code
def yX2_heldOn : MethodName := ⟨RX2, "heldOn", "(III)J"⟩
abbrev cX2_countOpen : ByteArray := prog_4_method_5_code
def yX2_countOpen : MethodName := ⟨RX2, "countOpen", "(I)I"⟩
def RX3 : String := "Tollgate$Journal"
def TX3 : u_T := fun k => match k with
  | 0 => ("Tollgate$Journal", "day", "[I", true)
  | 1 => ("Tollgate$Journal", "note", "[I", true)
  | 2 => ("Tollgate$Journal", "firstLeg", "[I", true)
  | 3 => ("Tollgate$Journal", "legsOf", "[I", true)
  | 4 => ("Tollgate$Journal", "gone", "[Z", true)
  | 5 => ("Tollgate$Journal", "isClosing", "[Z", true)
  | 6 => ("Tollgate$Journal", "count", "I", false)
  | 7 => ("Tollgate$Journal", "entryOf", "[I", true)
  | 8 => ("Tollgate$Journal", "account", "[I", true)
  | 9 => ("Tollgate$Journal", "amount", "[J", true)
  | 10 => ("Tollgate$Journal", "worth", "[J", true)
  | _ => ("Tollgate$Journal", "legCount", "I", false)
def tyX3 : Nat → FieldType := fun k => match k with
  | 0 => .array .int
  | 1 => .array .int
  | 2 => .array .int
  | 3 => .array .int
  | 4 => .array .boolean
  | 5 => .array .boolean
  | 6 => .int
  | 7 => .array .int
  | 8 => .array .int
  | 9 => .array .long
  | 10 => .array .long
  | _ => .int
abbrev wsX30 : List Cond := u_ws RX3 TX3 12
theorem nmX3 : ∀ a, a < 12 → ∀ b, b < 12 → a ≠ b → (TX3 a).2.1 ≠ (TX3 b).2.1 := by decide +kernel
theorem tyX3_ok : ∀ k, k < 12 → parseFieldDescriptor (TX3 k).2.2.1 = some (tyX3 k) := by decide +kernel
abbrev cX3_init : ByteArray := prog_5_method_1_code
def yX3_init : MethodName := ⟨RX3, "<init>", "()V"⟩
abbrev cX3_has : ByteArray := prog_5_method_2_code
def yX3_has : MethodName := ⟨RX3, "has", "(I)Z"⟩
abbrev cX3_isFull : ByteArray := prog_5_method_3_code
def yX3_isFull : MethodName := ⟨RX3, "isFull", "()Z"⟩
abbrev cX3_enter : ByteArray := prog_5_method_4_code
def yX3_enter : MethodName := ⟨RX3, "enter", "(IIZLTollgate$LegRow;)I"⟩
abbrev cX3_addLeg : ByteArray := prog_5_method_5_code
def yX3_addLeg : MethodName := ⟨RX3, "addLeg", "(IIJJ)V"⟩
abbrev cX3_counts : ByteArray := prog_5_method_6_code
def yX3_counts : MethodName := ⟨RX3, "counts", "(I)Z"⟩
abbrev cX3_dayOf : ByteArray := prog_5_method_7_code
def yX3_dayOf : MethodName := ⟨RX3, "dayOf", "(I)I"⟩
abbrev cX3_lastClosing : ByteArray := prog_5_method_8_code
def yX3_lastClosing : MethodName := ⟨RX3, "lastClosing", "()I"⟩
abbrev cX3_lastLocked : ByteArray := prog_5_method_9_code
def yX3_lastLocked : MethodName := ⟨RX3, "lastLocked", "()I"⟩
abbrev cX3_countStanding : ByteArray := prog_5_method_10_code
def yX3_countStanding : MethodName := ⟨RX3, "countStanding", "()I"⟩
abbrev cX3_amountUpTo : ByteArray := prog_5_method_12_code
def yX3_amountUpTo : MethodName := ⟨RX3, "amountUpTo", "(II)J"⟩
abbrev cX3_worthOn : ByteArray := prog_5_method_13_code
def yX3_worthOn : MethodName := ⟨RX3, "worthOn", "(I)J"⟩
abbrev cX3_worthBetween : ByteArray := prog_5_method_14_code
def yX3_worthBetween : MethodName := ⟨RX3, "worthBetween", "(III)J"⟩
def RX4 : String := "Tollgate$LegRow"
def TX4 : u_T := fun k => match k with
  | 0 => ("Tollgate$LegRow", "account", "[I", true)
  | 1 => ("Tollgate$LegRow", "amount", "[J", true)
  | 2 => ("Tollgate$LegRow", "worth", "[J", true)
  | _ => ("Tollgate$LegRow", "count", "I", false)
def tyX4 : Nat → FieldType := fun k => match k with
  | 0 => .array .int
  | 1 => .array .long
  | 2 => .array .long
  | _ => .int
abbrev wsX40 : List Cond := u_ws RX4 TX4 4
theorem nmX4 : ∀ a, a < 4 → ∀ b, b < 4 → a ≠ b → (TX4 a).2.1 ≠ (TX4 b).2.1 := by decide +kernel
theorem tyX4_ok : ∀ k, k < 4 → parseFieldDescriptor (TX4 k).2.2.1 = some (tyX4 k) := by decide +kernel
abbrev cX4_init : ByteArray := prog_6_method_1_code
def yX4_init : MethodName := ⟨RX4, "<init>", "()V"⟩
abbrev cX4_add : ByteArray := prog_6_method_2_code
def yX4_add : MethodName := ⟨RX4, "add", "(IJJ)V"⟩
abbrev cX4_worthSum : ByteArray := prog_6_method_3_code
def yX4_worthSum : MethodName := ⟨RX4, "worthSum", "()J"⟩
abbrev cX4_amountOn : ByteArray := prog_6_method_4_code
def yX4_amountOn : MethodName := ⟨RX4, "amountOn", "(I)J"⟩
def RX5 : String := "Tollgate$Lines"
def TX5 : u_T := fun k => match k with
  | 0 => ("Tollgate$Lines", "account", "[I", true)
  | 1 => ("Tollgate$Lines", "day", "[I", true)
  | 2 => ("Tollgate$Lines", "amount", "[I", true)
  | 3 => ("Tollgate$Lines", "byDay", "[I", true)
  | _ => ("Tollgate$Lines", "count", "I", false)
def tyX5 : Nat → FieldType := fun k => match k with
  | 0 => .array .int
  | 1 => .array .int
  | 2 => .array .int
  | 3 => .array .int
  | _ => .int
abbrev wsX50 : List Cond := u_ws RX5 TX5 5
theorem nmX5 : ∀ a, a < 5 → ∀ b, b < 5 → a ≠ b → (TX5 a).2.1 ≠ (TX5 b).2.1 := by decide +kernel
theorem tyX5_ok : ∀ k, k < 5 → parseFieldDescriptor (TX5 k).2.2.1 = some (tyX5 k) := by decide +kernel
abbrev cX5_init : ByteArray := prog_7_method_1_code
def yX5_init : MethodName := ⟨RX5, "<init>", "()V"⟩
abbrev cX5_add : ByteArray := prog_7_method_2_code
def yX5_add : MethodName := ⟨RX5, "add", "(III)I"⟩
abbrev cX5_sortIn : ByteArray := prog_7_method_3_code
def yX5_sortIn : MethodName := ⟨RX5, "sortIn", "(I)V"⟩
abbrev cX5_countOf : ByteArray := prog_7_method_4_code
def yX5_countOf : MethodName := ⟨RX5, "countOf", "(I)I"⟩
def RX6 : String := "Tollgate$Matching"
def TX6 : u_T := fun k => match k with
  | 0 => ("Tollgate$Matching", "journal", "LTollgate$Journal;", true)
  | 1 => ("Tollgate$Matching", "lines", "LTollgate$Lines;", true)
  | 2 => ("Tollgate$Matching", "lineOfLeg", "[I", true)
  | 3 => ("Tollgate$Matching", "firstOfLine", "[I", true)
  | _ => ("Tollgate$Matching", "secondOfLine", "[I", true)
def tyX6 : Nat → FieldType := fun k => match k with
  | 0 => .object "Tollgate$Journal"
  | 1 => .object "Tollgate$Lines"
  | 2 => .array .int
  | 3 => .array .int
  | _ => .array .int
abbrev wsX60 : List Cond := u_ws RX6 TX6 5
theorem nmX6 : ∀ a, a < 5 → ∀ b, b < 5 → a ≠ b → (TX6 a).2.1 ≠ (TX6 b).2.1 := by decide +kernel
theorem tyX6_ok : ∀ k, k < 5 → parseFieldDescriptor (TX6 k).2.2.1 = some (tyX6 k) := by decide +kernel
abbrev cX6_init : ByteArray := prog_8_method_1_code
def yX6_init : MethodName := ⟨RX6, "<init>", "(LTollgate$Journal;LTollgate$Lines;)V"⟩
abbrev cX6_pairUp : ByteArray := prog_8_method_2_code
def yX6_pairUp : MethodName := ⟨RX6, "pairUp", "(II)I"⟩
abbrev cX6_isLeft : ByteArray := prog_8_method_3_code
def yX6_isLeft : MethodName := ⟨RX6, "isLeft", "(II)Z"⟩
abbrev cX6_isLegLeft : ByteArray := prog_8_method_4_code
def yX6_isLegLeft : MethodName := ⟨RX6, "isLegLeft", "(II)Z"⟩
abbrev cX6_away : ByteArray := prog_8_method_5_code
def yX6_away : MethodName := ⟨RX6, "away", "(II)I"⟩
abbrev cX6_bindNearest : ByteArray := prog_8_method_6_code
def yX6_bindNearest : MethodName := ⟨RX6, "bindNearest", "(II)V"⟩
abbrev cX6_isNearer : ByteArray := prog_8_method_7_code
def yX6_isNearer : MethodName := ⟨RX6, "isNearer", "(III)Z"⟩
abbrev cX6_bindFirstTwo : ByteArray := prog_8_method_8_code
def yX6_bindFirstTwo : MethodName := ⟨RX6, "bindFirstTwo", "(II)V"⟩
abbrev cX6_secondBehind : ByteArray := prog_8_method_9_code
def yX6_secondBehind : MethodName := ⟨RX6, "secondBehind", "(II)I"⟩
abbrev cX6_bind : ByteArray := prog_8_method_10_code
def yX6_bind : MethodName := ⟨RX6, "bind", "(III)V"⟩
abbrev cX6_freeLine : ByteArray := prog_8_method_11_code
def yX6_freeLine : MethodName := ⟨RX6, "freeLine", "(I)V"⟩
abbrev cX6_freeLegsOf : ByteArray := prog_8_method_12_code
def yX6_freeLegsOf : MethodName := ⟨RX6, "freeLegsOf", "(I)V"⟩
abbrev cX6_linesLeft : ByteArray := prog_8_method_13_code
def yX6_linesLeft : MethodName := ⟨RX6, "linesLeft", "(I)I"⟩
abbrev cX6_lineSumLeft : ByteArray := prog_8_method_14_code
def yX6_lineSumLeft : MethodName := ⟨RX6, "lineSumLeft", "(I)J"⟩
abbrev cX6_legsLeft : ByteArray := prog_8_method_15_code
def yX6_legsLeft : MethodName := ⟨RX6, "legsLeft", "(I)I"⟩
abbrev cX6_legSumLeft : ByteArray := prog_8_method_16_code
def yX6_legSumLeft : MethodName := ⟨RX6, "legSumLeft", "(I)J"⟩
def RX7 : String := "Tollgate"
def TX7 : u_T := fun k => match k with
  | 0 => ("Tollgate", "accounts", "LTollgate$Accounts;", true)
  | 1 => ("Tollgate", "draft", "LTollgate$Draft;", true)
  | 2 => ("Tollgate", "journal", "LTollgate$Journal;", true)
  | 3 => ("Tollgate", "holds", "LTollgate$Holds;", true)
  | 4 => ("Tollgate", "lines", "LTollgate$Lines;", true)
  | 5 => ("Tollgate", "kept", "LTollgate$Matching;", true)
  | 6 => ("Tollgate", "trial", "LTollgate$Matching;", true)
  | 7 => ("Tollgate", "plan", "LTollgate$LegRow;", true)
  | 8 => ("Tollgate", "exchangeAccount", "I", false)
  | _ => ("Tollgate", "today", "I", false)
def tyX7 : Nat → FieldType := fun k => match k with
  | 0 => .object "Tollgate$Accounts"
  | 1 => .object "Tollgate$Draft"
  | 2 => .object "Tollgate$Journal"
  | 3 => .object "Tollgate$Holds"
  | 4 => .object "Tollgate$Lines"
  | 5 => .object "Tollgate$Matching"
  | 6 => .object "Tollgate$Matching"
  | 7 => .object "Tollgate$LegRow"
  | 8 => .int
  | _ => .int
abbrev wsX70 : List Cond := u_ws RX7 TX7 10
theorem nmX7 : ∀ a, a < 10 → ∀ b, b < 10 → a ≠ b → (TX7 a).2.1 ≠ (TX7 b).2.1 := by decide +kernel
theorem tyX7_ok : ∀ k, k < 10 → parseFieldDescriptor (TX7 k).2.2.1 = some (tyX7 k) := by decide +kernel
abbrev cX7_init : ByteArray := prog_1_method_1_code
def yX7_init : MethodName := ⟨RX7, "<init>", "()V"⟩
abbrev cX7_rate : ByteArray := prog_1_method_2_code
def yX7_rate : MethodName := ⟨RX7, "rate", "(II)I"⟩
abbrev cX7_account : ByteArray := prog_1_method_3_code
def yX7_account : MethodName := ⟨RX7, "account", "(II)I"⟩
abbrev cX7_exchange : ByteArray := prog_1_method_5_code
def yX7_exchange : MethodName := ⟨RX7, "exchange", "(I)I"⟩
abbrev cX7_pass : ByteArray := prog_1_method_6_code
def yX7_pass : MethodName := ⟨RX7, "pass", "(I)I"⟩
abbrev cX7_draft : ByteArray := prog_1_method_7_code
def yX7_draft : MethodName := ⟨RX7, "draft", "(II)I"⟩
abbrev cX7_leg : ByteArray := prog_1_method_8_code
def yX7_leg : MethodName := ⟨RX7, "leg", "(II)J"⟩
abbrev cX7_post : ByteArray := prog_1_method_9_code
def yX7_post : MethodName := ⟨RX7, "post", "()I"⟩
abbrev cX7_reason : ByteArray := prog_1_method_10_code
def yX7_reason : MethodName := ⟨RX7, "reason", "()I"⟩
abbrev cX7_ofEntry : ByteArray := prog_1_method_12_code
def yX7_ofEntry : MethodName := ⟨RX7, "ofEntry", "(II)I"⟩
abbrev cX7_ofLeg : ByteArray := prog_1_method_13_code
def yX7_ofLeg : MethodName := ⟨RX7, "ofLeg", "(III)J"⟩
abbrev cX7_close : ByteArray := prog_1_method_17_code
def yX7_close : MethodName := ⟨RX7, "close", "(II)I"⟩
abbrev cX7_open : ByteArray := prog_1_method_18_code
def yX7_open : MethodName := ⟨RX7, "open", "()I"⟩
abbrev cX7_line : ByteArray := prog_1_method_19_code
def yX7_line : MethodName := ⟨RX7, "line", "(III)I"⟩
abbrev cX7_match : ByteArray := prog_1_method_20_code
def yX7_match : MethodName := ⟨RX7, "match", "(II)I"⟩
abbrev cX7_left : ByteArray := prog_1_method_21_code
def yX7_left : MethodName := ⟨RX7, "left", "(II)J"⟩
abbrev cX7_matched : ByteArray := prog_1_method_22_code
def yX7_matched : MethodName := ⟨RX7, "matched", "(I)I"⟩
abbrev cX7_many : ByteArray := prog_1_method_23_code
def yX7_many : MethodName := ⟨RX7, "many", "(I)I"⟩
abbrev cX7_told : ByteArray := prog_1_method_24_code
def yX7_told : MethodName := ⟨RX7, "told", "(II)J"⟩
abbrev cX7_at : ByteArray := prog_1_method_25_code
def yX7_at : MethodName := ⟨RX7, "at", "(II)J"⟩
abbrev cX7_ofKind : ByteArray := prog_1_method_26_code
def yX7_ofKind : MethodName := ⟨RX7, "ofKind", "(I)J"⟩
abbrev cX7_earned : ByteArray := prog_1_method_27_code
def yX7_earned : MethodName := ⟨RX7, "earned", "(II)J"⟩
abbrev cX7_hadOn : ByteArray := prog_1_method_28_code
def yX7_hadOn : MethodName := ⟨RX7, "hadOn", "(II)J"⟩
abbrev cX7_wouldMatch : ByteArray := prog_1_method_29_code
def yX7_wouldMatch : MethodName := ⟨RX7, "wouldMatch", "(II)I"⟩
abbrev cX7_wouldClose : ByteArray := prog_1_method_30_code
def yX7_wouldClose : MethodName := ⟨RX7, "wouldClose", "(I)J"⟩
abbrev cX7_digest : ByteArray := prog_1_method_32_code
def yX7_digest : MethodName := ⟨RX7, "digest", "()J"⟩
abbrev cX7_mix : ByteArray := prog_1_method_33_code
def yX7_mix : MethodName := ⟨RX7, "mix", "(JJ)J"⟩
abbrev cX7_mixAccount : ByteArray := prog_1_method_34_code
def yX7_mixAccount : MethodName := ⟨RX7, "mixAccount", "(JI)J"⟩
abbrev cX7_mixEntry : ByteArray := prog_1_method_35_code
def yX7_mixEntry : MethodName := ⟨RX7, "mixEntry", "(JI)J"⟩
abbrev cX7_needAccount : ByteArray := prog_1_method_36_code
def yX7_needAccount : MethodName := ⟨RX7, "needAccount", "(I)V"⟩
abbrev cX7_needEntry : ByteArray := prog_1_method_37_code
def yX7_needEntry : MethodName := ⟨RX7, "needEntry", "(I)V"⟩
abbrev cX7_needDay : ByteArray := prog_1_method_40_code
def yX7_needDay : MethodName := ⟨RX7, "needDay", "(I)V"⟩
abbrev cX7_needAmount : ByteArray := prog_1_method_41_code
def yX7_needAmount : MethodName := ⟨RX7, "needAmount", "(I)V"⟩
abbrev cX7_needDaysAway : ByteArray := prog_1_method_42_code
def yX7_needDaysAway : MethodName := ⟨RX7, "needDaysAway", "(I)V"⟩
abbrev cX7_standOf : ByteArray := prog_1_method_44_code
def yX7_standOf : MethodName := ⟨RX7, "standOf", "(I)J"⟩
abbrev cX7_hadIf : ByteArray := prog_1_method_45_code
def yX7_hadIf : MethodName := ⟨RX7, "hadIf", "(II)J"⟩
abbrev cX7_whyNotPosted : ByteArray := prog_1_method_46_code
def yX7_whyNotPosted : MethodName := ⟨RX7, "whyNotPosted", "()I"⟩
abbrev cX7_canBeExchanged : ByteArray := prog_1_method_47_code
def yX7_canBeExchanged : MethodName := ⟨RX7, "canBeExchanged", "()Z"⟩
abbrev cX7_draftHasTwoCurrencies : ByteArray := prog_1_method_48_code
def yX7_draftHasTwoCurrencies : MethodName := ⟨RX7, "draftHasTwoCurrencies", "()Z"⟩
abbrev cX7_planLeg : ByteArray := prog_1_method_49_code
def yX7_planLeg : MethodName := ⟨RX7, "planLeg", "(IJ)V"⟩
abbrev cX7_planDraft : ByteArray := prog_1_method_50_code
def yX7_planDraft : MethodName := ⟨RX7, "planDraft", "()V"⟩
abbrev cX7_planClosing : ByteArray := prog_1_method_53_code
def yX7_planClosing : MethodName := ⟨RX7, "planClosing", "(I)V"⟩
abbrev cX7_planKeepsFloors : ByteArray := prog_1_method_54_code
def yX7_planKeepsFloors : MethodName := ⟨RX7, "planKeepsFloors", "(I)Z"⟩
def RX8 : String := "TollgateModel$Account"
def TX8 : u_T := fun k => match k with
  | _ => ("", "", "", false)
def tyX8 : Nat → FieldType := fun k => match k with
  | _ => .int
abbrev wsX80 : List Cond := u_ws RX8 TX8 0
theorem nmX8 : ∀ a, a < 0 → ∀ b, b < 0 → a ≠ b → (TX8 a).2.1 ≠ (TX8 b).2.1 := by decide +kernel
theorem tyX8_ok : ∀ k, k < 0 → parseFieldDescriptor (TX8 k).2.2.1 = some (tyX8 k) := by decide +kernel
def RX9 : String := "TollgateModel$Dated"
def TX9 : u_T := fun k => match k with
  | _ => ("", "", "", false)
def tyX9 : Nat → FieldType := fun k => match k with
  | _ => .int
abbrev wsX90 : List Cond := u_ws RX9 TX9 0
theorem nmX9 : ∀ a, a < 0 → ∀ b, b < 0 → a ≠ b → (TX9 a).2.1 ≠ (TX9 b).2.1 := by decide +kernel
theorem tyX9_ok : ∀ k, k < 0 → parseFieldDescriptor (TX9 k).2.2.1 = some (tyX9 k) := by decide +kernel
def RX10 : String := "TollgateModel$Entry"
def TX10 : u_T := fun k => match k with
  | _ => ("", "", "", false)
def tyX10 : Nat → FieldType := fun k => match k with
  | _ => .int
abbrev wsX100 : List Cond := u_ws RX10 TX10 0
theorem nmX10 : ∀ a, a < 0 → ∀ b, b < 0 → a ≠ b → (TX10 a).2.1 ≠ (TX10 b).2.1 := by decide +kernel
theorem tyX10_ok : ∀ k, k < 0 → parseFieldDescriptor (TX10 k).2.2.1 = some (tyX10 k) := by decide +kernel
def RX11 : String := "TollgateModel$Hold"
def TX11 : u_T := fun k => match k with
  | _ => ("", "", "", false)
def tyX11 : Nat → FieldType := fun k => match k with
  | _ => .int
abbrev wsX110 : List Cond := u_ws RX11 TX11 0
theorem nmX11 : ∀ a, a < 0 → ∀ b, b < 0 → a ≠ b → (TX11 a).2.1 ≠ (TX11 b).2.1 := by decide +kernel
theorem tyX11_ok : ∀ k, k < 0 → parseFieldDescriptor (TX11 k).2.2.1 = some (tyX11 k) := by decide +kernel
def RX12 : String := "TollgateModel$Leg"
def TX12 : u_T := fun k => match k with
  | _ => ("", "", "", false)
def tyX12 : Nat → FieldType := fun k => match k with
  | _ => .int
abbrev wsX120 : List Cond := u_ws RX12 TX12 0
theorem nmX12 : ∀ a, a < 0 → ∀ b, b < 0 → a ≠ b → (TX12 a).2.1 ≠ (TX12 b).2.1 := by decide +kernel
theorem tyX12_ok : ∀ k, k < 0 → parseFieldDescriptor (TX12 k).2.2.1 = some (tyX12 k) := by decide +kernel
def RX13 : String := "TollgateModel$Line"
def TX13 : u_T := fun k => match k with
  | _ => ("", "", "", false)
def tyX13 : Nat → FieldType := fun k => match k with
  | _ => .int
abbrev wsX130 : List Cond := u_ws RX13 TX13 0
theorem nmX13 : ∀ a, a < 0 → ∀ b, b < 0 → a ≠ b → (TX13 a).2.1 ≠ (TX13 b).2.1 := by decide +kernel
theorem tyX13_ok : ∀ k, k < 0 → parseFieldDescriptor (TX13 k).2.2.1 = some (tyX13 k) := by decide +kernel
def RX14 : String := "TollgateModel"
def TX14 : u_T := fun k => match k with
  | _ => ("", "", "", false)
def tyX14 : Nat → FieldType := fun k => match k with
  | _ => .int
abbrev wsX140 : List Cond := u_ws RX14 TX14 0
theorem nmX14 : ∀ a, a < 0 → ∀ b, b < 0 → a ≠ b → (TX14 a).2.1 ≠ (TX14 b).2.1 := by decide +kernel
theorem tyX14_ok : ∀ k, k < 0 → parseFieldDescriptor (TX14 k).2.2.1 = some (tyX14 k) := by decide +kernel
def RJx145de : String := "java/io/Serializable"
def TJx145de : u_T := fun k => match k with
  | _ => ("", "", "", false)
def tyJx145de : Nat → FieldType := fun k => match k with
  | _ => .int
abbrev wsJx145de0 : List Cond := u_ws RJx145de TJx145de 0
theorem nmJx145de : ∀ a, a < 0 → ∀ b, b < 0 → a ≠ b → (TJx145de a).2.1 ≠ (TJx145de b).2.1 := by decide +kernel
theorem tyJx145de_ok : ∀ k, k < 0 → parseFieldDescriptor (TJx145de k).2.2.1 = some (tyJx145de k) := by decide +kernel
def RJ9 : String := "java/lang/Math"
def TJ9 : u_T := fun k => match k with
  | _ => ("", "", "", false)
def tyJ9 : Nat → FieldType := fun k => match k with
  | _ => .int
abbrev wsJ90 : List Cond := u_ws RJ9 TJ9 0
theorem nmJ9 : ∀ a, a < 0 → ∀ b, b < 0 → a ≠ b → (TJ9 a).2.1 ≠ (TJ9 b).2.1 := by decide +kernel
theorem tyJ9_ok : ∀ k, k < 0 → parseFieldDescriptor (TJ9 k).2.2.1 = some (tyJ9 k) := by decide +kernel
abbrev cJ9_abs_0f7a4 : ByteArray := prog_21_method_59_code
def yJ9_abs_0f7a4 : MethodName := ⟨RJ9, "abs", "(I)I"⟩
abbrev cJ9_abs_067f4 : ByteArray := prog_21_method_61_code
def yJ9_abs_067f4 : MethodName := ⟨RJ9, "abs", "(J)J"⟩
def RJ0 : String := "java/lang/String"
def TJ0 : u_T := fun k => match k with
  | _ => ("", "", "", false)
def tyJ0 : Nat → FieldType := fun k => match k with
  | _ => .int
abbrev wsJ00 : List Cond := u_ws RJ0 TJ0 0
theorem nmJ0 : ∀ a, a < 0 → ∀ b, b < 0 → a ≠ b → (TJ0 a).2.1 ≠ (TJ0 b).2.1 := by decide +kernel
theorem tyJ0_ok : ∀ k, k < 0 → parseFieldDescriptor (TJ0 k).2.2.1 = some (tyJ0 k) := by decide +kernel
def RL : String := "TollgateLaw"
abbrev cL_below : ByteArray := method_2_code
def yL_below : MethodName := ⟨RL, "below", "(II)I"⟩
abbrev cL_cell : ByteArray := method_3_code
def yL_cell : MethodName := ⟨RL, "cell", "([II)I"⟩
abbrev cL_law : ByteArray := code
def yL_law : MethodName := ⟨RL, "law", "([I)Z"⟩
def wsL_below : List Cond := .code yL_below cL_below 2 (some .int) :: ([.constant RL 7 (2147483647)])
def wsL_cell : List Cond := .code yL_cell cL_cell 2 (some .int) :: ([.constant RL 8 (790386105)])
def wsL_law0_r1 : List Cond := [Cond.classLink RL 9 RX7, Cond.instantiable RX7 10, Cond.initialized RX7, Cond.methodLink RL 95 Lib.MathLoose.abs_long.x, Cond.static Lib.MathLoose.abs_long.x, Cond.initialized "java/lang/Math", Cond.code Lib.MathLoose.abs_long.x Lib.MathLoose.abs_long.code 2 (some .long), Cond.methodLink RL 11 yX7_init, Cond.instanceMethod yX7_init, Cond.code yX7_init cX7_init 1 none, Cond.methodLink RX7 3 objectInit, Cond.instanceMethod objectInit, Cond.code objectInit ⟨#[0xb1]⟩ 1 none, Cond.classLink RX7 9 RX0, Cond.instantiable RX0 6, Cond.initialized RX0, Cond.fieldLink RX7 12 "Tollgate" "accounts" "LTollgate$Accounts;", Cond.classLink RX7 16 RX1, Cond.instantiable RX1 4, Cond.initialized RX1, Cond.fieldLink RX7 19 "Tollgate" "draft" "LTollgate$Draft;", Cond.classLink RX7 23 RX3, Cond.instantiable RX3 12, Cond.initialized RX3]
def wsL_law0_r2 : List Cond := [Cond.fieldLink RX7 26 "Tollgate" "journal" "LTollgate$Journal;", Cond.classLink RX7 30 RX2, Cond.instantiable RX2 5, Cond.initialized RX2, Cond.fieldLink RX7 33 "Tollgate" "holds" "LTollgate$Holds;", Cond.classLink RX7 37 RX5, Cond.instantiable RX5 5, Cond.initialized RX5, Cond.fieldLink RX7 40 "Tollgate" "lines" "LTollgate$Lines;", Cond.classLink RX7 44 RX6, Cond.instantiable RX6 5, Cond.initialized RX6, Cond.fieldLink RX7 49 "Tollgate" "kept" "LTollgate$Matching;", Cond.fieldLink RX7 53 "Tollgate" "trial" "LTollgate$Matching;", Cond.classLink RX7 56 RX4, Cond.instantiable RX4 4, Cond.initialized RX4, Cond.fieldLink RX7 59 "Tollgate" "plan" "LTollgate$LegRow;", Cond.fieldLink RX7 63 "Tollgate" "exchangeAccount" "I", Cond.fieldLink RX7 67 "Tollgate" "today" "I", Cond.instanceMethod yX0_init, Cond.code yX0_init cX0_init 1 none, Cond.methodLink RX0 3 objectInit, Cond.arrayClass .int]
def wsL_law0_r3 : List Cond := [Cond.fieldLink RX0 9 "Tollgate$Accounts" "rates" "[I", Cond.fieldLink RX0 15 "Tollgate$Accounts" "kind" "[I", Cond.fieldLink RX0 18 "Tollgate$Accounts" "currency" "[I", Cond.fieldLink RX0 21 "Tollgate$Accounts" "floors" "[I", Cond.arrayClass .boolean, Cond.fieldLink RX0 24 "Tollgate$Accounts" "hasFloor" "[Z", Cond.fieldLink RX0 28 "Tollgate$Accounts" "count" "I", Cond.instanceMethod yX1_init, Cond.code yX1_init cX1_init 1 none, Cond.methodLink RX1 1 objectInit, Cond.classLink RX1 7 RX4, Cond.fieldLink RX1 10 "Tollgate$Draft" "legs" "LTollgate$LegRow;", Cond.fieldLink RX1 16 "Tollgate$Draft" "isThere" "Z", Cond.fieldLink RX1 20 "Tollgate$Draft" "day" "I", Cond.fieldLink RX1 24 "Tollgate$Draft" "note" "I", Cond.instanceMethod yX4_init, Cond.code yX4_init cX4_init 1 none, Cond.methodLink RX4 3 objectInit, Cond.fieldLink RX4 9 "Tollgate$LegRow" "account" "[I", Cond.arrayClass .long, Cond.fieldLink RX4 15 "Tollgate$LegRow" "amount" "[J", Cond.fieldLink RX4 19 "Tollgate$LegRow" "worth" "[J", Cond.fieldLink RX4 22 "Tollgate$LegRow" "count" "I", Cond.instanceMethod yX3_init]
def wsL_law0_r4 : List Cond := [Cond.code yX3_init cX3_init 1 none, Cond.methodLink RX3 3 objectInit, Cond.fieldLink RX3 9 "Tollgate$Journal" "day" "[I", Cond.fieldLink RX3 15 "Tollgate$Journal" "note" "[I", Cond.fieldLink RX3 18 "Tollgate$Journal" "firstLeg" "[I", Cond.fieldLink RX3 21 "Tollgate$Journal" "legsOf" "[I", Cond.fieldLink RX3 24 "Tollgate$Journal" "gone" "[Z", Cond.fieldLink RX3 28 "Tollgate$Journal" "isClosing" "[Z", Cond.fieldLink RX3 31 "Tollgate$Journal" "count" "I", Cond.fieldLink RX3 35 "Tollgate$Journal" "entryOf" "[I", Cond.fieldLink RX3 38 "Tollgate$Journal" "account" "[I", Cond.fieldLink RX3 41 "Tollgate$Journal" "amount" "[J", Cond.fieldLink RX3 45 "Tollgate$Journal" "worth" "[J", Cond.fieldLink RX3 48 "Tollgate$Journal" "legCount" "I", Cond.instanceMethod yX2_init, Cond.code yX2_init cX2_init 1 none, Cond.methodLink RX2 3 objectInit, Cond.fieldLink RX2 9 "Tollgate$Holds" "account" "[I", Cond.fieldLink RX2 15 "Tollgate$Holds" "amount" "[I", Cond.fieldLink RX2 18 "Tollgate$Holds" "lastDay" "[I", Cond.fieldLink RX2 21 "Tollgate$Holds" "isEnded" "[Z", Cond.fieldLink RX2 25 "Tollgate$Holds" "count" "I", Cond.instanceMethod yX5_init, Cond.code yX5_init cX5_init 1 none]
def wsL_law0_r5 : List Cond := [Cond.methodLink RX5 3 objectInit, Cond.fieldLink RX5 9 "Tollgate$Lines" "account" "[I", Cond.fieldLink RX5 15 "Tollgate$Lines" "day" "[I", Cond.fieldLink RX5 18 "Tollgate$Lines" "amount" "[I", Cond.fieldLink RX5 21 "Tollgate$Lines" "byDay" "[I", Cond.fieldLink RX5 24 "Tollgate$Lines" "count" "I", Cond.methodLink RX7 46 yX6_init, Cond.instanceMethod yX6_init, Cond.code yX6_init cX6_init 4 none, Cond.methodLink RX6 3 objectInit, Cond.fieldLink RX6 9 "Tollgate$Matching" "lineOfLeg" "[I", Cond.fieldLink RX6 15 "Tollgate$Matching" "firstOfLine" "[I", Cond.fieldLink RX6 18 "Tollgate$Matching" "secondOfLine" "[I", Cond.fieldLink RX6 21 "Tollgate$Matching" "journal" "LTollgate$Journal;", Cond.fieldLink RX6 25 "Tollgate$Matching" "lines" "LTollgate$Lines;", Cond.methodLink RL 12 yL_cell, Cond.static yL_cell, Cond.initialized RL, Cond.code yL_cell cL_cell 2 (some .int), Cond.constant RL 8 (790386105), Cond.methodLink RL 18 yL_below, Cond.static yL_below, Cond.code yL_below cL_below 2 (some .int), Cond.constant RL 7 (2147483647)]
def wsL_law0_r6 : List Cond := [Cond.methodLink RL 22 yX7_rate, Cond.instanceMethod yX7_rate, Cond.selects RX7 yX7_rate yX7_rate, Cond.code yX7_rate cX7_rate 4 (some .int), Cond.classLink RX7 71 "java/lang/IllegalArgumentException", Cond.initialized "java/lang/IllegalArgumentException", Cond.classLink RX7 82 "java/lang/IllegalStateException", Cond.initialized "java/lang/IllegalStateException", Cond.constant RX7 70 (100000), Cond.fieldLink RX7 87 "Tollgate$Accounts" "rates" "[I", Cond.methodLink RX7 78 yX0_anyIn, Cond.instanceMethod yX0_anyIn, Cond.selects RX0 yX0_anyIn yX0_anyIn, Cond.code yX0_anyIn cX0_anyIn 3 (some .boolean), Cond.methodLink RL 25 yX7_account, Cond.instanceMethod yX7_account, Cond.selects RX7 yX7_account yX7_account, Cond.code yX7_account cX7_account 3 (some .int), Cond.fieldLink RX7 93 "Tollgate$Accounts" "count" "I", Cond.methodLink RX7 98 yX0_add, Cond.instanceMethod yX0_add, Cond.selects RX0 yX0_add yX0_add, Cond.code yX0_add cX0_add 3 (some .int), Cond.methodLink RL 28 yX7_exchange]
def wsL_law0_r7 : List Cond := [Cond.instanceMethod yX7_exchange, Cond.selects RX7 yX7_exchange yX7_exchange, Cond.code yX7_exchange cX7_exchange 3 (some .int), Cond.fieldLink RX7 126 "Tollgate$Accounts" "currency" "[I", Cond.methodLink RX7 102 yX7_needAccount, Cond.instanceMethod yX7_needAccount, Cond.selects RX7 yX7_needAccount yX7_needAccount, Cond.code yX7_needAccount cX7_needAccount 2 none, Cond.classLink RX7 194 "java/lang/IndexOutOfBoundsException", Cond.initialized "java/lang/IndexOutOfBoundsException", Cond.methodLink RL 32 yX7_pass, Cond.instanceMethod yX7_pass, Cond.selects RX7 yX7_pass yX7_pass, Cond.code yX7_pass cX7_pass 2 (some .int), Cond.methodLink RL 35 yX7_many, Cond.instanceMethod yX7_many, Cond.selects RX7 yX7_many yX7_many, Cond.code yX7_many cX7_many 2 (some .int), Cond.fieldLink RX7 301 "Tollgate$Lines" "count" "I", Cond.methodLink RX7 337 yX3_countStanding, Cond.instanceMethod yX3_countStanding, Cond.selects RX3 yX3_countStanding yX3_countStanding, Cond.code yX3_countStanding cX3_countStanding 3 (some .int), Cond.methodLink RX7 340 yX2_countOpen]
def wsL_law0_r8 : List Cond := [Cond.instanceMethod yX2_countOpen, Cond.selects RX2 yX2_countOpen yX2_countOpen, Cond.code yX2_countOpen cX2_countOpen 4 (some .int), Cond.methodLink RX2 29 yX2_isOpen, Cond.instanceMethod yX2_isOpen, Cond.selects RX2 yX2_isOpen yX2_isOpen, Cond.code yX2_isOpen cX2_isOpen 3 (some .boolean), Cond.methodLink RX7 277 yX3_lastLocked, Cond.instanceMethod yX3_lastLocked, Cond.selects RX3 yX3_lastLocked yX3_lastLocked, Cond.code yX3_lastLocked cX3_lastLocked 2 (some .int), Cond.methodLink RX3 65 yX3_lastClosing, Cond.instanceMethod yX3_lastClosing, Cond.selects RX3 yX3_lastClosing yX3_lastClosing, Cond.code yX3_lastClosing cX3_lastClosing 2 (some .int), Cond.methodLink RL 38 yX7_wouldClose, Cond.instanceMethod yX7_wouldClose, Cond.selects RX7 yX7_wouldClose yX7_wouldClose, Cond.code yX7_wouldClose cX7_wouldClose 2 (some .long), Cond.methodLink RX7 133 yX7_needDay, Cond.static yX7_needDay, Cond.code yX7_needDay cX7_needDay 1 none, Cond.methodLink RX7 286 yX7_planClosing, Cond.instanceMethod yX7_planClosing]
def wsL_law0_r9 : List Cond := [Cond.selects RX7 yX7_planClosing yX7_planClosing, Cond.code yX7_planClosing cX7_planClosing 5 none, Cond.fieldLink RX7 141 "Tollgate$LegRow" "count" "I", Cond.methodLink RX7 353 yX0_isClosed, Cond.instanceMethod yX0_isClosed, Cond.selects RX0 yX0_isClosed yX0_isClosed, Cond.code yX0_isClosed cX0_isClosed 2 (some .boolean), Cond.methodLink RX7 345 yX3_amountUpTo, Cond.instanceMethod yX3_amountUpTo, Cond.selects RX3 yX3_amountUpTo yX3_amountUpTo, Cond.code yX3_amountUpTo cX3_amountUpTo 6 (some .long), Cond.methodLink RX3 69 yX3_counts, Cond.instanceMethod yX3_counts, Cond.selects RX3 yX3_counts yX3_counts, Cond.code yX3_counts cX3_counts 2 (some .boolean), Cond.methodLink RX3 73 yX3_dayOf, Cond.instanceMethod yX3_dayOf, Cond.selects RX3 yX3_dayOf yX3_dayOf, Cond.code yX3_dayOf cX3_dayOf 2 (some .int), Cond.methodLink RX7 289 yX7_planLeg, Cond.instanceMethod yX7_planLeg, Cond.selects RX7 yX7_planLeg yX7_planLeg, Cond.code yX7_planLeg cX7_planLeg 4 none, Cond.methodLink RX7 155 yX0_worth]
def wsL_law0_r10 : List Cond := [Cond.instanceMethod yX0_worth, Cond.selects RX0 yX0_worth yX0_worth, Cond.code yX0_worth cX0_worth 8 (some .long), Cond.constantLong RX0 32 (-500), Cond.constantLong RX0 34 (500), Cond.constantLong RX0 36 (1000), Cond.methodLink RX7 159 yX4_add, Cond.instanceMethod yX4_add, Cond.selects RX4 yX4_add yX4_add, Cond.code yX4_add cX4_add 6 none, Cond.methodLink RX7 162 yX4_worthSum, Cond.instanceMethod yX4_worthSum, Cond.selects RX4 yX4_worthSum yX4_worthSum, Cond.code yX4_worthSum cX4_worthSum 4 (some .long), Cond.methodLink RL 42 yX7_close, Cond.instanceMethod yX7_close, Cond.selects RX7 yX7_close yX7_close, Cond.code yX7_close cX7_close 5 (some .int), Cond.fieldLink RX7 239 "Tollgate$Accounts" "kind" "[I", Cond.methodLink RX7 280 yX3_isFull, Cond.instanceMethod yX3_isFull, Cond.selects RX3 yX3_isFull yX3_isFull, Cond.code yX3_isFull cX3_isFull 1 (some .boolean), Cond.methodLink RX7 181 yX3_enter]
def wsL_law0_r11 : List Cond := [Cond.instanceMethod yX3_enter, Cond.selects RX3 yX3_enter yX3_enter, Cond.code yX3_enter cX3_enter 7 (some .int), Cond.fieldLink RX3 55 "Tollgate$LegRow" "count" "I", Cond.fieldLink RX3 58 "Tollgate$LegRow" "account" "[I", Cond.fieldLink RX3 59 "Tollgate$LegRow" "amount" "[J", Cond.fieldLink RX3 60 "Tollgate$LegRow" "worth" "[J", Cond.methodLink RX3 51 yX3_isFull, Cond.methodLink RX3 61 yX3_addLeg, Cond.instanceMethod yX3_addLeg, Cond.selects RX3 yX3_addLeg yX3_addLeg, Cond.code yX3_addLeg cX3_addLeg 7 none, Cond.methodLink RL 45 yX7_ofEntry, Cond.instanceMethod yX7_ofEntry, Cond.selects RX7 yX7_ofEntry yX7_ofEntry, Cond.code yX7_ofEntry cX7_ofEntry 3 (some .int), Cond.fieldLink RX7 215 "Tollgate$Journal" "day" "[I", Cond.fieldLink RX7 210 "Tollgate$Journal" "note" "[I", Cond.fieldLink RX7 217 "Tollgate$Journal" "legsOf" "[I", Cond.fieldLink RX7 191 "Tollgate$Journal" "gone" "[Z", Cond.methodLink RX7 212 yX7_needEntry, Cond.instanceMethod yX7_needEntry, Cond.selects RX7 yX7_needEntry yX7_needEntry, Cond.code yX7_needEntry cX7_needEntry 2 none]
def wsL_law0_r12 : List Cond := [Cond.methodLink RX7 188 yX3_has, Cond.instanceMethod yX3_has, Cond.selects RX3 yX3_has yX3_has, Cond.code yX3_has cX3_has 2 (some .boolean), Cond.methodLink RL 48 yX7_ofLeg, Cond.instanceMethod yX7_ofLeg, Cond.selects RX7 yX7_ofLeg yX7_ofLeg, Cond.code yX7_ofLeg cX7_ofLeg 5 (some .long), Cond.fieldLink RX7 224 "Tollgate$Journal" "firstLeg" "[I", Cond.fieldLink RX7 227 "Tollgate$Journal" "account" "[I", Cond.fieldLink RX7 230 "Tollgate$Journal" "amount" "[J", Cond.fieldLink RX7 234 "Tollgate$Journal" "worth" "[J", Cond.fieldLink RX7 236 "Tollgate$Matching" "lineOfLeg" "[I", Cond.methodLink RL 52 yX7_open, Cond.instanceMethod yX7_open, Cond.selects RX7 yX7_open yX7_open, Cond.code yX7_open cX7_open 2 (some .int), Cond.methodLink RX7 293 yX3_lastClosing, Cond.methodLink RX7 298 yX6_freeLegsOf, Cond.instanceMethod yX6_freeLegsOf, Cond.selects RX6 yX6_freeLegsOf yX6_freeLegsOf, Cond.code yX6_freeLegsOf cX6_freeLegsOf 4 none, Cond.fieldLink RX6 108 "Tollgate$Journal" "firstLeg" "[I", Cond.fieldLink RX6 111 "Tollgate$Journal" "legsOf" "[I"]
def wsL_law0_r13 : List Cond := [Cond.methodLink RX6 38 yX6_freeLine, Cond.instanceMethod yX6_freeLine, Cond.selects RX6 yX6_freeLine yX6_freeLine, Cond.code yX6_freeLine cX6_freeLine 2 none, Cond.methodLink RL 56 yX7_line, Cond.instanceMethod yX7_line, Cond.selects RX7 yX7_line yX7_line, Cond.code yX7_line cX7_line 4 (some .int), Cond.methodLink RX7 146 yX7_needAmount, Cond.static yX7_needAmount, Cond.code yX7_needAmount cX7_needAmount 1 none, Cond.constant RX7 414 (-1000000), Cond.constant RX7 242 (1000000), Cond.methodLink RX7 304 yX5_add, Cond.instanceMethod yX5_add, Cond.selects RX5 yX5_add yX5_add, Cond.code yX5_add cX5_add 4 (some .int), Cond.methodLink RX5 28 yX5_sortIn, Cond.instanceMethod yX5_sortIn, Cond.selects RX5 yX5_sortIn yX5_sortIn, Cond.code yX5_sortIn cX5_sortIn 3 none, Cond.methodLink RL 60 yX7_wouldMatch, Cond.instanceMethod yX7_wouldMatch, Cond.selects RX7 yX7_wouldMatch yX7_wouldMatch]
def wsL_law0_r14 : List Cond := [Cond.code yX7_wouldMatch cX7_wouldMatch 3 (some .int), Cond.methodLink RX7 305 yX7_needDaysAway, Cond.static yX7_needDaysAway, Cond.code yX7_needDaysAway cX7_needDaysAway 1 none, Cond.methodLink RX7 308 yX6_pairUp, Cond.instanceMethod yX6_pairUp, Cond.selects RX6 yX6_pairUp yX6_pairUp, Cond.code yX6_pairUp cX6_pairUp 4 (some .int), Cond.fieldLink RX6 29 "Tollgate$Lines" "count" "I", Cond.fieldLink RX6 35 "Tollgate$Lines" "account" "[I", Cond.fieldLink RX6 42 "Tollgate$Lines" "byDay" "[I", Cond.methodLink RX6 45 yX6_isLeft, Cond.instanceMethod yX6_isLeft, Cond.selects RX6 yX6_isLeft yX6_isLeft, Cond.code yX6_isLeft cX6_isLeft 3 (some .boolean), Cond.methodLink RX6 49 yX6_bindNearest, Cond.instanceMethod yX6_bindNearest, Cond.selects RX6 yX6_bindNearest yX6_bindNearest, Cond.code yX6_bindNearest cX6_bindNearest 5 none, Cond.fieldLink RX6 81 "Tollgate$Journal" "legCount" "I", Cond.fieldLink RX6 87 "Tollgate$Journal" "amount" "[J", Cond.fieldLink RX6 91 "Tollgate$Lines" "amount" "[I", Cond.methodLink RX6 84 yX6_isLegLeft, Cond.instanceMethod yX6_isLegLeft]
def wsL_law0_r15 : List Cond := [Cond.selects RX6 yX6_isLegLeft yX6_isLegLeft, Cond.code yX6_isLegLeft cX6_isLegLeft 3 (some .boolean), Cond.fieldLink RX6 63 "Tollgate$Journal" "account" "[I", Cond.methodLink RX6 66 yX3_counts, Cond.methodLink RX6 93 yX6_away, Cond.instanceMethod yX6_away, Cond.selects RX6 yX6_away yX6_away, Cond.code yX6_away cX6_away 3 (some .int), Cond.fieldLink RX6 73 "Tollgate$Lines" "day" "[I", Cond.methodLink RX6 76 Lib.Math.abs.name, Cond.static Lib.Math.abs.name, Cond.code Lib.Math.abs.name Lib.Math.abs.code 1 (some .int), Cond.methodLink RX6 70 yX3_dayOf, Cond.methodLink RX6 97 yX6_isNearer, Cond.instanceMethod yX6_isNearer, Cond.selects RX6 yX6_isNearer yX6_isNearer, Cond.code yX6_isNearer cX6_isNearer 6 (some .boolean), Cond.methodLink RX6 101 yX6_bind, Cond.instanceMethod yX6_bind, Cond.selects RX6 yX6_bind yX6_bind, Cond.code yX6_bind cX6_bind 4 none, Cond.methodLink RX6 53 yX6_bindFirstTwo, Cond.instanceMethod yX6_bindFirstTwo, Cond.selects RX6 yX6_bindFirstTwo yX6_bindFirstTwo]
def wsL_law0_r16 : List Cond := [Cond.code yX6_bindFirstTwo cX6_bindFirstTwo 5 none, Cond.methodLink RX6 105 yX6_secondBehind, Cond.instanceMethod yX6_secondBehind, Cond.selects RX6 yX6_secondBehind yX6_secondBehind, Cond.code yX6_secondBehind cX6_secondBehind 4 (some .int), Cond.methodLink RX6 56 yX5_countOf, Cond.instanceMethod yX5_countOf, Cond.selects RX5 yX5_countOf yX5_countOf, Cond.code yX5_countOf cX5_countOf 4 (some .int), Cond.methodLink RX6 60 yX6_linesLeft, Cond.instanceMethod yX6_linesLeft, Cond.selects RX6 yX6_linesLeft yX6_linesLeft, Cond.code yX6_linesLeft cX6_linesLeft 4 (some .int), Cond.methodLink RL 63 yX7_match, Cond.instanceMethod yX7_match, Cond.selects RX7 yX7_match yX7_match, Cond.code yX7_match cX7_match 3 (some .int), Cond.methodLink RL 66 yX7_left, Cond.instanceMethod yX7_left, Cond.selects RX7 yX7_left yX7_left, Cond.code yX7_left cX7_left 3 (some .long), Cond.methodLink RX7 311 yX5_countOf, Cond.methodLink RX7 315 yX6_linesLeft, Cond.methodLink RX7 318 yX6_legsLeft]
def wsL_law0_r17 : List Cond := [Cond.instanceMethod yX6_legsLeft, Cond.selects RX6 yX6_legsLeft yX6_legsLeft, Cond.code yX6_legsLeft cX6_legsLeft 4 (some .int), Cond.methodLink RX7 321 yX6_lineSumLeft, Cond.instanceMethod yX6_lineSumLeft, Cond.selects RX6 yX6_lineSumLeft yX6_lineSumLeft, Cond.code yX6_lineSumLeft cX6_lineSumLeft 5 (some .long), Cond.methodLink RX7 324 yX6_legSumLeft, Cond.instanceMethod yX6_legSumLeft, Cond.selects RX6 yX6_legSumLeft yX6_legSumLeft, Cond.code yX6_legSumLeft cX6_legSumLeft 5 (some .long), Cond.methodLink RL 70 yX7_draft, Cond.instanceMethod yX7_draft, Cond.selects RX7 yX7_draft yX7_draft, Cond.code yX7_draft cX7_draft 4 (some .int), Cond.fieldLink RX7 138 "Tollgate$Draft" "legs" "LTollgate$LegRow;", Cond.methodLink RX7 142 yX1_begin, Cond.instanceMethod yX1_begin, Cond.selects RX1 yX1_begin yX1_begin, Cond.code yX1_begin cX1_begin 3 none, Cond.fieldLink RX1 27 "Tollgate$LegRow" "count" "I", Cond.methodLink RL 73 yX7_leg, Cond.instanceMethod yX7_leg, Cond.selects RX7 yX7_leg yX7_leg]
def wsL_law0_r18 : List Cond := [Cond.code yX7_leg cX7_leg 3 (some .long), Cond.fieldLink RX7 149 "Tollgate$Draft" "isThere" "Z", Cond.methodLink RL 76 yX7_reason, Cond.instanceMethod yX7_reason, Cond.selects RX7 yX7_reason yX7_reason, Cond.code yX7_reason cX7_reason 1 (some .int), Cond.methodLink RX7 166 yX7_whyNotPosted, Cond.instanceMethod yX7_whyNotPosted, Cond.selects RX7 yX7_whyNotPosted yX7_whyNotPosted, Cond.code yX7_whyNotPosted cX7_whyNotPosted 1 (some .int), Cond.fieldLink RX7 175 "Tollgate$Draft" "day" "I", Cond.methodLink RX7 427 yX7_canBeExchanged, Cond.instanceMethod yX7_canBeExchanged, Cond.selects RX7 yX7_canBeExchanged yX7_canBeExchanged, Cond.code yX7_canBeExchanged cX7_canBeExchanged 1 (some .boolean), Cond.methodLink RX7 433 Lib.MathLoose.abs_long.x, Cond.methodLink RX7 430 yX7_draftHasTwoCurrencies, Cond.instanceMethod yX7_draftHasTwoCurrencies, Cond.selects RX7 yX7_draftHasTwoCurrencies yX7_draftHasTwoCurrencies, Cond.code yX7_draftHasTwoCurrencies cX7_draftHasTwoCurrencies 2 (some .boolean), Cond.fieldLink RX7 439 "Tollgate$LegRow" "account" "[I", Cond.methodLink RX7 172 yX7_planDraft, Cond.instanceMethod yX7_planDraft, Cond.selects RX7 yX7_planDraft yX7_planDraft]
def wsL_law0_r19 : List Cond := [Cond.code yX7_planDraft cX7_planDraft 3 none, Cond.fieldLink RX7 440 "Tollgate$LegRow" "amount" "[J", Cond.fieldLink RX7 441 "Tollgate$LegRow" "worth" "[J", Cond.methodLink RX7 419 yX7_planKeepsFloors, Cond.instanceMethod yX7_planKeepsFloors, Cond.selects RX7 yX7_planKeepsFloors yX7_planKeepsFloors, Cond.code yX7_planKeepsFloors cX7_planKeepsFloors 8 (some .boolean), Cond.fieldLink RX7 122 "Tollgate$Accounts" "hasFloor" "[Z", Cond.fieldLink RX7 119 "Tollgate$Accounts" "floors" "[I", Cond.methodLink RX7 442 yX4_amountOn, Cond.instanceMethod yX4_amountOn, Cond.selects RX4 yX4_amountOn yX4_amountOn, Cond.code yX4_amountOn cX4_amountOn 5 (some .long), Cond.methodLink RX7 424 yX0_stand, Cond.instanceMethod yX0_stand, Cond.selects RX0 yX0_stand yX0_stand, Cond.code yX0_stand cX0_stand 4 (some .long), Cond.methodLink RX7 113 yX2_heldOn, Cond.instanceMethod yX2_heldOn, Cond.selects RX2 yX2_heldOn yX2_heldOn, Cond.code yX2_heldOn cX2_heldOn 7 (some .long), Cond.methodLink RL 79 yX7_post, Cond.instanceMethod yX7_post, Cond.selects RX7 yX7_post yX7_post]
def wsL_law0_r20 : List Cond := [Cond.code yX7_post cX7_post 2 (some .int), Cond.fieldLink RX7 178 "Tollgate$Draft" "note" "I", Cond.methodLink RX7 185 yX1_forget, Cond.instanceMethod yX1_forget, Cond.selects RX1 yX1_forget yX1_forget, Cond.code yX1_forget cX1_forget 1 none, Cond.methodLink RL 82 yX7_ofKind, Cond.instanceMethod yX7_ofKind, Cond.selects RX7 yX7_ofKind yX7_ofKind, Cond.code yX7_ofKind cX7_ofKind 5 (some .long), Cond.methodLink RX7 348 yX3_worthOn, Cond.instanceMethod yX3_worthOn, Cond.selects RX3 yX3_worthOn yX3_worthOn, Cond.code yX3_worthOn cX3_worthOn 5 (some .long), Cond.methodLink RL 85 yX7_digest, Cond.instanceMethod yX7_digest, Cond.selects RX7 yX7_digest yX7_digest, Cond.code yX7_digest cX7_digest 4 (some .long), Cond.constantLong RX7 364 (58089), Cond.fieldLink RX7 377 "Tollgate$Journal" "count" "I", Cond.methodLink RX7 366 yX7_many, Cond.methodLink RX7 369 yX7_mix, Cond.static yX7_mix, Cond.code yX7_mix cX7_mix 4 (some .long)]
def wsL_law0_r21 : List Cond := [Cond.constantLong RX7 390 (31), Cond.methodLink RX7 373 yX7_mixAccount, Cond.instanceMethod yX7_mixAccount, Cond.selects RX7 yX7_mixAccount yX7_mixAccount, Cond.code yX7_mixAccount cX7_mixAccount 7 (some .long), Cond.methodLink RX7 392 yX7_told, Cond.instanceMethod yX7_told, Cond.selects RX7 yX7_told yX7_told, Cond.code yX7_told cX7_told 3 (some .long), Cond.methodLink RX7 109 yX7_standOf, Cond.instanceMethod yX7_standOf, Cond.selects RX7 yX7_standOf yX7_standOf, Cond.code yX7_standOf cX7_standOf 2 (some .long), Cond.methodLink RX7 248 yX7_hadIf, Cond.instanceMethod yX7_hadIf, Cond.selects RX7 yX7_hadIf yX7_hadIf, Cond.code yX7_hadIf cX7_hadIf 5 (some .long), Cond.methodLink RX7 395 yX7_left, Cond.methodLink RX7 378 yX7_mixEntry, Cond.instanceMethod yX7_mixEntry, Cond.selects RX7 yX7_mixEntry yX7_mixEntry, Cond.code yX7_mixEntry cX7_mixEntry 8 (some .long), Cond.methodLink RX7 398 yX7_ofEntry, Cond.methodLink RX7 401 yX7_ofLeg]
def wsL_law0_r22 : List Cond := [Cond.methodLink RX7 381 yX7_matched, Cond.instanceMethod yX7_matched, Cond.selects RX7 yX7_matched yX7_matched, Cond.code yX7_matched cX7_matched 3 (some .int), Cond.fieldLink RX7 331 "Tollgate$Matching" "firstOfLine" "[I", Cond.fieldLink RX7 334 "Tollgate$Journal" "entryOf" "[I", Cond.methodLink RX7 384 yX7_ofKind, Cond.methodLink RX7 387 yX7_wouldClose, Cond.methodLink RL 89 yX7_at, Cond.instanceMethod yX7_at, Cond.selects RX7 yX7_at yX7_at, Cond.code yX7_at cX7_at 3 (some .long), Cond.methodLink RL 92 yX7_told, Cond.methodLink RL 101 yX7_hadOn, Cond.instanceMethod yX7_hadOn, Cond.selects RX7 yX7_hadOn yX7_hadOn, Cond.code yX7_hadOn cX7_hadOn 3 (some .long), Cond.methodLink RL 104 yX7_matched, Cond.methodLink RL 107 yX7_earned, Cond.instanceMethod yX7_earned, Cond.selects RX7 yX7_earned yX7_earned, Cond.code yX7_earned cX7_earned 6 (some .long), Cond.methodLink RX7 356 yX3_worthBetween, Cond.instanceMethod yX3_worthBetween]
def wsL_law0_r23 : List Cond := [Cond.selects RX3 yX3_worthBetween yX3_worthBetween, Cond.code yX3_worthBetween cX3_worthBetween 7 (some .long)]
def wsL_law0 : List Cond := (wsL_law0_r1 ++ (wsL_law0_r2 ++ (wsL_law0_r3 ++ (wsL_law0_r4 ++ (wsL_law0_r5 ++ (wsL_law0_r6 ++ (wsL_law0_r7 ++ (wsL_law0_r8 ++ (wsL_law0_r9 ++ (wsL_law0_r10 ++ (wsL_law0_r11 ++ (wsL_law0_r12 ++ (wsL_law0_r13 ++ (wsL_law0_r14 ++ (wsL_law0_r15 ++ (wsL_law0_r16 ++ (wsL_law0_r17 ++ (wsL_law0_r18 ++ (wsL_law0_r19 ++ (wsL_law0_r20 ++ (wsL_law0_r21 ++ (wsL_law0_r22 ++ wsL_law0_r23)))))))))))))))))))))) ++ wsX70 ++ wsX00 ++ wsX10 ++ wsX30 ++ wsX20 ++ wsX50 ++ wsX60 ++ wsX40 ++ ([] : List Cond)
abbrev vwCl : List vw_C := [(RX0, TX0, 6), (RX1, TX1, 4), (RX2, TX2, 5), (RX3, TX3, 12), (RX4, TX4, 4), (RX5, TX5, 5), (RX6, TX6, 5), (RX7, TX7, 10)]
end
section
/-! THE STATE: numbers, ints, booleans; arrays of numbers, ints, booleans, longs -/
abbrev TS : Type := (Nat → Nat) × (Nat → Bool) × (Nat → Option Nat) × (Nat → Nat → Nat) × (Nat → Nat → Int32) × (Nat → Nat → Bool) × (Nat → Nat → Option Nat) × (Nat → Nat → Int64)
def bI (b : Bool) : Int32 := if b then 1 else 0
theorem bI_n (b : Bool) : narrow .boolean (.int (bI b)) = .int (bI b) := by cases b <;> rfl
theorem bI_f (b : Bool) : fits .boolean (.int (bI b)) = true := by cases b <;> rfl
theorem bI_v (b : Bool) : vp_nar .boolean (bI b) = bI b := by cases b <;> rfl
theorem bI_0 (b : Bool) : bI b = 0 ↔ b = false := by cases b <;> simp [bI]
/-- a place, or -1 -/
def oI (o : Option Nat) : Int32 := match o with
  | none => -1
  | some j => nI j
def sN (u : TS) (k : Nat) (v : Nat) : TS := (va_up u.1 k v, u.2)
def sB (u : TS) (k : Nat) (v : Bool) : TS := (u.1, va_up u.2.1 k v, u.2.2)
def sO (u : TS) (k : Nat) (v : Option Nat) : TS := (u.1, u.2.1, va_up u.2.2.1 k v, u.2.2.2)
def sAN (u : TS) (k i : Nat) (v : Nat) : TS := (u.1, u.2.1, u.2.2.1, va_up u.2.2.2.1 k (va_up (u.2.2.2.1 k) i v), u.2.2.2.2)
def sAI (u : TS) (k i : Nat) (v : Int32) : TS := (u.1, u.2.1, u.2.2.1, u.2.2.2.1, va_up u.2.2.2.2.1 k (va_up (u.2.2.2.2.1 k) i v), u.2.2.2.2.2)
def sAB (u : TS) (k i : Nat) (v : Bool) : TS := (u.1, u.2.1, u.2.2.1, u.2.2.2.1, u.2.2.2.2.1, va_up u.2.2.2.2.2.1 k (va_up (u.2.2.2.2.2.1 k) i v), u.2.2.2.2.2.2)
def sAO (u : TS) (k i : Nat) (v : Option Nat) : TS := (u.1, u.2.1, u.2.2.1, u.2.2.2.1, u.2.2.2.2.1, u.2.2.2.2.2.1, va_up u.2.2.2.2.2.2.1 k (va_up (u.2.2.2.2.2.2.1 k) i v), u.2.2.2.2.2.2.2)
def sAJ (u : TS) (k i : Nat) (v : Int64) : TS := (u.1, u.2.1, u.2.2.1, u.2.2.2.1, u.2.2.2.2.1, u.2.2.2.2.2.1, u.2.2.2.2.2.2.1, va_up u.2.2.2.2.2.2.2 k (va_up (u.2.2.2.2.2.2.2 k) i v))
theorem fnN (g : Nat → Nat) (i v : Nat) : upd (fun j => nI (g j)) i (nI v) = fun j => nI (va_up g i v j) := by funext j; unfold upd va_up; split <;> rfl
theorem fnI (g : Nat → Int32) (i : Nat) (v : Int32) : upd g i v = va_up g i v := by funext j; rfl
theorem fnB (g : Nat → Bool) (i : Nat) (v : Bool) : upd (fun j => bI (g j)) i (bI v) = fun j => bI (va_up g i v j) := by funext j; unfold upd va_up; split <;> rfl
theorem fnO (g : Nat → Option Nat) (i : Nat) (v : Option Nat) : upd (fun j => oI (g j)) i (oI v) = fun j => oI (va_up g i v j) := by funext j; unfold upd va_up; split <;> rfl
theorem fnJ (g : Nat → Int64) (i : Nat) (v : Int64) : vp_updL g i v = va_up g i v := by funext j; rfl
abbrev T_exchangeAccount (u : TS) : Option Nat := u.2.2.1 0
abbrev T_today (u : TS) : Nat := u.1 0
abbrev AC_rates (u : TS) (i : Nat) : Int32 := u.2.2.2.2.1 0 i
abbrev AC_kind (u : TS) (i : Nat) : Nat := u.2.2.2.1 0 i
abbrev AC_currency (u : TS) (i : Nat) : Nat := u.2.2.2.1 1 i
abbrev AC_floors (u : TS) (i : Nat) : Int32 := u.2.2.2.2.1 1 i
abbrev AC_hasFloor (u : TS) (i : Nat) : Bool := u.2.2.2.2.2.1 0 i
abbrev AC_count (u : TS) : Nat := u.1 1
abbrev DR_isThere (u : TS) : Bool := u.2.1 0
abbrev DR_day (u : TS) : Nat := u.1 2
abbrev DR_note (u : TS) : Nat := u.1 3
abbrev L0_account (u : TS) (i : Nat) : Nat := u.2.2.2.1 2 i
abbrev L0_amount (u : TS) (i : Nat) : Int64 := u.2.2.2.2.2.2.2 0 i
abbrev L0_worth (u : TS) (i : Nat) : Int64 := u.2.2.2.2.2.2.2 1 i
abbrev L0_count (u : TS) : Nat := u.1 4
abbrev L1_account (u : TS) (i : Nat) : Nat := u.2.2.2.1 3 i
abbrev L1_amount (u : TS) (i : Nat) : Int64 := u.2.2.2.2.2.2.2 2 i
abbrev L1_worth (u : TS) (i : Nat) : Int64 := u.2.2.2.2.2.2.2 3 i
abbrev L1_count (u : TS) : Nat := u.1 5
abbrev J_day (u : TS) (i : Nat) : Nat := u.2.2.2.1 4 i
abbrev J_note (u : TS) (i : Nat) : Nat := u.2.2.2.1 5 i
abbrev J_firstLeg (u : TS) (i : Nat) : Nat := u.2.2.2.1 6 i
abbrev J_legsOf (u : TS) (i : Nat) : Nat := u.2.2.2.1 7 i
abbrev J_gone (u : TS) (i : Nat) : Bool := u.2.2.2.2.2.1 1 i
abbrev J_isClosing (u : TS) (i : Nat) : Bool := u.2.2.2.2.2.1 2 i
abbrev J_count (u : TS) : Nat := u.1 6
abbrev J_entryOf (u : TS) (i : Nat) : Nat := u.2.2.2.1 8 i
abbrev J_account (u : TS) (i : Nat) : Nat := u.2.2.2.1 9 i
abbrev J_amount (u : TS) (i : Nat) : Int64 := u.2.2.2.2.2.2.2 4 i
abbrev J_worth (u : TS) (i : Nat) : Int64 := u.2.2.2.2.2.2.2 5 i
abbrev J_legCount (u : TS) : Nat := u.1 7
abbrev HO_account (u : TS) (i : Nat) : Nat := u.2.2.2.1 10 i
abbrev HO_amount (u : TS) (i : Nat) : Int32 := u.2.2.2.2.1 2 i
abbrev HO_lastDay (u : TS) (i : Nat) : Nat := u.2.2.2.1 11 i
abbrev HO_isEnded (u : TS) (i : Nat) : Bool := u.2.2.2.2.2.1 3 i
abbrev HO_count (u : TS) : Nat := u.1 8
abbrev LI_account (u : TS) (i : Nat) : Nat := u.2.2.2.1 12 i
abbrev LI_day (u : TS) (i : Nat) : Nat := u.2.2.2.1 13 i
abbrev LI_amount (u : TS) (i : Nat) : Int32 := u.2.2.2.2.1 3 i
abbrev LI_byDay (u : TS) (i : Nat) : Nat := u.2.2.2.1 14 i
abbrev LI_count (u : TS) : Nat := u.1 9
abbrev M0_lineOfLeg (u : TS) (i : Nat) : Option Nat := u.2.2.2.2.2.2.1 0 i
abbrev M0_firstOfLine (u : TS) (i : Nat) : Option Nat := u.2.2.2.2.2.2.1 1 i
abbrev M0_secondOfLine (u : TS) (i : Nat) : Option Nat := u.2.2.2.2.2.2.1 2 i
abbrev M1_lineOfLeg (u : TS) (i : Nat) : Option Nat := u.2.2.2.2.2.2.1 3 i
abbrev M1_firstOfLine (u : TS) (i : Nat) : Option Nat := u.2.2.2.2.2.2.1 4 i
abbrev M1_secondOfLine (u : TS) (i : Nat) : Option Nat := u.2.2.2.2.2.2.1 5 i
/-- the cells of a ledger, their addresses by a -/
def cells (κ : ClassId × ClassId × ClassId) (a : Nat → Nat) (u : TS) : va_W :=
  [(a 0, .inr (7, [(.ref (a 1)), (.ref (a 2)), (.ref (a 5)), (.ref (a 6)), (.ref (a 7)), (.ref (a 8)), (.ref (a 9)), (.ref (a 4)), (.int (oI (T_exchangeAccount u))), (.int (nI (T_today u)))])),
   (a 1, .inr (0, [(.ref (a 10)), (.ref (a 11)), (.ref (a 12)), (.ref (a 13)), (.ref (a 14)), (.int (nI (AC_count u)))])),
   (a 2, .inr (1, [(.ref (a 3)), (.int (bI (DR_isThere u))), (.int (nI (DR_day u))), (.int (nI (DR_note u)))])),
   (a 3, .inr (4, [(.ref (a 15)), (.ref (a 16)), (.ref (a 17)), (.int (nI (L0_count u)))])),
   (a 4, .inr (4, [(.ref (a 18)), (.ref (a 19)), (.ref (a 20)), (.int (nI (L1_count u)))])),
   (a 5, .inr (3, [(.ref (a 21)), (.ref (a 22)), (.ref (a 23)), (.ref (a 24)), (.ref (a 25)), (.ref (a 26)), (.int (nI (J_count u))), (.ref (a 27)), (.ref (a 28)), (.ref (a 29)), (.ref (a 30)), (.int (nI (J_legCount u)))])),
   (a 6, .inr (2, [(.ref (a 31)), (.ref (a 32)), (.ref (a 33)), (.ref (a 34)), (.int (nI (HO_count u)))])),
   (a 7, .inr (5, [(.ref (a 35)), (.ref (a 36)), (.ref (a 37)), (.ref (a 38)), (.int (nI (LI_count u)))])),
   (a 8, .inr (6, [(.ref (a 5)), (.ref (a 7)), (.ref (a 39)), (.ref (a 40)), (.ref (a 41))])),
   (a 9, .inr (6, [(.ref (a 5)), (.ref (a 7)), (.ref (a 42)), (.ref (a 43)), (.ref (a 44))])),
   (a 10, .inl (κ.1, 4, .inl (u.2.2.2.2.1 0))),
   (a 11, .inl (κ.1, 10, .inl (fun j => nI (u.2.2.2.1 0 j)))),
   (a 12, .inl (κ.1, 10, .inl (fun j => nI (u.2.2.2.1 1 j)))),
   (a 13, .inl (κ.1, 10, .inl (u.2.2.2.2.1 1))),
   (a 14, .inl (κ.2.2, 10, .inl (fun j => bI (u.2.2.2.2.2.1 0 j)))),
   (a 15, .inl (κ.1, 10, .inl (fun j => nI (u.2.2.2.1 2 j)))),
   (a 16, .inl (κ.2.1, 10, .inr (.inl (u.2.2.2.2.2.2.2 0)))),
   (a 17, .inl (κ.2.1, 10, .inr (.inl (u.2.2.2.2.2.2.2 1)))),
   (a 18, .inl (κ.1, 10, .inl (fun j => nI (u.2.2.2.1 3 j)))),
   (a 19, .inl (κ.2.1, 10, .inr (.inl (u.2.2.2.2.2.2.2 2)))),
   (a 20, .inl (κ.2.1, 10, .inr (.inl (u.2.2.2.2.2.2.2 3)))),
   (a 21, .inl (κ.1, 60, .inl (fun j => nI (u.2.2.2.1 4 j)))),
   (a 22, .inl (κ.1, 60, .inl (fun j => nI (u.2.2.2.1 5 j)))),
   (a 23, .inl (κ.1, 60, .inl (fun j => nI (u.2.2.2.1 6 j)))),
   (a 24, .inl (κ.1, 60, .inl (fun j => nI (u.2.2.2.1 7 j)))),
   (a 25, .inl (κ.2.2, 60, .inl (fun j => bI (u.2.2.2.2.2.1 1 j)))),
   (a 26, .inl (κ.2.2, 60, .inl (fun j => bI (u.2.2.2.2.2.1 2 j)))),
   (a 27, .inl (κ.1, 600, .inl (fun j => nI (u.2.2.2.1 8 j)))),
   (a 28, .inl (κ.1, 600, .inl (fun j => nI (u.2.2.2.1 9 j)))),
   (a 29, .inl (κ.2.1, 600, .inr (.inl (u.2.2.2.2.2.2.2 4)))),
   (a 30, .inl (κ.2.1, 600, .inr (.inl (u.2.2.2.2.2.2.2 5)))),
   (a 31, .inl (κ.1, 20, .inl (fun j => nI (u.2.2.2.1 10 j)))),
   (a 32, .inl (κ.1, 20, .inl (u.2.2.2.2.1 2))),
   (a 33, .inl (κ.1, 20, .inl (fun j => nI (u.2.2.2.1 11 j)))),
   (a 34, .inl (κ.2.2, 20, .inl (fun j => bI (u.2.2.2.2.2.1 3 j)))),
   (a 35, .inl (κ.1, 40, .inl (fun j => nI (u.2.2.2.1 12 j)))),
   (a 36, .inl (κ.1, 40, .inl (fun j => nI (u.2.2.2.1 13 j)))),
   (a 37, .inl (κ.1, 40, .inl (u.2.2.2.2.1 3))),
   (a 38, .inl (κ.1, 40, .inl (fun j => nI (u.2.2.2.1 14 j)))),
   (a 39, .inl (κ.1, 600, .inl (fun j => oI (u.2.2.2.2.2.2.1 0 j)))),
   (a 40, .inl (κ.1, 40, .inl (fun j => oI (u.2.2.2.2.2.2.1 1 j)))),
   (a 41, .inl (κ.1, 40, .inl (fun j => oI (u.2.2.2.2.2.2.1 2 j)))),
   (a 42, .inl (κ.1, 600, .inl (fun j => oI (u.2.2.2.2.2.2.1 3 j)))),
   (a 43, .inl (κ.1, 40, .inl (fun j => oI (u.2.2.2.2.2.2.1 4 j)))),
   (a 44, .inl (κ.1, 40, .inl (fun j => oI (u.2.2.2.2.2.2.1 5 j))))]
def tysA (κ : ClassId × ClassId × ClassId) : List (ClassId × FieldType) := [(κ.1, .int), (κ.2.1, .long), (κ.2.2, .boolean)]
/-- what a ledger may change: its own cells, and what is new -/
def AA (a : Nat → Nat) (sz : Nat) : Nat → Prop := fun q => (∃ k, k < 45 ∧ q = a k) ∨ sz ≤ q
/-- the world inside a method -/
def GW (D : va_G) (κ : ClassId × ClassId × ClassId) (a : Nat → Nat) (u : TS) (A : Nat → Prop) (s : State) (H : Heap) (locs : List Loc) : Prop :=
  va_K D vwCl (tysA κ) s ∧ va_P D vwCl (cells κ a u) H ∧ va_D A (cells κ a u) ∧ va_S A s.heap H locs ∧ ∀ q, s.heap.size ≤ q → A q
/-- the world at a method's start and end -/
def CW (D : va_G) (κ : ClassId × ClassId × ClassId) (a : Nat → Nat) (u : TS) (U : State) : Prop :=
  va_K D vwCl (tysA κ) U ∧ va_P D vwCl (cells κ a u) U.heap ∧ va_D (fun _ => True) (cells κ a u)
theorem cells_addr (κ : ClassId × ClassId × ClassId) (a : Nat → Nat) (u : TS) : (cells κ a u).map (·.1) = (List.range 45).map a := rfl
theorem cells_in {κ : ClassId × ClassId × ClassId} {a : Nat → Nat} {u : TS} {k : Nat} {q : Nat × va_E} (h : (cells κ a u)[k]? = some q) : k < 45 ∧ q.1 = a k := by
  have h1 : ((cells κ a u).map (·.1))[k]? = some q.1 := by rw [List.getElem?_map, h]; rfl
  rw [cells_addr, List.getElem?_map] at h1
  rcases Nat.lt_or_ge k 45 with hk | hk
  · rw [List.getElem?_range hk] at h1
    exact ⟨hk, (Option.some.inj h1).symm⟩
  · rw [List.getElem?_eq_none (by simpa using hk)] at h1
    cases h1
theorem cells_out {κ : ClassId × ClassId × ClassId} {a : Nat → Nat} {u : TS} {k : Nat} (hk : k < 45) : ∃ e, (cells κ a u)[k]? = some (a k, e) := by
  have hl : (cells κ a u).length = 45 := rfl
  have h := List.getElem?_eq_getElem (l := cells κ a u) (i := k) (by rw [hl]; exact hk)
  exact ⟨_, by rw [h]; exact congrArg some (Prod.ext (cells_in h).2 rfl)⟩
theorem GW.start {D : va_G} {κ : ClassId × ClassId × ClassId} {a : Nat → Nat} {u : TS} {s : State} (h : CW D κ a u s) : GW D κ a u (AA a s.heap.size) s s.heap [] :=
  ⟨h.1, h.2.1, ⟨h.2.2.1, fun k q hk => Or.inl ⟨k, cells_in hk⟩⟩, va_S.rf, fun _ hq => Or.inr hq⟩
theorem CW.of {D : va_G} {κ : ClassId × ClassId × ClassId} {a : Nat → Nat} {u : TS} {A : Nat → Prop} {s t : State} {H : Heap} {locs : List Loc} (h : GW D κ a u A s H locs) (ht : t.heap = H) (hA : s.vm.Alike t.vm) : CW D κ a u t :=
  ⟨va_K.moved hA h.1, by rw [ht]; exact h.2.1, h.2.2.1.weaken (fun _ _ _ _ => trivial)⟩
theorem AA.of {D : va_G} {κ : ClassId × ClassId × ClassId} {a : Nat → Nat} {u : TS} {A : Nat → Prop} {s : State} {H : Heap} {locs : List Loc} (h : GW D κ a u A s H locs) (q : Nat) (hq : AA a H.size q) : A q := by
  rcases hq with ⟨k, hk, rfl⟩ | hq
  · obtain ⟨e, he⟩ := cells_out (κ := κ) (a := a) (u := u) hk
    exact h.2.2.1.2 k _ he
  · exact h.2.2.2.2 q (Nat.le_trans h.2.2.2.1.1 hq)
theorem GW.back {D : va_G} {κ : ClassId × ClassId × ClassId} {a : Nat → Nat} {u u' : TS} {A : Nat → Prop} {s t : State} {H H1 : Heap} {locs locs1 : List Loc} (h : GW D κ a u A s H locs) (hW : CW D κ a u' t) (ht : t.heap = H1) (hvm : s.vm.Alike t.vm) (hS : va_S A s.heap H1 locs1) : GW D κ a u' A s H1 locs1 := by
  refine ⟨h.1, by rw [← ht]; exact hW.2.1, ⟨hW.2.2.1, fun k q hk => ?_⟩, hS, h.2.2.2.2⟩
  obtain ⟨hk2, hq⟩ := cells_in hk
  obtain ⟨e, he⟩ := cells_out (κ := κ) (a := a) (u := u) hk2
  rw [hq]
  exact h.2.2.1.2 k _ he
theorem CW.blind {D : va_G} {κ : ClassId × ClassId × ClassId} {a : Nat → Nat} {u : TS} {sz : Nat} {av : List Value} : FrameBlind (va_Pc av (fun U => U.heap.size = sz ∧ CW D κ a u U)) :=
  fun x U g mk q => ⟨q.1, q.2.1, va_K.moved (u := U) (U := U.calling g mk x) (Vm.Alike.refl U.vm) q.2.2.1, q.2.2.2⟩
abbrev WALL : List Cond := wsL_law0
set_option maxRecDepth 100000 in
theorem wl_good : WALL.all goodWord = true := by decide +kernel
theorem wl_in : GoodIn WALL WALL := fun w h => ⟨h, good_of_word (List.all_eq_true.mp wl_good w h)⟩
theorem iw7 : ∀ w ∈ wsX70, w ∈ WALL := fun _ h => List.mem_append_left _ (List.mem_append_left _ (List.mem_append_left _ (List.mem_append_left _ (List.mem_append_left _ (List.mem_append_left _ (List.mem_append_left _ (List.mem_append_left _ (List.mem_append_right _ h))))))))
theorem iw0 : ∀ w ∈ wsX00, w ∈ WALL := fun _ h => List.mem_append_left _ (List.mem_append_left _ (List.mem_append_left _ (List.mem_append_left _ (List.mem_append_left _ (List.mem_append_left _ (List.mem_append_left _ (List.mem_append_right _ h)))))))
theorem iw1 : ∀ w ∈ wsX10, w ∈ WALL := fun _ h => List.mem_append_left _ (List.mem_append_left _ (List.mem_append_left _ (List.mem_append_left _ (List.mem_append_left _ (List.mem_append_left _ (List.mem_append_right _ h))))))
theorem iw3 : ∀ w ∈ wsX30, w ∈ WALL := fun _ h => List.mem_append_left _ (List.mem_append_left _ (List.mem_append_left _ (List.mem_append_left _ (List.mem_append_left _ (List.mem_append_right _ h)))))
theorem iw2 : ∀ w ∈ wsX20, w ∈ WALL := fun _ h => List.mem_append_left _ (List.mem_append_left _ (List.mem_append_left _ (List.mem_append_left _ (List.mem_append_right _ h))))
theorem iw5 : ∀ w ∈ wsX50, w ∈ WALL := fun _ h => List.mem_append_left _ (List.mem_append_left _ (List.mem_append_left _ (List.mem_append_right _ h)))
theorem iw6 : ∀ w ∈ wsX60, w ∈ WALL := fun _ h => List.mem_append_left _ (List.mem_append_left _ (List.mem_append_right _ h))
theorem iw4 : ∀ w ∈ wsX40, w ∈ WALL := fun _ h => List.mem_append_left _ (List.mem_append_right _ h)
set_option maxRecDepth 100000 in
theorem w0 : Cond.classLink RL 9 RX7 ∈ WALL := List.mem_of_getElem? (i := 0) (by decide +kernel)
set_option maxRecDepth 100000 in
theorem w1 : Cond.instantiable RX7 10 ∈ WALL := List.mem_of_getElem? (i := 1) (by decide +kernel)
set_option maxRecDepth 100000 in
theorem w2 : Cond.initialized RX7 ∈ WALL := List.mem_of_getElem? (i := 2) (by decide +kernel)
set_option maxRecDepth 100000 in
theorem w3 : Cond.methodLink RL 95 Lib.MathLoose.abs_long.x ∈ WALL := List.mem_of_getElem? (i := 3) (by decide +kernel)
set_option maxRecDepth 100000 in
theorem w4 : Cond.static Lib.MathLoose.abs_long.x ∈ WALL := List.mem_of_getElem? (i := 4) (by decide +kernel)
set_option maxRecDepth 100000 in
theorem w5 : Cond.initialized "java/lang/Math" ∈ WALL := List.mem_of_getElem? (i := 5) (by decide +kernel)
set_option maxRecDepth 100000 in
theorem w6 : Cond.code Lib.MathLoose.abs_long.x Lib.MathLoose.abs_long.code 2 (some .long) ∈ WALL := List.mem_of_getElem? (i := 6) (by decide +kernel)
set_option maxRecDepth 100000 in
theorem w7 : Cond.methodLink RL 11 yX7_init ∈ WALL := List.mem_of_getElem? (i := 7) (by decide +kernel)
set_option maxRecDepth 100000 in
theorem w8 : Cond.instanceMethod yX7_init ∈ WALL := List.mem_of_getElem? (i := 8) (by decide +kernel)
set_option maxRecDepth 100000 in
theorem w9 : Cond.code yX7_init cX7_init 1 none ∈ WALL := List.mem_of_getElem? (i := 9) (by decide +kernel)
set_option maxRecDepth 100000 in
theorem w10 : Cond.methodLink RX7 3 objectInit ∈ WALL := List.mem_of_getElem? (i := 10) (by decide +kernel)
set_option maxRecDepth 100000 in
theorem w11 : Cond.instanceMethod objectInit ∈ WALL := List.mem_of_getElem? (i := 11) (by decide +kernel)
set_option maxRecDepth 100000 in
theorem w12 : Cond.code objectInit ⟨#[0xb1]⟩ 1 none ∈ WALL := List.mem_of_getElem? (i := 12) (by decide +kernel)
set_option maxRecDepth 100000 in
theorem w13 : Cond.classLink RX7 9 RX0 ∈ WALL := List.mem_of_getElem? (i := 13) (by decide +kernel)
set_option maxRecDepth 100000 in
theorem w14 : Cond.instantiable RX0 6 ∈ WALL := List.mem_of_getElem? (i := 14) (by decide +kernel)
set_option maxRecDepth 100000 in
theorem w15 : Cond.initialized RX0 ∈ WALL := List.mem_of_getElem? (i := 15) (by decide +kernel)
set_option maxRecDepth 100000 in
theorem w16 : Cond.fieldLink RX7 12 "Tollgate" "accounts" "LTollgate$Accounts;" ∈ WALL := List.mem_of_getElem? (i := 16) (by decide +kernel)
set_option maxRecDepth 100000 in
theorem w17 : Cond.classLink RX7 16 RX1 ∈ WALL := List.mem_of_getElem? (i := 17) (by decide +kernel)
set_option maxRecDepth 100000 in
theorem w18 : Cond.instantiable RX1 4 ∈ WALL := List.mem_of_getElem? (i := 18) (by decide +kernel)
set_option maxRecDepth 100000 in
theorem w19 : Cond.initialized RX1 ∈ WALL := List.mem_of_getElem? (i := 19) (by decide +kernel)
set_option maxRecDepth 100000 in
theorem w20 : Cond.fieldLink RX7 19 "Tollgate" "draft" "LTollgate$Draft;" ∈ WALL := List.mem_of_getElem? (i := 20) (by decide +kernel)
set_option maxRecDepth 100000 in
theorem w21 : Cond.classLink RX7 23 RX3 ∈ WALL := List.mem_of_getElem? (i := 21) (by decide +kernel)
set_option maxRecDepth 100000 in
theorem w22 : Cond.instantiable RX3 12 ∈ WALL := List.mem_of_getElem? (i := 22) (by decide +kernel)
set_option maxRecDepth 100000 in
theorem w23 : Cond.initialized RX3 ∈ WALL := List.mem_of_getElem? (i := 23) (by decide +kernel)
set_option maxRecDepth 100000 in
theorem w24 : Cond.fieldLink RX7 26 "Tollgate" "journal" "LTollgate$Journal;" ∈ WALL := List.mem_of_getElem? (i := 24) (by decide +kernel)
set_option maxRecDepth 100000 in
theorem w25 : Cond.classLink RX7 30 RX2 ∈ WALL := List.mem_of_getElem? (i := 25) (by decide +kernel)
set_option maxRecDepth 100000 in
theorem w26 : Cond.instantiable RX2 5 ∈ WALL := List.mem_of_getElem? (i := 26) (by decide +kernel)
set_option maxRecDepth 100000 in
theorem w27 : Cond.initialized RX2 ∈ WALL := List.mem_of_getElem? (i := 27) (by decide +kernel)
set_option maxRecDepth 100000 in
theorem w28 : Cond.fieldLink RX7 33 "Tollgate" "holds" "LTollgate$Holds;" ∈ WALL := List.mem_of_getElem? (i := 28) (by decide +kernel)
set_option maxRecDepth 100000 in
theorem w29 : Cond.classLink RX7 37 RX5 ∈ WALL := List.mem_of_getElem? (i := 29) (by decide +kernel)
set_option maxRecDepth 100000 in
theorem w30 : Cond.instantiable RX5 5 ∈ WALL := List.mem_of_getElem? (i := 30) (by decide +kernel)
set_option maxRecDepth 100000 in
theorem w31 : Cond.initialized RX5 ∈ WALL := List.mem_of_getElem? (i := 31) (by decide +kernel)
set_option maxRecDepth 100000 in
theorem w32 : Cond.fieldLink RX7 40 "Tollgate" "lines" "LTollgate$Lines;" ∈ WALL := List.mem_of_getElem? (i := 32) (by decide +kernel)
set_option maxRecDepth 100000 in
theorem w33 : Cond.classLink RX7 44 RX6 ∈ WALL := List.mem_of_getElem? (i := 33) (by decide +kernel)
set_option maxRecDepth 100000 in
theorem w34 : Cond.instantiable RX6 5 ∈ WALL := List.mem_of_getElem? (i := 34) (by decide +kernel)
set_option maxRecDepth 100000 in
theorem w35 : Cond.initialized RX6 ∈ WALL := List.mem_of_getElem? (i := 35) (by decide +kernel)
set_option maxRecDepth 100000 in
theorem w36 : Cond.fieldLink RX7 49 "Tollgate" "kept" "LTollgate$Matching;" ∈ WALL := List.mem_of_getElem? (i := 36) (by decide +kernel)
set_option maxRecDepth 100000 in
theorem w37 : Cond.fieldLink RX7 53 "Tollgate" "trial" "LTollgate$Matching;" ∈ WALL := List.mem_of_getElem? (i := 37) (by decide +kernel)
set_option maxRecDepth 100000 in
theorem w38 : Cond.classLink RX7 56 RX4 ∈ WALL := List.mem_of_getElem? (i := 38) (by decide +kernel)
set_option maxRecDepth 100000 in
theorem w39 : Cond.instantiable RX4 4 ∈ WALL := List.mem_of_getElem? (i := 39) (by decide +kernel)
set_option maxRecDepth 100000 in
theorem w40 : Cond.initialized RX4 ∈ WALL := List.mem_of_getElem? (i := 40) (by decide +kernel)
set_option maxRecDepth 100000 in
theorem w41 : Cond.fieldLink RX7 59 "Tollgate" "plan" "LTollgate$LegRow;" ∈ WALL := List.mem_of_getElem? (i := 41) (by decide +kernel)
set_option maxRecDepth 100000 in
theorem w42 : Cond.fieldLink RX7 63 "Tollgate" "exchangeAccount" "I" ∈ WALL := List.mem_of_getElem? (i := 42) (by decide +kernel)
set_option maxRecDepth 100000 in
theorem w43 : Cond.fieldLink RX7 67 "Tollgate" "today" "I" ∈ WALL := List.mem_of_getElem? (i := 43) (by decide +kernel)
set_option maxRecDepth 100000 in
theorem w44 : Cond.instanceMethod yX0_init ∈ WALL := List.mem_of_getElem? (i := 44) (by decide +kernel)
set_option maxRecDepth 100000 in
theorem w45 : Cond.code yX0_init cX0_init 1 none ∈ WALL := List.mem_of_getElem? (i := 45) (by decide +kernel)
set_option maxRecDepth 100000 in
theorem w46 : Cond.methodLink RX0 3 objectInit ∈ WALL := List.mem_of_getElem? (i := 46) (by decide +kernel)
set_option maxRecDepth 100000 in
theorem w47 : Cond.arrayClass .int ∈ WALL := List.mem_of_getElem? (i := 47) (by decide +kernel)
set_option maxRecDepth 100000 in
theorem w48 : Cond.fieldLink RX0 9 "Tollgate$Accounts" "rates" "[I" ∈ WALL := List.mem_of_getElem? (i := 48) (by decide +kernel)
set_option maxRecDepth 100000 in
theorem w49 : Cond.fieldLink RX0 15 "Tollgate$Accounts" "kind" "[I" ∈ WALL := List.mem_of_getElem? (i := 49) (by decide +kernel)
set_option maxRecDepth 100000 in
theorem w50 : Cond.fieldLink RX0 18 "Tollgate$Accounts" "currency" "[I" ∈ WALL := List.mem_of_getElem? (i := 50) (by decide +kernel)
set_option maxRecDepth 100000 in
theorem w51 : Cond.fieldLink RX0 21 "Tollgate$Accounts" "floors" "[I" ∈ WALL := List.mem_of_getElem? (i := 51) (by decide +kernel)
set_option maxRecDepth 100000 in
theorem w52 : Cond.arrayClass .boolean ∈ WALL := List.mem_of_getElem? (i := 52) (by decide +kernel)
set_option maxRecDepth 100000 in
theorem w53 : Cond.fieldLink RX0 24 "Tollgate$Accounts" "hasFloor" "[Z" ∈ WALL := List.mem_of_getElem? (i := 53) (by decide +kernel)
set_option maxRecDepth 100000 in
theorem w54 : Cond.fieldLink RX0 28 "Tollgate$Accounts" "count" "I" ∈ WALL := List.mem_of_getElem? (i := 54) (by decide +kernel)
set_option maxRecDepth 100000 in
theorem w55 : Cond.instanceMethod yX1_init ∈ WALL := List.mem_of_getElem? (i := 55) (by decide +kernel)
set_option maxRecDepth 100000 in
theorem w56 : Cond.code yX1_init cX1_init 1 none ∈ WALL := List.mem_of_getElem? (i := 56) (by decide +kernel)
set_option maxRecDepth 100000 in
theorem w57 : Cond.methodLink RX1 1 objectInit ∈ WALL := List.mem_of_getElem? (i := 57) (by decide +kernel)
set_option maxRecDepth 100000 in
theorem w58 : Cond.classLink RX1 7 RX4 ∈ WALL := List.mem_of_getElem? (i := 58) (by decide +kernel)
set_option maxRecDepth 100000 in
theorem w59 : Cond.fieldLink RX1 10 "Tollgate$Draft" "legs" "LTollgate$LegRow;" ∈ WALL := List.mem_of_getElem? (i := 59) (by decide +kernel)
set_option maxRecDepth 100000 in
theorem w60 : Cond.fieldLink RX1 16 "Tollgate$Draft" "isThere" "Z" ∈ WALL := List.mem_of_getElem? (i := 60) (by decide +kernel)
set_option maxRecDepth 100000 in
theorem w61 : Cond.fieldLink RX1 20 "Tollgate$Draft" "day" "I" ∈ WALL := List.mem_of_getElem? (i := 61) (by decide +kernel)
set_option maxRecDepth 100000 in
theorem w62 : Cond.fieldLink RX1 24 "Tollgate$Draft" "note" "I" ∈ WALL := List.mem_of_getElem? (i := 62) (by decide +kernel)
set_option maxRecDepth 100000 in
theorem w63 : Cond.instanceMethod yX4_init ∈ WALL := List.mem_of_getElem? (i := 63) (by decide +kernel)
set_option maxRecDepth 100000 in
theorem w64 : Cond.code yX4_init cX4_init 1 none ∈ WALL := List.mem_of_getElem? (i := 64) (by decide +kernel)
set_option maxRecDepth 100000 in
theorem w65 : Cond.methodLink RX4 3 objectInit ∈ WALL := List.mem_of_getElem? (i := 65) (by decide +kernel)
set_option maxRecDepth 100000 in
theorem w66 : Cond.fieldLink RX4 9 "Tollgate$LegRow" "account" "[I" ∈ WALL := List.mem_of_getElem? (i := 66) (by decide +kernel)
set_option maxRecDepth 100000 in
theorem w67 : Cond.arrayClass .long ∈ WALL := List.mem_of_getElem? (i := 67) (by decide +kernel)
set_option maxRecDepth 100000 in
theorem w68 : Cond.fieldLink RX4 15 "Tollgate$LegRow" "amount" "[J" ∈ WALL := List.mem_of_getElem? (i := 68) (by decide +kernel)
set_option maxRecDepth 100000 in
theorem w69 : Cond.fieldLink RX4 19 "Tollgate$LegRow" "worth" "[J" ∈ WALL := List.mem_of_getElem? (i := 69) (by decide +kernel)
set_option maxRecDepth 100000 in
theorem w70 : Cond.fieldLink RX4 22 "Tollgate$LegRow" "count" "I" ∈ WALL := List.mem_of_getElem? (i := 70) (by decide +kernel)
set_option maxRecDepth 100000 in
theorem w71 : Cond.instanceMethod yX3_init ∈ WALL := List.mem_of_getElem? (i := 71) (by decide +kernel)
set_option maxRecDepth 100000 in
theorem w72 : Cond.code yX3_init cX3_init 1 none ∈ WALL := List.mem_of_getElem? (i := 72) (by decide +kernel)
set_option maxRecDepth 100000 in
theorem w73 : Cond.methodLink RX3 3 objectInit ∈ WALL := List.mem_of_getElem? (i := 73) (by decide +kernel)
set_option maxRecDepth 100000 in
theorem w74 : Cond.fieldLink RX3 9 "Tollgate$Journal" "day" "[I" ∈ WALL := List.mem_of_getElem? (i := 74) (by decide +kernel)
set_option maxRecDepth 100000 in
theorem w75 : Cond.fieldLink RX3 15 "Tollgate$Journal" "note" "[I" ∈ WALL := List.mem_of_getElem? (i := 75) (by decide +kernel)
set_option maxRecDepth 100000 in
theorem w76 : Cond.fieldLink RX3 18 "Tollgate$Journal" "firstLeg" "[I" ∈ WALL := List.mem_of_getElem? (i := 76) (by decide +kernel)
set_option maxRecDepth 100000 in
theorem w77 : Cond.fieldLink RX3 21 "Tollgate$Journal" "legsOf" "[I" ∈ WALL := List.mem_of_getElem? (i := 77) (by decide +kernel)
set_option maxRecDepth 100000 in
theorem w78 : Cond.fieldLink RX3 24 "Tollgate$Journal" "gone" "[Z" ∈ WALL := List.mem_of_getElem? (i := 78) (by decide +kernel)
set_option maxRecDepth 100000 in
theorem w79 : Cond.fieldLink RX3 28 "Tollgate$Journal" "isClosing" "[Z" ∈ WALL := List.mem_of_getElem? (i := 79) (by decide +kernel)
set_option maxRecDepth 100000 in
theorem w80 : Cond.fieldLink RX3 31 "Tollgate$Journal" "count" "I" ∈ WALL := List.mem_of_getElem? (i := 80) (by decide +kernel)
set_option maxRecDepth 100000 in
theorem w81 : Cond.fieldLink RX3 35 "Tollgate$Journal" "entryOf" "[I" ∈ WALL := List.mem_of_getElem? (i := 81) (by decide +kernel)
set_option maxRecDepth 100000 in
theorem w82 : Cond.fieldLink RX3 38 "Tollgate$Journal" "account" "[I" ∈ WALL := List.mem_of_getElem? (i := 82) (by decide +kernel)
set_option maxRecDepth 100000 in
theorem w83 : Cond.fieldLink RX3 41 "Tollgate$Journal" "amount" "[J" ∈ WALL := List.mem_of_getElem? (i := 83) (by decide +kernel)
set_option maxRecDepth 100000 in
theorem w84 : Cond.fieldLink RX3 45 "Tollgate$Journal" "worth" "[J" ∈ WALL := List.mem_of_getElem? (i := 84) (by decide +kernel)
set_option maxRecDepth 100000 in
theorem w85 : Cond.fieldLink RX3 48 "Tollgate$Journal" "legCount" "I" ∈ WALL := List.mem_of_getElem? (i := 85) (by decide +kernel)
set_option maxRecDepth 100000 in
theorem w86 : Cond.instanceMethod yX2_init ∈ WALL := List.mem_of_getElem? (i := 86) (by decide +kernel)
set_option maxRecDepth 100000 in
theorem w87 : Cond.code yX2_init cX2_init 1 none ∈ WALL := List.mem_of_getElem? (i := 87) (by decide +kernel)
set_option maxRecDepth 100000 in
theorem w88 : Cond.methodLink RX2 3 objectInit ∈ WALL := List.mem_of_getElem? (i := 88) (by decide +kernel)
set_option maxRecDepth 100000 in
theorem w89 : Cond.fieldLink RX2 9 "Tollgate$Holds" "account" "[I" ∈ WALL := List.mem_of_getElem? (i := 89) (by decide +kernel)
set_option maxRecDepth 100000 in
theorem w90 : Cond.fieldLink RX2 15 "Tollgate$Holds" "amount" "[I" ∈ WALL := List.mem_of_getElem? (i := 90) (by decide +kernel)
set_option maxRecDepth 100000 in
theorem w91 : Cond.fieldLink RX2 18 "Tollgate$Holds" "lastDay" "[I" ∈ WALL := List.mem_of_getElem? (i := 91) (by decide +kernel)
set_option maxRecDepth 100000 in
theorem w92 : Cond.fieldLink RX2 21 "Tollgate$Holds" "isEnded" "[Z" ∈ WALL := List.mem_of_getElem? (i := 92) (by decide +kernel)
set_option maxRecDepth 100000 in
theorem w93 : Cond.fieldLink RX2 25 "Tollgate$Holds" "count" "I" ∈ WALL := List.mem_of_getElem? (i := 93) (by decide +kernel)
set_option maxRecDepth 100000 in
theorem w94 : Cond.instanceMethod yX5_init ∈ WALL := List.mem_of_getElem? (i := 94) (by decide +kernel)
set_option maxRecDepth 100000 in
theorem w95 : Cond.code yX5_init cX5_init 1 none ∈ WALL := List.mem_of_getElem? (i := 95) (by decide +kernel)
set_option maxRecDepth 100000 in
theorem w96 : Cond.methodLink RX5 3 objectInit ∈ WALL := List.mem_of_getElem? (i := 96) (by decide +kernel)
set_option maxRecDepth 100000 in
theorem w97 : Cond.fieldLink RX5 9 "Tollgate$Lines" "account" "[I" ∈ WALL := List.mem_of_getElem? (i := 97) (by decide +kernel)
set_option maxRecDepth 100000 in
theorem w98 : Cond.fieldLink RX5 15 "Tollgate$Lines" "day" "[I" ∈ WALL := List.mem_of_getElem? (i := 98) (by decide +kernel)
set_option maxRecDepth 100000 in
theorem w99 : Cond.fieldLink RX5 18 "Tollgate$Lines" "amount" "[I" ∈ WALL := List.mem_of_getElem? (i := 99) (by decide +kernel)
set_option maxRecDepth 100000 in
theorem w100 : Cond.fieldLink RX5 21 "Tollgate$Lines" "byDay" "[I" ∈ WALL := List.mem_of_getElem? (i := 100) (by decide +kernel)
set_option maxRecDepth 100000 in
theorem w101 : Cond.fieldLink RX5 24 "Tollgate$Lines" "count" "I" ∈ WALL := List.mem_of_getElem? (i := 101) (by decide +kernel)
set_option maxRecDepth 100000 in
theorem w102 : Cond.methodLink RX7 46 yX6_init ∈ WALL := List.mem_of_getElem? (i := 102) (by decide +kernel)
set_option maxRecDepth 100000 in
theorem w103 : Cond.instanceMethod yX6_init ∈ WALL := List.mem_of_getElem? (i := 103) (by decide +kernel)
set_option maxRecDepth 100000 in
theorem w104 : Cond.code yX6_init cX6_init 4 none ∈ WALL := List.mem_of_getElem? (i := 104) (by decide +kernel)
set_option maxRecDepth 100000 in
theorem w105 : Cond.methodLink RX6 3 objectInit ∈ WALL := List.mem_of_getElem? (i := 105) (by decide +kernel)
set_option maxRecDepth 100000 in
theorem w106 : Cond.fieldLink RX6 9 "Tollgate$Matching" "lineOfLeg" "[I" ∈ WALL := List.mem_of_getElem? (i := 106) (by decide +kernel)
set_option maxRecDepth 100000 in
theorem w107 : Cond.fieldLink RX6 15 "Tollgate$Matching" "firstOfLine" "[I" ∈ WALL := List.mem_of_getElem? (i := 107) (by decide +kernel)
set_option maxRecDepth 100000 in
theorem w108 : Cond.fieldLink RX6 18 "Tollgate$Matching" "secondOfLine" "[I" ∈ WALL := List.mem_of_getElem? (i := 108) (by decide +kernel)
set_option maxRecDepth 100000 in
theorem w109 : Cond.fieldLink RX6 21 "Tollgate$Matching" "journal" "LTollgate$Journal;" ∈ WALL := List.mem_of_getElem? (i := 109) (by decide +kernel)
set_option maxRecDepth 100000 in
theorem w110 : Cond.fieldLink RX6 25 "Tollgate$Matching" "lines" "LTollgate$Lines;" ∈ WALL := List.mem_of_getElem? (i := 110) (by decide +kernel)
set_option maxRecDepth 100000 in
theorem w111 : Cond.methodLink RL 12 yL_cell ∈ WALL := List.mem_of_getElem? (i := 111) (by decide +kernel)
set_option maxRecDepth 100000 in
theorem w112 : Cond.static yL_cell ∈ WALL := List.mem_of_getElem? (i := 112) (by decide +kernel)
set_option maxRecDepth 100000 in
theorem w113 : Cond.initialized RL ∈ WALL := List.mem_of_getElem? (i := 113) (by decide +kernel)
set_option maxRecDepth 100000 in
theorem w114 : Cond.code yL_cell cL_cell 2 (some .int) ∈ WALL := List.mem_of_getElem? (i := 114) (by decide +kernel)
set_option maxRecDepth 100000 in
theorem w115 : Cond.constant RL 8 (790386105) ∈ WALL := List.mem_of_getElem? (i := 115) (by decide +kernel)
set_option maxRecDepth 100000 in
theorem w116 : Cond.methodLink RL 18 yL_below ∈ WALL := List.mem_of_getElem? (i := 116) (by decide +kernel)
set_option maxRecDepth 100000 in
theorem w117 : Cond.static yL_below ∈ WALL := List.mem_of_getElem? (i := 117) (by decide +kernel)
set_option maxRecDepth 100000 in
theorem w118 : Cond.code yL_below cL_below 2 (some .int) ∈ WALL := List.mem_of_getElem? (i := 118) (by decide +kernel)
set_option maxRecDepth 100000 in
theorem w119 : Cond.constant RL 7 (2147483647) ∈ WALL := List.mem_of_getElem? (i := 119) (by decide +kernel)
set_option maxRecDepth 100000 in
theorem w120 : Cond.methodLink RL 22 yX7_rate ∈ WALL := List.mem_of_getElem? (i := 120) (by decide +kernel)
set_option maxRecDepth 100000 in
theorem w121 : Cond.instanceMethod yX7_rate ∈ WALL := List.mem_of_getElem? (i := 121) (by decide +kernel)
set_option maxRecDepth 100000 in
theorem w122 : Cond.selects RX7 yX7_rate yX7_rate ∈ WALL := List.mem_of_getElem? (i := 122) (by decide +kernel)
set_option maxRecDepth 100000 in
theorem w123 : Cond.code yX7_rate cX7_rate 4 (some .int) ∈ WALL := List.mem_of_getElem? (i := 123) (by decide +kernel)
set_option maxRecDepth 100000 in
theorem w124 : Cond.classLink RX7 71 "java/lang/IllegalArgumentException" ∈ WALL := List.mem_of_getElem? (i := 124) (by decide +kernel)
set_option maxRecDepth 100000 in
theorem w125 : Cond.initialized "java/lang/IllegalArgumentException" ∈ WALL := List.mem_of_getElem? (i := 125) (by decide +kernel)
set_option maxRecDepth 100000 in
theorem w126 : Cond.classLink RX7 82 "java/lang/IllegalStateException" ∈ WALL := List.mem_of_getElem? (i := 126) (by decide +kernel)
set_option maxRecDepth 100000 in
theorem w127 : Cond.initialized "java/lang/IllegalStateException" ∈ WALL := List.mem_of_getElem? (i := 127) (by decide +kernel)
set_option maxRecDepth 100000 in
theorem w128 : Cond.constant RX7 70 (100000) ∈ WALL := List.mem_of_getElem? (i := 128) (by decide +kernel)
set_option maxRecDepth 100000 in
theorem w129 : Cond.fieldLink RX7 87 "Tollgate$Accounts" "rates" "[I" ∈ WALL := List.mem_of_getElem? (i := 129) (by decide +kernel)
set_option maxRecDepth 100000 in
theorem w130 : Cond.methodLink RX7 78 yX0_anyIn ∈ WALL := List.mem_of_getElem? (i := 130) (by decide +kernel)
set_option maxRecDepth 100000 in
theorem w131 : Cond.instanceMethod yX0_anyIn ∈ WALL := List.mem_of_getElem? (i := 131) (by decide +kernel)
set_option maxRecDepth 100000 in
theorem w132 : Cond.selects RX0 yX0_anyIn yX0_anyIn ∈ WALL := List.mem_of_getElem? (i := 132) (by decide +kernel)
set_option maxRecDepth 100000 in
theorem w133 : Cond.code yX0_anyIn cX0_anyIn 3 (some .boolean) ∈ WALL := List.mem_of_getElem? (i := 133) (by decide +kernel)
set_option maxRecDepth 100000 in
theorem w134 : Cond.methodLink RL 25 yX7_account ∈ WALL := List.mem_of_getElem? (i := 134) (by decide +kernel)
set_option maxRecDepth 100000 in
theorem w135 : Cond.instanceMethod yX7_account ∈ WALL := List.mem_of_getElem? (i := 135) (by decide +kernel)
set_option maxRecDepth 100000 in
theorem w136 : Cond.selects RX7 yX7_account yX7_account ∈ WALL := List.mem_of_getElem? (i := 136) (by decide +kernel)
set_option maxRecDepth 100000 in
theorem w137 : Cond.code yX7_account cX7_account 3 (some .int) ∈ WALL := List.mem_of_getElem? (i := 137) (by decide +kernel)
set_option maxRecDepth 100000 in
theorem w138 : Cond.fieldLink RX7 93 "Tollgate$Accounts" "count" "I" ∈ WALL := List.mem_of_getElem? (i := 138) (by decide +kernel)
set_option maxRecDepth 100000 in
theorem w139 : Cond.methodLink RX7 98 yX0_add ∈ WALL := List.mem_of_getElem? (i := 139) (by decide +kernel)
set_option maxRecDepth 100000 in
theorem w140 : Cond.instanceMethod yX0_add ∈ WALL := List.mem_of_getElem? (i := 140) (by decide +kernel)
set_option maxRecDepth 100000 in
theorem w141 : Cond.selects RX0 yX0_add yX0_add ∈ WALL := List.mem_of_getElem? (i := 141) (by decide +kernel)
set_option maxRecDepth 100000 in
theorem w142 : Cond.code yX0_add cX0_add 3 (some .int) ∈ WALL := List.mem_of_getElem? (i := 142) (by decide +kernel)
set_option maxRecDepth 100000 in
theorem w143 : Cond.methodLink RL 28 yX7_exchange ∈ WALL := List.mem_of_getElem? (i := 143) (by decide +kernel)
set_option maxRecDepth 100000 in
theorem w144 : Cond.instanceMethod yX7_exchange ∈ WALL := List.mem_of_getElem? (i := 144) (by decide +kernel)
set_option maxRecDepth 100000 in
theorem w145 : Cond.selects RX7 yX7_exchange yX7_exchange ∈ WALL := List.mem_of_getElem? (i := 145) (by decide +kernel)
set_option maxRecDepth 100000 in
theorem w146 : Cond.code yX7_exchange cX7_exchange 3 (some .int) ∈ WALL := List.mem_of_getElem? (i := 146) (by decide +kernel)
set_option maxRecDepth 100000 in
theorem w147 : Cond.fieldLink RX7 126 "Tollgate$Accounts" "currency" "[I" ∈ WALL := List.mem_of_getElem? (i := 147) (by decide +kernel)
set_option maxRecDepth 100000 in
theorem w148 : Cond.methodLink RX7 102 yX7_needAccount ∈ WALL := List.mem_of_getElem? (i := 148) (by decide +kernel)
set_option maxRecDepth 100000 in
theorem w149 : Cond.instanceMethod yX7_needAccount ∈ WALL := List.mem_of_getElem? (i := 149) (by decide +kernel)
set_option maxRecDepth 100000 in
theorem w150 : Cond.selects RX7 yX7_needAccount yX7_needAccount ∈ WALL := List.mem_of_getElem? (i := 150) (by decide +kernel)
set_option maxRecDepth 100000 in
theorem w151 : Cond.code yX7_needAccount cX7_needAccount 2 none ∈ WALL := List.mem_of_getElem? (i := 151) (by decide +kernel)
set_option maxRecDepth 100000 in
theorem w152 : Cond.classLink RX7 194 "java/lang/IndexOutOfBoundsException" ∈ WALL := List.mem_of_getElem? (i := 152) (by decide +kernel)
set_option maxRecDepth 100000 in
theorem w153 : Cond.initialized "java/lang/IndexOutOfBoundsException" ∈ WALL := List.mem_of_getElem? (i := 153) (by decide +kernel)
set_option maxRecDepth 100000 in
theorem w154 : Cond.methodLink RL 32 yX7_pass ∈ WALL := List.mem_of_getElem? (i := 154) (by decide +kernel)
set_option maxRecDepth 100000 in
theorem w155 : Cond.instanceMethod yX7_pass ∈ WALL := List.mem_of_getElem? (i := 155) (by decide +kernel)
set_option maxRecDepth 100000 in
theorem w156 : Cond.selects RX7 yX7_pass yX7_pass ∈ WALL := List.mem_of_getElem? (i := 156) (by decide +kernel)
set_option maxRecDepth 100000 in
theorem w157 : Cond.code yX7_pass cX7_pass 2 (some .int) ∈ WALL := List.mem_of_getElem? (i := 157) (by decide +kernel)
set_option maxRecDepth 100000 in
theorem w158 : Cond.methodLink RL 35 yX7_many ∈ WALL := List.mem_of_getElem? (i := 158) (by decide +kernel)
set_option maxRecDepth 100000 in
theorem w159 : Cond.instanceMethod yX7_many ∈ WALL := List.mem_of_getElem? (i := 159) (by decide +kernel)
set_option maxRecDepth 100000 in
theorem w160 : Cond.selects RX7 yX7_many yX7_many ∈ WALL := List.mem_of_getElem? (i := 160) (by decide +kernel)
set_option maxRecDepth 100000 in
theorem w161 : Cond.code yX7_many cX7_many 2 (some .int) ∈ WALL := List.mem_of_getElem? (i := 161) (by decide +kernel)
set_option maxRecDepth 100000 in
theorem w162 : Cond.fieldLink RX7 301 "Tollgate$Lines" "count" "I" ∈ WALL := List.mem_of_getElem? (i := 162) (by decide +kernel)
set_option maxRecDepth 100000 in
theorem w163 : Cond.methodLink RX7 337 yX3_countStanding ∈ WALL := List.mem_of_getElem? (i := 163) (by decide +kernel)
set_option maxRecDepth 100000 in
theorem w164 : Cond.instanceMethod yX3_countStanding ∈ WALL := List.mem_of_getElem? (i := 164) (by decide +kernel)
set_option maxRecDepth 100000 in
theorem w165 : Cond.selects RX3 yX3_countStanding yX3_countStanding ∈ WALL := List.mem_of_getElem? (i := 165) (by decide +kernel)
set_option maxRecDepth 100000 in
theorem w166 : Cond.code yX3_countStanding cX3_countStanding 3 (some .int) ∈ WALL := List.mem_of_getElem? (i := 166) (by decide +kernel)
set_option maxRecDepth 100000 in
theorem w167 : Cond.methodLink RX7 340 yX2_countOpen ∈ WALL := List.mem_of_getElem? (i := 167) (by decide +kernel)
set_option maxRecDepth 100000 in
theorem w168 : Cond.instanceMethod yX2_countOpen ∈ WALL := List.mem_of_getElem? (i := 168) (by decide +kernel)
set_option maxRecDepth 100000 in
theorem w169 : Cond.selects RX2 yX2_countOpen yX2_countOpen ∈ WALL := List.mem_of_getElem? (i := 169) (by decide +kernel)
set_option maxRecDepth 100000 in
theorem w170 : Cond.code yX2_countOpen cX2_countOpen 4 (some .int) ∈ WALL := List.mem_of_getElem? (i := 170) (by decide +kernel)
set_option maxRecDepth 100000 in
theorem w171 : Cond.methodLink RX2 29 yX2_isOpen ∈ WALL := List.mem_of_getElem? (i := 171) (by decide +kernel)
set_option maxRecDepth 100000 in
theorem w172 : Cond.instanceMethod yX2_isOpen ∈ WALL := List.mem_of_getElem? (i := 172) (by decide +kernel)
set_option maxRecDepth 100000 in
theorem w173 : Cond.selects RX2 yX2_isOpen yX2_isOpen ∈ WALL := List.mem_of_getElem? (i := 173) (by decide +kernel)
set_option maxRecDepth 100000 in
theorem w174 : Cond.code yX2_isOpen cX2_isOpen 3 (some .boolean) ∈ WALL := List.mem_of_getElem? (i := 174) (by decide +kernel)
set_option maxRecDepth 100000 in
theorem w175 : Cond.methodLink RX7 277 yX3_lastLocked ∈ WALL := List.mem_of_getElem? (i := 175) (by decide +kernel)
set_option maxRecDepth 100000 in
theorem w176 : Cond.instanceMethod yX3_lastLocked ∈ WALL := List.mem_of_getElem? (i := 176) (by decide +kernel)
set_option maxRecDepth 100000 in
theorem w177 : Cond.selects RX3 yX3_lastLocked yX3_lastLocked ∈ WALL := List.mem_of_getElem? (i := 177) (by decide +kernel)
set_option maxRecDepth 100000 in
theorem w178 : Cond.code yX3_lastLocked cX3_lastLocked 2 (some .int) ∈ WALL := List.mem_of_getElem? (i := 178) (by decide +kernel)
set_option maxRecDepth 100000 in
theorem w179 : Cond.methodLink RX3 65 yX3_lastClosing ∈ WALL := List.mem_of_getElem? (i := 179) (by decide +kernel)
set_option maxRecDepth 100000 in
theorem w180 : Cond.instanceMethod yX3_lastClosing ∈ WALL := List.mem_of_getElem? (i := 180) (by decide +kernel)
set_option maxRecDepth 100000 in
theorem w181 : Cond.selects RX3 yX3_lastClosing yX3_lastClosing ∈ WALL := List.mem_of_getElem? (i := 181) (by decide +kernel)
set_option maxRecDepth 100000 in
theorem w182 : Cond.code yX3_lastClosing cX3_lastClosing 2 (some .int) ∈ WALL := List.mem_of_getElem? (i := 182) (by decide +kernel)
set_option maxRecDepth 100000 in
theorem w183 : Cond.methodLink RL 38 yX7_wouldClose ∈ WALL := List.mem_of_getElem? (i := 183) (by decide +kernel)
set_option maxRecDepth 100000 in
theorem w184 : Cond.instanceMethod yX7_wouldClose ∈ WALL := List.mem_of_getElem? (i := 184) (by decide +kernel)
set_option maxRecDepth 100000 in
theorem w185 : Cond.selects RX7 yX7_wouldClose yX7_wouldClose ∈ WALL := List.mem_of_getElem? (i := 185) (by decide +kernel)
set_option maxRecDepth 100000 in
theorem w186 : Cond.code yX7_wouldClose cX7_wouldClose 2 (some .long) ∈ WALL := List.mem_of_getElem? (i := 186) (by decide +kernel)
set_option maxRecDepth 100000 in
theorem w187 : Cond.methodLink RX7 133 yX7_needDay ∈ WALL := List.mem_of_getElem? (i := 187) (by decide +kernel)
set_option maxRecDepth 100000 in
theorem w188 : Cond.static yX7_needDay ∈ WALL := List.mem_of_getElem? (i := 188) (by decide +kernel)
set_option maxRecDepth 100000 in
theorem w189 : Cond.code yX7_needDay cX7_needDay 1 none ∈ WALL := List.mem_of_getElem? (i := 189) (by decide +kernel)
set_option maxRecDepth 100000 in
theorem w190 : Cond.methodLink RX7 286 yX7_planClosing ∈ WALL := List.mem_of_getElem? (i := 190) (by decide +kernel)
set_option maxRecDepth 100000 in
theorem w191 : Cond.instanceMethod yX7_planClosing ∈ WALL := List.mem_of_getElem? (i := 191) (by decide +kernel)
set_option maxRecDepth 100000 in
theorem w192 : Cond.selects RX7 yX7_planClosing yX7_planClosing ∈ WALL := List.mem_of_getElem? (i := 192) (by decide +kernel)
set_option maxRecDepth 100000 in
theorem w193 : Cond.code yX7_planClosing cX7_planClosing 5 none ∈ WALL := List.mem_of_getElem? (i := 193) (by decide +kernel)
set_option maxRecDepth 100000 in
theorem w194 : Cond.fieldLink RX7 141 "Tollgate$LegRow" "count" "I" ∈ WALL := List.mem_of_getElem? (i := 194) (by decide +kernel)
set_option maxRecDepth 100000 in
theorem w195 : Cond.methodLink RX7 353 yX0_isClosed ∈ WALL := List.mem_of_getElem? (i := 195) (by decide +kernel)
set_option maxRecDepth 100000 in
theorem w196 : Cond.instanceMethod yX0_isClosed ∈ WALL := List.mem_of_getElem? (i := 196) (by decide +kernel)
set_option maxRecDepth 100000 in
theorem w197 : Cond.selects RX0 yX0_isClosed yX0_isClosed ∈ WALL := List.mem_of_getElem? (i := 197) (by decide +kernel)
set_option maxRecDepth 100000 in
theorem w198 : Cond.code yX0_isClosed cX0_isClosed 2 (some .boolean) ∈ WALL := List.mem_of_getElem? (i := 198) (by decide +kernel)
set_option maxRecDepth 100000 in
theorem w199 : Cond.methodLink RX7 345 yX3_amountUpTo ∈ WALL := List.mem_of_getElem? (i := 199) (by decide +kernel)
set_option maxRecDepth 100000 in
theorem w200 : Cond.instanceMethod yX3_amountUpTo ∈ WALL := List.mem_of_getElem? (i := 200) (by decide +kernel)
set_option maxRecDepth 100000 in
theorem w201 : Cond.selects RX3 yX3_amountUpTo yX3_amountUpTo ∈ WALL := List.mem_of_getElem? (i := 201) (by decide +kernel)
set_option maxRecDepth 100000 in
theorem w202 : Cond.code yX3_amountUpTo cX3_amountUpTo 6 (some .long) ∈ WALL := List.mem_of_getElem? (i := 202) (by decide +kernel)
set_option maxRecDepth 100000 in
theorem w203 : Cond.methodLink RX3 69 yX3_counts ∈ WALL := List.mem_of_getElem? (i := 203) (by decide +kernel)
set_option maxRecDepth 100000 in
theorem w204 : Cond.instanceMethod yX3_counts ∈ WALL := List.mem_of_getElem? (i := 204) (by decide +kernel)
set_option maxRecDepth 100000 in
theorem w205 : Cond.selects RX3 yX3_counts yX3_counts ∈ WALL := List.mem_of_getElem? (i := 205) (by decide +kernel)
set_option maxRecDepth 100000 in
theorem w206 : Cond.code yX3_counts cX3_counts 2 (some .boolean) ∈ WALL := List.mem_of_getElem? (i := 206) (by decide +kernel)
set_option maxRecDepth 100000 in
theorem w207 : Cond.methodLink RX3 73 yX3_dayOf ∈ WALL := List.mem_of_getElem? (i := 207) (by decide +kernel)
set_option maxRecDepth 100000 in
theorem w208 : Cond.instanceMethod yX3_dayOf ∈ WALL := List.mem_of_getElem? (i := 208) (by decide +kernel)
set_option maxRecDepth 100000 in
theorem w209 : Cond.selects RX3 yX3_dayOf yX3_dayOf ∈ WALL := List.mem_of_getElem? (i := 209) (by decide +kernel)
set_option maxRecDepth 100000 in
theorem w210 : Cond.code yX3_dayOf cX3_dayOf 2 (some .int) ∈ WALL := List.mem_of_getElem? (i := 210) (by decide +kernel)
set_option maxRecDepth 100000 in
theorem w211 : Cond.methodLink RX7 289 yX7_planLeg ∈ WALL := List.mem_of_getElem? (i := 211) (by decide +kernel)
set_option maxRecDepth 100000 in
theorem w212 : Cond.instanceMethod yX7_planLeg ∈ WALL := List.mem_of_getElem? (i := 212) (by decide +kernel)
set_option maxRecDepth 100000 in
theorem w213 : Cond.selects RX7 yX7_planLeg yX7_planLeg ∈ WALL := List.mem_of_getElem? (i := 213) (by decide +kernel)
set_option maxRecDepth 100000 in
theorem w214 : Cond.code yX7_planLeg cX7_planLeg 4 none ∈ WALL := List.mem_of_getElem? (i := 214) (by decide +kernel)
set_option maxRecDepth 100000 in
theorem w215 : Cond.methodLink RX7 155 yX0_worth ∈ WALL := List.mem_of_getElem? (i := 215) (by decide +kernel)
set_option maxRecDepth 100000 in
theorem w216 : Cond.instanceMethod yX0_worth ∈ WALL := List.mem_of_getElem? (i := 216) (by decide +kernel)
set_option maxRecDepth 100000 in
theorem w217 : Cond.selects RX0 yX0_worth yX0_worth ∈ WALL := List.mem_of_getElem? (i := 217) (by decide +kernel)
set_option maxRecDepth 100000 in
theorem w218 : Cond.code yX0_worth cX0_worth 8 (some .long) ∈ WALL := List.mem_of_getElem? (i := 218) (by decide +kernel)
set_option maxRecDepth 100000 in
theorem w219 : Cond.constantLong RX0 32 (-500) ∈ WALL := List.mem_of_getElem? (i := 219) (by decide +kernel)
set_option maxRecDepth 100000 in
theorem w220 : Cond.constantLong RX0 34 (500) ∈ WALL := List.mem_of_getElem? (i := 220) (by decide +kernel)
set_option maxRecDepth 100000 in
theorem w221 : Cond.constantLong RX0 36 (1000) ∈ WALL := List.mem_of_getElem? (i := 221) (by decide +kernel)
set_option maxRecDepth 100000 in
theorem w222 : Cond.methodLink RX7 159 yX4_add ∈ WALL := List.mem_of_getElem? (i := 222) (by decide +kernel)
set_option maxRecDepth 100000 in
theorem w223 : Cond.instanceMethod yX4_add ∈ WALL := List.mem_of_getElem? (i := 223) (by decide +kernel)
set_option maxRecDepth 100000 in
theorem w224 : Cond.selects RX4 yX4_add yX4_add ∈ WALL := List.mem_of_getElem? (i := 224) (by decide +kernel)
set_option maxRecDepth 100000 in
theorem w225 : Cond.code yX4_add cX4_add 6 none ∈ WALL := List.mem_of_getElem? (i := 225) (by decide +kernel)
set_option maxRecDepth 100000 in
theorem w226 : Cond.methodLink RX7 162 yX4_worthSum ∈ WALL := List.mem_of_getElem? (i := 226) (by decide +kernel)
set_option maxRecDepth 100000 in
theorem w227 : Cond.instanceMethod yX4_worthSum ∈ WALL := List.mem_of_getElem? (i := 227) (by decide +kernel)
set_option maxRecDepth 100000 in
theorem w228 : Cond.selects RX4 yX4_worthSum yX4_worthSum ∈ WALL := List.mem_of_getElem? (i := 228) (by decide +kernel)
set_option maxRecDepth 100000 in
theorem w229 : Cond.code yX4_worthSum cX4_worthSum 4 (some .long) ∈ WALL := List.mem_of_getElem? (i := 229) (by decide +kernel)
set_option maxRecDepth 100000 in
theorem w230 : Cond.methodLink RL 42 yX7_close ∈ WALL := List.mem_of_getElem? (i := 230) (by decide +kernel)
set_option maxRecDepth 100000 in
theorem w231 : Cond.instanceMethod yX7_close ∈ WALL := List.mem_of_getElem? (i := 231) (by decide +kernel)
set_option maxRecDepth 100000 in
theorem w232 : Cond.selects RX7 yX7_close yX7_close ∈ WALL := List.mem_of_getElem? (i := 232) (by decide +kernel)
set_option maxRecDepth 100000 in
theorem w233 : Cond.code yX7_close cX7_close 5 (some .int) ∈ WALL := List.mem_of_getElem? (i := 233) (by decide +kernel)
set_option maxRecDepth 100000 in
theorem w234 : Cond.fieldLink RX7 239 "Tollgate$Accounts" "kind" "[I" ∈ WALL := List.mem_of_getElem? (i := 234) (by decide +kernel)
set_option maxRecDepth 100000 in
theorem w235 : Cond.methodLink RX7 280 yX3_isFull ∈ WALL := List.mem_of_getElem? (i := 235) (by decide +kernel)
set_option maxRecDepth 100000 in
theorem w236 : Cond.instanceMethod yX3_isFull ∈ WALL := List.mem_of_getElem? (i := 236) (by decide +kernel)
set_option maxRecDepth 100000 in
theorem w237 : Cond.selects RX3 yX3_isFull yX3_isFull ∈ WALL := List.mem_of_getElem? (i := 237) (by decide +kernel)
set_option maxRecDepth 100000 in
theorem w238 : Cond.code yX3_isFull cX3_isFull 1 (some .boolean) ∈ WALL := List.mem_of_getElem? (i := 238) (by decide +kernel)
set_option maxRecDepth 100000 in
theorem w239 : Cond.methodLink RX7 181 yX3_enter ∈ WALL := List.mem_of_getElem? (i := 239) (by decide +kernel)
set_option maxRecDepth 100000 in
theorem w240 : Cond.instanceMethod yX3_enter ∈ WALL := List.mem_of_getElem? (i := 240) (by decide +kernel)
set_option maxRecDepth 100000 in
theorem w241 : Cond.selects RX3 yX3_enter yX3_enter ∈ WALL := List.mem_of_getElem? (i := 241) (by decide +kernel)
set_option maxRecDepth 100000 in
theorem w242 : Cond.code yX3_enter cX3_enter 7 (some .int) ∈ WALL := List.mem_of_getElem? (i := 242) (by decide +kernel)
set_option maxRecDepth 100000 in
theorem w243 : Cond.fieldLink RX3 55 "Tollgate$LegRow" "count" "I" ∈ WALL := List.mem_of_getElem? (i := 243) (by decide +kernel)
set_option maxRecDepth 100000 in
theorem w244 : Cond.fieldLink RX3 58 "Tollgate$LegRow" "account" "[I" ∈ WALL := List.mem_of_getElem? (i := 244) (by decide +kernel)
set_option maxRecDepth 100000 in
theorem w245 : Cond.fieldLink RX3 59 "Tollgate$LegRow" "amount" "[J" ∈ WALL := List.mem_of_getElem? (i := 245) (by decide +kernel)
set_option maxRecDepth 100000 in
theorem w246 : Cond.fieldLink RX3 60 "Tollgate$LegRow" "worth" "[J" ∈ WALL := List.mem_of_getElem? (i := 246) (by decide +kernel)
set_option maxRecDepth 100000 in
theorem w247 : Cond.methodLink RX3 51 yX3_isFull ∈ WALL := List.mem_of_getElem? (i := 247) (by decide +kernel)
set_option maxRecDepth 100000 in
theorem w248 : Cond.methodLink RX3 61 yX3_addLeg ∈ WALL := List.mem_of_getElem? (i := 248) (by decide +kernel)
set_option maxRecDepth 100000 in
theorem w249 : Cond.instanceMethod yX3_addLeg ∈ WALL := List.mem_of_getElem? (i := 249) (by decide +kernel)
set_option maxRecDepth 100000 in
theorem w250 : Cond.selects RX3 yX3_addLeg yX3_addLeg ∈ WALL := List.mem_of_getElem? (i := 250) (by decide +kernel)
set_option maxRecDepth 100000 in
theorem w251 : Cond.code yX3_addLeg cX3_addLeg 7 none ∈ WALL := List.mem_of_getElem? (i := 251) (by decide +kernel)
set_option maxRecDepth 100000 in
theorem w252 : Cond.methodLink RL 45 yX7_ofEntry ∈ WALL := List.mem_of_getElem? (i := 252) (by decide +kernel)
set_option maxRecDepth 100000 in
theorem w253 : Cond.instanceMethod yX7_ofEntry ∈ WALL := List.mem_of_getElem? (i := 253) (by decide +kernel)
set_option maxRecDepth 100000 in
theorem w254 : Cond.selects RX7 yX7_ofEntry yX7_ofEntry ∈ WALL := List.mem_of_getElem? (i := 254) (by decide +kernel)
set_option maxRecDepth 100000 in
theorem w255 : Cond.code yX7_ofEntry cX7_ofEntry 3 (some .int) ∈ WALL := List.mem_of_getElem? (i := 255) (by decide +kernel)
set_option maxRecDepth 100000 in
theorem w256 : Cond.fieldLink RX7 215 "Tollgate$Journal" "day" "[I" ∈ WALL := List.mem_of_getElem? (i := 256) (by decide +kernel)
set_option maxRecDepth 100000 in
theorem w257 : Cond.fieldLink RX7 210 "Tollgate$Journal" "note" "[I" ∈ WALL := List.mem_of_getElem? (i := 257) (by decide +kernel)
set_option maxRecDepth 100000 in
theorem w258 : Cond.fieldLink RX7 217 "Tollgate$Journal" "legsOf" "[I" ∈ WALL := List.mem_of_getElem? (i := 258) (by decide +kernel)
set_option maxRecDepth 100000 in
theorem w259 : Cond.fieldLink RX7 191 "Tollgate$Journal" "gone" "[Z" ∈ WALL := List.mem_of_getElem? (i := 259) (by decide +kernel)
set_option maxRecDepth 100000 in
theorem w260 : Cond.methodLink RX7 212 yX7_needEntry ∈ WALL := List.mem_of_getElem? (i := 260) (by decide +kernel)
set_option maxRecDepth 100000 in
theorem w261 : Cond.instanceMethod yX7_needEntry ∈ WALL := List.mem_of_getElem? (i := 261) (by decide +kernel)
set_option maxRecDepth 100000 in
theorem w262 : Cond.selects RX7 yX7_needEntry yX7_needEntry ∈ WALL := List.mem_of_getElem? (i := 262) (by decide +kernel)
set_option maxRecDepth 100000 in
theorem w263 : Cond.code yX7_needEntry cX7_needEntry 2 none ∈ WALL := List.mem_of_getElem? (i := 263) (by decide +kernel)
set_option maxRecDepth 100000 in
theorem w264 : Cond.methodLink RX7 188 yX3_has ∈ WALL := List.mem_of_getElem? (i := 264) (by decide +kernel)
set_option maxRecDepth 100000 in
theorem w265 : Cond.instanceMethod yX3_has ∈ WALL := List.mem_of_getElem? (i := 265) (by decide +kernel)
set_option maxRecDepth 100000 in
theorem w266 : Cond.selects RX3 yX3_has yX3_has ∈ WALL := List.mem_of_getElem? (i := 266) (by decide +kernel)
set_option maxRecDepth 100000 in
theorem w267 : Cond.code yX3_has cX3_has 2 (some .boolean) ∈ WALL := List.mem_of_getElem? (i := 267) (by decide +kernel)
set_option maxRecDepth 100000 in
theorem w268 : Cond.methodLink RL 48 yX7_ofLeg ∈ WALL := List.mem_of_getElem? (i := 268) (by decide +kernel)
set_option maxRecDepth 100000 in
theorem w269 : Cond.instanceMethod yX7_ofLeg ∈ WALL := List.mem_of_getElem? (i := 269) (by decide +kernel)
set_option maxRecDepth 100000 in
theorem w270 : Cond.selects RX7 yX7_ofLeg yX7_ofLeg ∈ WALL := List.mem_of_getElem? (i := 270) (by decide +kernel)
set_option maxRecDepth 100000 in
theorem w271 : Cond.code yX7_ofLeg cX7_ofLeg 5 (some .long) ∈ WALL := List.mem_of_getElem? (i := 271) (by decide +kernel)
set_option maxRecDepth 100000 in
theorem w272 : Cond.fieldLink RX7 224 "Tollgate$Journal" "firstLeg" "[I" ∈ WALL := List.mem_of_getElem? (i := 272) (by decide +kernel)
set_option maxRecDepth 100000 in
theorem w273 : Cond.fieldLink RX7 227 "Tollgate$Journal" "account" "[I" ∈ WALL := List.mem_of_getElem? (i := 273) (by decide +kernel)
set_option maxRecDepth 100000 in
theorem w274 : Cond.fieldLink RX7 230 "Tollgate$Journal" "amount" "[J" ∈ WALL := List.mem_of_getElem? (i := 274) (by decide +kernel)
set_option maxRecDepth 100000 in
theorem w275 : Cond.fieldLink RX7 234 "Tollgate$Journal" "worth" "[J" ∈ WALL := List.mem_of_getElem? (i := 275) (by decide +kernel)
set_option maxRecDepth 100000 in
theorem w276 : Cond.fieldLink RX7 236 "Tollgate$Matching" "lineOfLeg" "[I" ∈ WALL := List.mem_of_getElem? (i := 276) (by decide +kernel)
set_option maxRecDepth 100000 in
theorem w277 : Cond.methodLink RL 52 yX7_open ∈ WALL := List.mem_of_getElem? (i := 277) (by decide +kernel)
set_option maxRecDepth 100000 in
theorem w278 : Cond.instanceMethod yX7_open ∈ WALL := List.mem_of_getElem? (i := 278) (by decide +kernel)
set_option maxRecDepth 100000 in
theorem w279 : Cond.selects RX7 yX7_open yX7_open ∈ WALL := List.mem_of_getElem? (i := 279) (by decide +kernel)
set_option maxRecDepth 100000 in
theorem w280 : Cond.code yX7_open cX7_open 2 (some .int) ∈ WALL := List.mem_of_getElem? (i := 280) (by decide +kernel)
set_option maxRecDepth 100000 in
theorem w281 : Cond.methodLink RX7 293 yX3_lastClosing ∈ WALL := List.mem_of_getElem? (i := 281) (by decide +kernel)
set_option maxRecDepth 100000 in
theorem w282 : Cond.methodLink RX7 298 yX6_freeLegsOf ∈ WALL := List.mem_of_getElem? (i := 282) (by decide +kernel)
set_option maxRecDepth 100000 in
theorem w283 : Cond.instanceMethod yX6_freeLegsOf ∈ WALL := List.mem_of_getElem? (i := 283) (by decide +kernel)
set_option maxRecDepth 100000 in
theorem w284 : Cond.selects RX6 yX6_freeLegsOf yX6_freeLegsOf ∈ WALL := List.mem_of_getElem? (i := 284) (by decide +kernel)
set_option maxRecDepth 100000 in
theorem w285 : Cond.code yX6_freeLegsOf cX6_freeLegsOf 4 none ∈ WALL := List.mem_of_getElem? (i := 285) (by decide +kernel)
set_option maxRecDepth 100000 in
theorem w286 : Cond.fieldLink RX6 108 "Tollgate$Journal" "firstLeg" "[I" ∈ WALL := List.mem_of_getElem? (i := 286) (by decide +kernel)
set_option maxRecDepth 100000 in
theorem w287 : Cond.fieldLink RX6 111 "Tollgate$Journal" "legsOf" "[I" ∈ WALL := List.mem_of_getElem? (i := 287) (by decide +kernel)
set_option maxRecDepth 100000 in
theorem w288 : Cond.methodLink RX6 38 yX6_freeLine ∈ WALL := List.mem_of_getElem? (i := 288) (by decide +kernel)
set_option maxRecDepth 100000 in
theorem w289 : Cond.instanceMethod yX6_freeLine ∈ WALL := List.mem_of_getElem? (i := 289) (by decide +kernel)
set_option maxRecDepth 100000 in
theorem w290 : Cond.selects RX6 yX6_freeLine yX6_freeLine ∈ WALL := List.mem_of_getElem? (i := 290) (by decide +kernel)
set_option maxRecDepth 100000 in
theorem w291 : Cond.code yX6_freeLine cX6_freeLine 2 none ∈ WALL := List.mem_of_getElem? (i := 291) (by decide +kernel)
set_option maxRecDepth 100000 in
theorem w292 : Cond.methodLink RL 56 yX7_line ∈ WALL := List.mem_of_getElem? (i := 292) (by decide +kernel)
set_option maxRecDepth 100000 in
theorem w293 : Cond.instanceMethod yX7_line ∈ WALL := List.mem_of_getElem? (i := 293) (by decide +kernel)
set_option maxRecDepth 100000 in
theorem w294 : Cond.selects RX7 yX7_line yX7_line ∈ WALL := List.mem_of_getElem? (i := 294) (by decide +kernel)
set_option maxRecDepth 100000 in
theorem w295 : Cond.code yX7_line cX7_line 4 (some .int) ∈ WALL := List.mem_of_getElem? (i := 295) (by decide +kernel)
set_option maxRecDepth 100000 in
theorem w296 : Cond.methodLink RX7 146 yX7_needAmount ∈ WALL := List.mem_of_getElem? (i := 296) (by decide +kernel)
set_option maxRecDepth 100000 in
theorem w297 : Cond.static yX7_needAmount ∈ WALL := List.mem_of_getElem? (i := 297) (by decide +kernel)
set_option maxRecDepth 100000 in
theorem w298 : Cond.code yX7_needAmount cX7_needAmount 1 none ∈ WALL := List.mem_of_getElem? (i := 298) (by decide +kernel)
set_option maxRecDepth 100000 in
theorem w299 : Cond.constant RX7 414 (-1000000) ∈ WALL := List.mem_of_getElem? (i := 299) (by decide +kernel)
set_option maxRecDepth 100000 in
theorem w300 : Cond.constant RX7 242 (1000000) ∈ WALL := List.mem_of_getElem? (i := 300) (by decide +kernel)
set_option maxRecDepth 100000 in
theorem w301 : Cond.methodLink RX7 304 yX5_add ∈ WALL := List.mem_of_getElem? (i := 301) (by decide +kernel)
set_option maxRecDepth 100000 in
theorem w302 : Cond.instanceMethod yX5_add ∈ WALL := List.mem_of_getElem? (i := 302) (by decide +kernel)
set_option maxRecDepth 100000 in
theorem w303 : Cond.selects RX5 yX5_add yX5_add ∈ WALL := List.mem_of_getElem? (i := 303) (by decide +kernel)
set_option maxRecDepth 100000 in
theorem w304 : Cond.code yX5_add cX5_add 4 (some .int) ∈ WALL := List.mem_of_getElem? (i := 304) (by decide +kernel)
set_option maxRecDepth 100000 in
theorem w305 : Cond.methodLink RX5 28 yX5_sortIn ∈ WALL := List.mem_of_getElem? (i := 305) (by decide +kernel)
set_option maxRecDepth 100000 in
theorem w306 : Cond.instanceMethod yX5_sortIn ∈ WALL := List.mem_of_getElem? (i := 306) (by decide +kernel)
set_option maxRecDepth 100000 in
theorem w307 : Cond.selects RX5 yX5_sortIn yX5_sortIn ∈ WALL := List.mem_of_getElem? (i := 307) (by decide +kernel)
set_option maxRecDepth 100000 in
theorem w308 : Cond.code yX5_sortIn cX5_sortIn 3 none ∈ WALL := List.mem_of_getElem? (i := 308) (by decide +kernel)
set_option maxRecDepth 100000 in
theorem w309 : Cond.methodLink RL 60 yX7_wouldMatch ∈ WALL := List.mem_of_getElem? (i := 309) (by decide +kernel)
set_option maxRecDepth 100000 in
theorem w310 : Cond.instanceMethod yX7_wouldMatch ∈ WALL := List.mem_of_getElem? (i := 310) (by decide +kernel)
set_option maxRecDepth 100000 in
theorem w311 : Cond.selects RX7 yX7_wouldMatch yX7_wouldMatch ∈ WALL := List.mem_of_getElem? (i := 311) (by decide +kernel)
set_option maxRecDepth 100000 in
theorem w312 : Cond.code yX7_wouldMatch cX7_wouldMatch 3 (some .int) ∈ WALL := List.mem_of_getElem? (i := 312) (by decide +kernel)
set_option maxRecDepth 100000 in
theorem w313 : Cond.methodLink RX7 305 yX7_needDaysAway ∈ WALL := List.mem_of_getElem? (i := 313) (by decide +kernel)
set_option maxRecDepth 100000 in
theorem w314 : Cond.static yX7_needDaysAway ∈ WALL := List.mem_of_getElem? (i := 314) (by decide +kernel)
set_option maxRecDepth 100000 in
theorem w315 : Cond.code yX7_needDaysAway cX7_needDaysAway 1 none ∈ WALL := List.mem_of_getElem? (i := 315) (by decide +kernel)
set_option maxRecDepth 100000 in
theorem w316 : Cond.methodLink RX7 308 yX6_pairUp ∈ WALL := List.mem_of_getElem? (i := 316) (by decide +kernel)
set_option maxRecDepth 100000 in
theorem w317 : Cond.instanceMethod yX6_pairUp ∈ WALL := List.mem_of_getElem? (i := 317) (by decide +kernel)
set_option maxRecDepth 100000 in
theorem w318 : Cond.selects RX6 yX6_pairUp yX6_pairUp ∈ WALL := List.mem_of_getElem? (i := 318) (by decide +kernel)
set_option maxRecDepth 100000 in
theorem w319 : Cond.code yX6_pairUp cX6_pairUp 4 (some .int) ∈ WALL := List.mem_of_getElem? (i := 319) (by decide +kernel)
set_option maxRecDepth 100000 in
theorem w320 : Cond.fieldLink RX6 29 "Tollgate$Lines" "count" "I" ∈ WALL := List.mem_of_getElem? (i := 320) (by decide +kernel)
set_option maxRecDepth 100000 in
theorem w321 : Cond.fieldLink RX6 35 "Tollgate$Lines" "account" "[I" ∈ WALL := List.mem_of_getElem? (i := 321) (by decide +kernel)
set_option maxRecDepth 100000 in
theorem w322 : Cond.fieldLink RX6 42 "Tollgate$Lines" "byDay" "[I" ∈ WALL := List.mem_of_getElem? (i := 322) (by decide +kernel)
set_option maxRecDepth 100000 in
theorem w323 : Cond.methodLink RX6 45 yX6_isLeft ∈ WALL := List.mem_of_getElem? (i := 323) (by decide +kernel)
set_option maxRecDepth 100000 in
theorem w324 : Cond.instanceMethod yX6_isLeft ∈ WALL := List.mem_of_getElem? (i := 324) (by decide +kernel)
set_option maxRecDepth 100000 in
theorem w325 : Cond.selects RX6 yX6_isLeft yX6_isLeft ∈ WALL := List.mem_of_getElem? (i := 325) (by decide +kernel)
set_option maxRecDepth 100000 in
theorem w326 : Cond.code yX6_isLeft cX6_isLeft 3 (some .boolean) ∈ WALL := List.mem_of_getElem? (i := 326) (by decide +kernel)
set_option maxRecDepth 100000 in
theorem w327 : Cond.methodLink RX6 49 yX6_bindNearest ∈ WALL := List.mem_of_getElem? (i := 327) (by decide +kernel)
set_option maxRecDepth 100000 in
theorem w328 : Cond.instanceMethod yX6_bindNearest ∈ WALL := List.mem_of_getElem? (i := 328) (by decide +kernel)
set_option maxRecDepth 100000 in
theorem w329 : Cond.selects RX6 yX6_bindNearest yX6_bindNearest ∈ WALL := List.mem_of_getElem? (i := 329) (by decide +kernel)
set_option maxRecDepth 100000 in
theorem w330 : Cond.code yX6_bindNearest cX6_bindNearest 5 none ∈ WALL := List.mem_of_getElem? (i := 330) (by decide +kernel)
set_option maxRecDepth 100000 in
theorem w331 : Cond.fieldLink RX6 81 "Tollgate$Journal" "legCount" "I" ∈ WALL := List.mem_of_getElem? (i := 331) (by decide +kernel)
set_option maxRecDepth 100000 in
theorem w332 : Cond.fieldLink RX6 87 "Tollgate$Journal" "amount" "[J" ∈ WALL := List.mem_of_getElem? (i := 332) (by decide +kernel)
set_option maxRecDepth 100000 in
theorem w333 : Cond.fieldLink RX6 91 "Tollgate$Lines" "amount" "[I" ∈ WALL := List.mem_of_getElem? (i := 333) (by decide +kernel)
set_option maxRecDepth 100000 in
theorem w334 : Cond.methodLink RX6 84 yX6_isLegLeft ∈ WALL := List.mem_of_getElem? (i := 334) (by decide +kernel)
set_option maxRecDepth 100000 in
theorem w335 : Cond.instanceMethod yX6_isLegLeft ∈ WALL := List.mem_of_getElem? (i := 335) (by decide +kernel)
set_option maxRecDepth 100000 in
theorem w336 : Cond.selects RX6 yX6_isLegLeft yX6_isLegLeft ∈ WALL := List.mem_of_getElem? (i := 336) (by decide +kernel)
set_option maxRecDepth 100000 in
theorem w337 : Cond.code yX6_isLegLeft cX6_isLegLeft 3 (some .boolean) ∈ WALL := List.mem_of_getElem? (i := 337) (by decide +kernel)
set_option maxRecDepth 100000 in
theorem w338 : Cond.fieldLink RX6 63 "Tollgate$Journal" "account" "[I" ∈ WALL := List.mem_of_getElem? (i := 338) (by decide +kernel)
set_option maxRecDepth 100000 in
theorem w339 : Cond.methodLink RX6 66 yX3_counts ∈ WALL := List.mem_of_getElem? (i := 339) (by decide +kernel)
set_option maxRecDepth 100000 in
theorem w340 : Cond.methodLink RX6 93 yX6_away ∈ WALL := List.mem_of_getElem? (i := 340) (by decide +kernel)
set_option maxRecDepth 100000 in
theorem w341 : Cond.instanceMethod yX6_away ∈ WALL := List.mem_of_getElem? (i := 341) (by decide +kernel)
set_option maxRecDepth 100000 in
theorem w342 : Cond.selects RX6 yX6_away yX6_away ∈ WALL := List.mem_of_getElem? (i := 342) (by decide +kernel)
set_option maxRecDepth 100000 in
theorem w343 : Cond.code yX6_away cX6_away 3 (some .int) ∈ WALL := List.mem_of_getElem? (i := 343) (by decide +kernel)
set_option maxRecDepth 100000 in
theorem w344 : Cond.fieldLink RX6 73 "Tollgate$Lines" "day" "[I" ∈ WALL := List.mem_of_getElem? (i := 344) (by decide +kernel)
set_option maxRecDepth 100000 in
theorem w345 : Cond.methodLink RX6 76 Lib.Math.abs.name ∈ WALL := List.mem_of_getElem? (i := 345) (by decide +kernel)
set_option maxRecDepth 100000 in
theorem w346 : Cond.static Lib.Math.abs.name ∈ WALL := List.mem_of_getElem? (i := 346) (by decide +kernel)
set_option maxRecDepth 100000 in
theorem w347 : Cond.code Lib.Math.abs.name Lib.Math.abs.code 1 (some .int) ∈ WALL := List.mem_of_getElem? (i := 347) (by decide +kernel)
set_option maxRecDepth 100000 in
theorem w348 : Cond.methodLink RX6 70 yX3_dayOf ∈ WALL := List.mem_of_getElem? (i := 348) (by decide +kernel)
set_option maxRecDepth 100000 in
theorem w349 : Cond.methodLink RX6 97 yX6_isNearer ∈ WALL := List.mem_of_getElem? (i := 349) (by decide +kernel)
set_option maxRecDepth 100000 in
theorem w350 : Cond.instanceMethod yX6_isNearer ∈ WALL := List.mem_of_getElem? (i := 350) (by decide +kernel)
set_option maxRecDepth 100000 in
theorem w351 : Cond.selects RX6 yX6_isNearer yX6_isNearer ∈ WALL := List.mem_of_getElem? (i := 351) (by decide +kernel)
set_option maxRecDepth 100000 in
theorem w352 : Cond.code yX6_isNearer cX6_isNearer 6 (some .boolean) ∈ WALL := List.mem_of_getElem? (i := 352) (by decide +kernel)
set_option maxRecDepth 100000 in
theorem w353 : Cond.methodLink RX6 101 yX6_bind ∈ WALL := List.mem_of_getElem? (i := 353) (by decide +kernel)
set_option maxRecDepth 100000 in
theorem w354 : Cond.instanceMethod yX6_bind ∈ WALL := List.mem_of_getElem? (i := 354) (by decide +kernel)
set_option maxRecDepth 100000 in
theorem w355 : Cond.selects RX6 yX6_bind yX6_bind ∈ WALL := List.mem_of_getElem? (i := 355) (by decide +kernel)
set_option maxRecDepth 100000 in
theorem w356 : Cond.code yX6_bind cX6_bind 4 none ∈ WALL := List.mem_of_getElem? (i := 356) (by decide +kernel)
set_option maxRecDepth 100000 in
theorem w357 : Cond.methodLink RX6 53 yX6_bindFirstTwo ∈ WALL := List.mem_of_getElem? (i := 357) (by decide +kernel)
set_option maxRecDepth 100000 in
theorem w358 : Cond.instanceMethod yX6_bindFirstTwo ∈ WALL := List.mem_of_getElem? (i := 358) (by decide +kernel)
set_option maxRecDepth 100000 in
theorem w359 : Cond.selects RX6 yX6_bindFirstTwo yX6_bindFirstTwo ∈ WALL := List.mem_of_getElem? (i := 359) (by decide +kernel)
set_option maxRecDepth 100000 in
theorem w360 : Cond.code yX6_bindFirstTwo cX6_bindFirstTwo 5 none ∈ WALL := List.mem_of_getElem? (i := 360) (by decide +kernel)
set_option maxRecDepth 100000 in
theorem w361 : Cond.methodLink RX6 105 yX6_secondBehind ∈ WALL := List.mem_of_getElem? (i := 361) (by decide +kernel)
set_option maxRecDepth 100000 in
theorem w362 : Cond.instanceMethod yX6_secondBehind ∈ WALL := List.mem_of_getElem? (i := 362) (by decide +kernel)
set_option maxRecDepth 100000 in
theorem w363 : Cond.selects RX6 yX6_secondBehind yX6_secondBehind ∈ WALL := List.mem_of_getElem? (i := 363) (by decide +kernel)
set_option maxRecDepth 100000 in
theorem w364 : Cond.code yX6_secondBehind cX6_secondBehind 4 (some .int) ∈ WALL := List.mem_of_getElem? (i := 364) (by decide +kernel)
set_option maxRecDepth 100000 in
theorem w365 : Cond.methodLink RX6 56 yX5_countOf ∈ WALL := List.mem_of_getElem? (i := 365) (by decide +kernel)
set_option maxRecDepth 100000 in
theorem w366 : Cond.instanceMethod yX5_countOf ∈ WALL := List.mem_of_getElem? (i := 366) (by decide +kernel)
set_option maxRecDepth 100000 in
theorem w367 : Cond.selects RX5 yX5_countOf yX5_countOf ∈ WALL := List.mem_of_getElem? (i := 367) (by decide +kernel)
set_option maxRecDepth 100000 in
theorem w368 : Cond.code yX5_countOf cX5_countOf 4 (some .int) ∈ WALL := List.mem_of_getElem? (i := 368) (by decide +kernel)
set_option maxRecDepth 100000 in
theorem w369 : Cond.methodLink RX6 60 yX6_linesLeft ∈ WALL := List.mem_of_getElem? (i := 369) (by decide +kernel)
set_option maxRecDepth 100000 in
theorem w370 : Cond.instanceMethod yX6_linesLeft ∈ WALL := List.mem_of_getElem? (i := 370) (by decide +kernel)
set_option maxRecDepth 100000 in
theorem w371 : Cond.selects RX6 yX6_linesLeft yX6_linesLeft ∈ WALL := List.mem_of_getElem? (i := 371) (by decide +kernel)
set_option maxRecDepth 100000 in
theorem w372 : Cond.code yX6_linesLeft cX6_linesLeft 4 (some .int) ∈ WALL := List.mem_of_getElem? (i := 372) (by decide +kernel)
set_option maxRecDepth 100000 in
theorem w373 : Cond.methodLink RL 63 yX7_match ∈ WALL := List.mem_of_getElem? (i := 373) (by decide +kernel)
set_option maxRecDepth 100000 in
theorem w374 : Cond.instanceMethod yX7_match ∈ WALL := List.mem_of_getElem? (i := 374) (by decide +kernel)
set_option maxRecDepth 100000 in
theorem w375 : Cond.selects RX7 yX7_match yX7_match ∈ WALL := List.mem_of_getElem? (i := 375) (by decide +kernel)
set_option maxRecDepth 100000 in
theorem w376 : Cond.code yX7_match cX7_match 3 (some .int) ∈ WALL := List.mem_of_getElem? (i := 376) (by decide +kernel)
set_option maxRecDepth 100000 in
theorem w377 : Cond.methodLink RL 66 yX7_left ∈ WALL := List.mem_of_getElem? (i := 377) (by decide +kernel)
set_option maxRecDepth 100000 in
theorem w378 : Cond.instanceMethod yX7_left ∈ WALL := List.mem_of_getElem? (i := 378) (by decide +kernel)
set_option maxRecDepth 100000 in
theorem w379 : Cond.selects RX7 yX7_left yX7_left ∈ WALL := List.mem_of_getElem? (i := 379) (by decide +kernel)
set_option maxRecDepth 100000 in
theorem w380 : Cond.code yX7_left cX7_left 3 (some .long) ∈ WALL := List.mem_of_getElem? (i := 380) (by decide +kernel)
set_option maxRecDepth 100000 in
theorem w381 : Cond.methodLink RX7 311 yX5_countOf ∈ WALL := List.mem_of_getElem? (i := 381) (by decide +kernel)
set_option maxRecDepth 100000 in
theorem w382 : Cond.methodLink RX7 315 yX6_linesLeft ∈ WALL := List.mem_of_getElem? (i := 382) (by decide +kernel)
set_option maxRecDepth 100000 in
theorem w383 : Cond.methodLink RX7 318 yX6_legsLeft ∈ WALL := List.mem_of_getElem? (i := 383) (by decide +kernel)
set_option maxRecDepth 100000 in
theorem w384 : Cond.instanceMethod yX6_legsLeft ∈ WALL := List.mem_of_getElem? (i := 384) (by decide +kernel)
set_option maxRecDepth 100000 in
theorem w385 : Cond.selects RX6 yX6_legsLeft yX6_legsLeft ∈ WALL := List.mem_of_getElem? (i := 385) (by decide +kernel)
set_option maxRecDepth 100000 in
theorem w386 : Cond.code yX6_legsLeft cX6_legsLeft 4 (some .int) ∈ WALL := List.mem_of_getElem? (i := 386) (by decide +kernel)
set_option maxRecDepth 100000 in
theorem w387 : Cond.methodLink RX7 321 yX6_lineSumLeft ∈ WALL := List.mem_of_getElem? (i := 387) (by decide +kernel)
set_option maxRecDepth 100000 in
theorem w388 : Cond.instanceMethod yX6_lineSumLeft ∈ WALL := List.mem_of_getElem? (i := 388) (by decide +kernel)
set_option maxRecDepth 100000 in
theorem w389 : Cond.selects RX6 yX6_lineSumLeft yX6_lineSumLeft ∈ WALL := List.mem_of_getElem? (i := 389) (by decide +kernel)
set_option maxRecDepth 100000 in
theorem w390 : Cond.code yX6_lineSumLeft cX6_lineSumLeft 5 (some .long) ∈ WALL := List.mem_of_getElem? (i := 390) (by decide +kernel)
set_option maxRecDepth 100000 in
theorem w391 : Cond.methodLink RX7 324 yX6_legSumLeft ∈ WALL := List.mem_of_getElem? (i := 391) (by decide +kernel)
set_option maxRecDepth 100000 in
theorem w392 : Cond.instanceMethod yX6_legSumLeft ∈ WALL := List.mem_of_getElem? (i := 392) (by decide +kernel)
set_option maxRecDepth 100000 in
theorem w393 : Cond.selects RX6 yX6_legSumLeft yX6_legSumLeft ∈ WALL := List.mem_of_getElem? (i := 393) (by decide +kernel)
set_option maxRecDepth 100000 in
theorem w394 : Cond.code yX6_legSumLeft cX6_legSumLeft 5 (some .long) ∈ WALL := List.mem_of_getElem? (i := 394) (by decide +kernel)
set_option maxRecDepth 100000 in
theorem w395 : Cond.methodLink RL 70 yX7_draft ∈ WALL := List.mem_of_getElem? (i := 395) (by decide +kernel)
set_option maxRecDepth 100000 in
theorem w396 : Cond.instanceMethod yX7_draft ∈ WALL := List.mem_of_getElem? (i := 396) (by decide +kernel)
set_option maxRecDepth 100000 in
theorem w397 : Cond.selects RX7 yX7_draft yX7_draft ∈ WALL := List.mem_of_getElem? (i := 397) (by decide +kernel)
set_option maxRecDepth 100000 in
theorem w398 : Cond.code yX7_draft cX7_draft 4 (some .int) ∈ WALL := List.mem_of_getElem? (i := 398) (by decide +kernel)
set_option maxRecDepth 100000 in
theorem w399 : Cond.fieldLink RX7 138 "Tollgate$Draft" "legs" "LTollgate$LegRow;" ∈ WALL := List.mem_of_getElem? (i := 399) (by decide +kernel)
set_option maxRecDepth 100000 in
theorem w400 : Cond.methodLink RX7 142 yX1_begin ∈ WALL := List.mem_of_getElem? (i := 400) (by decide +kernel)
set_option maxRecDepth 100000 in
theorem w401 : Cond.instanceMethod yX1_begin ∈ WALL := List.mem_of_getElem? (i := 401) (by decide +kernel)
set_option maxRecDepth 100000 in
theorem w402 : Cond.selects RX1 yX1_begin yX1_begin ∈ WALL := List.mem_of_getElem? (i := 402) (by decide +kernel)
set_option maxRecDepth 100000 in
theorem w403 : Cond.code yX1_begin cX1_begin 3 none ∈ WALL := List.mem_of_getElem? (i := 403) (by decide +kernel)
set_option maxRecDepth 100000 in
theorem w404 : Cond.fieldLink RX1 27 "Tollgate$LegRow" "count" "I" ∈ WALL := List.mem_of_getElem? (i := 404) (by decide +kernel)
set_option maxRecDepth 100000 in
theorem w405 : Cond.methodLink RL 73 yX7_leg ∈ WALL := List.mem_of_getElem? (i := 405) (by decide +kernel)
set_option maxRecDepth 100000 in
theorem w406 : Cond.instanceMethod yX7_leg ∈ WALL := List.mem_of_getElem? (i := 406) (by decide +kernel)
set_option maxRecDepth 100000 in
theorem w407 : Cond.selects RX7 yX7_leg yX7_leg ∈ WALL := List.mem_of_getElem? (i := 407) (by decide +kernel)
set_option maxRecDepth 100000 in
theorem w408 : Cond.code yX7_leg cX7_leg 3 (some .long) ∈ WALL := List.mem_of_getElem? (i := 408) (by decide +kernel)
set_option maxRecDepth 100000 in
theorem w409 : Cond.fieldLink RX7 149 "Tollgate$Draft" "isThere" "Z" ∈ WALL := List.mem_of_getElem? (i := 409) (by decide +kernel)
set_option maxRecDepth 100000 in
theorem w410 : Cond.methodLink RL 76 yX7_reason ∈ WALL := List.mem_of_getElem? (i := 410) (by decide +kernel)
set_option maxRecDepth 100000 in
theorem w411 : Cond.instanceMethod yX7_reason ∈ WALL := List.mem_of_getElem? (i := 411) (by decide +kernel)
set_option maxRecDepth 100000 in
theorem w412 : Cond.selects RX7 yX7_reason yX7_reason ∈ WALL := List.mem_of_getElem? (i := 412) (by decide +kernel)
set_option maxRecDepth 100000 in
theorem w413 : Cond.code yX7_reason cX7_reason 1 (some .int) ∈ WALL := List.mem_of_getElem? (i := 413) (by decide +kernel)
set_option maxRecDepth 100000 in
theorem w414 : Cond.methodLink RX7 166 yX7_whyNotPosted ∈ WALL := List.mem_of_getElem? (i := 414) (by decide +kernel)
set_option maxRecDepth 100000 in
theorem w415 : Cond.instanceMethod yX7_whyNotPosted ∈ WALL := List.mem_of_getElem? (i := 415) (by decide +kernel)
set_option maxRecDepth 100000 in
theorem w416 : Cond.selects RX7 yX7_whyNotPosted yX7_whyNotPosted ∈ WALL := List.mem_of_getElem? (i := 416) (by decide +kernel)
set_option maxRecDepth 100000 in
theorem w417 : Cond.code yX7_whyNotPosted cX7_whyNotPosted 1 (some .int) ∈ WALL := List.mem_of_getElem? (i := 417) (by decide +kernel)
set_option maxRecDepth 100000 in
theorem w418 : Cond.fieldLink RX7 175 "Tollgate$Draft" "day" "I" ∈ WALL := List.mem_of_getElem? (i := 418) (by decide +kernel)
set_option maxRecDepth 100000 in
theorem w419 : Cond.methodLink RX7 427 yX7_canBeExchanged ∈ WALL := List.mem_of_getElem? (i := 419) (by decide +kernel)
set_option maxRecDepth 100000 in
theorem w420 : Cond.instanceMethod yX7_canBeExchanged ∈ WALL := List.mem_of_getElem? (i := 420) (by decide +kernel)
set_option maxRecDepth 100000 in
theorem w421 : Cond.selects RX7 yX7_canBeExchanged yX7_canBeExchanged ∈ WALL := List.mem_of_getElem? (i := 421) (by decide +kernel)
set_option maxRecDepth 100000 in
theorem w422 : Cond.code yX7_canBeExchanged cX7_canBeExchanged 1 (some .boolean) ∈ WALL := List.mem_of_getElem? (i := 422) (by decide +kernel)
set_option maxRecDepth 100000 in
theorem w423 : Cond.methodLink RX7 433 Lib.MathLoose.abs_long.x ∈ WALL := List.mem_of_getElem? (i := 423) (by decide +kernel)
set_option maxRecDepth 100000 in
theorem w424 : Cond.methodLink RX7 430 yX7_draftHasTwoCurrencies ∈ WALL := List.mem_of_getElem? (i := 424) (by decide +kernel)
set_option maxRecDepth 100000 in
theorem w425 : Cond.instanceMethod yX7_draftHasTwoCurrencies ∈ WALL := List.mem_of_getElem? (i := 425) (by decide +kernel)
set_option maxRecDepth 100000 in
theorem w426 : Cond.selects RX7 yX7_draftHasTwoCurrencies yX7_draftHasTwoCurrencies ∈ WALL := List.mem_of_getElem? (i := 426) (by decide +kernel)
set_option maxRecDepth 100000 in
theorem w427 : Cond.code yX7_draftHasTwoCurrencies cX7_draftHasTwoCurrencies 2 (some .boolean) ∈ WALL := List.mem_of_getElem? (i := 427) (by decide +kernel)
set_option maxRecDepth 100000 in
theorem w428 : Cond.fieldLink RX7 439 "Tollgate$LegRow" "account" "[I" ∈ WALL := List.mem_of_getElem? (i := 428) (by decide +kernel)
set_option maxRecDepth 100000 in
theorem w429 : Cond.methodLink RX7 172 yX7_planDraft ∈ WALL := List.mem_of_getElem? (i := 429) (by decide +kernel)
set_option maxRecDepth 100000 in
theorem w430 : Cond.instanceMethod yX7_planDraft ∈ WALL := List.mem_of_getElem? (i := 430) (by decide +kernel)
set_option maxRecDepth 100000 in
theorem w431 : Cond.selects RX7 yX7_planDraft yX7_planDraft ∈ WALL := List.mem_of_getElem? (i := 431) (by decide +kernel)
set_option maxRecDepth 100000 in
theorem w432 : Cond.code yX7_planDraft cX7_planDraft 3 none ∈ WALL := List.mem_of_getElem? (i := 432) (by decide +kernel)
set_option maxRecDepth 100000 in
theorem w433 : Cond.fieldLink RX7 440 "Tollgate$LegRow" "amount" "[J" ∈ WALL := List.mem_of_getElem? (i := 433) (by decide +kernel)
set_option maxRecDepth 100000 in
theorem w434 : Cond.fieldLink RX7 441 "Tollgate$LegRow" "worth" "[J" ∈ WALL := List.mem_of_getElem? (i := 434) (by decide +kernel)
set_option maxRecDepth 100000 in
theorem w435 : Cond.methodLink RX7 419 yX7_planKeepsFloors ∈ WALL := List.mem_of_getElem? (i := 435) (by decide +kernel)
set_option maxRecDepth 100000 in
theorem w436 : Cond.instanceMethod yX7_planKeepsFloors ∈ WALL := List.mem_of_getElem? (i := 436) (by decide +kernel)
set_option maxRecDepth 100000 in
theorem w437 : Cond.selects RX7 yX7_planKeepsFloors yX7_planKeepsFloors ∈ WALL := List.mem_of_getElem? (i := 437) (by decide +kernel)
set_option maxRecDepth 100000 in
theorem w438 : Cond.code yX7_planKeepsFloors cX7_planKeepsFloors 8 (some .boolean) ∈ WALL := List.mem_of_getElem? (i := 438) (by decide +kernel)
set_option maxRecDepth 100000 in
theorem w439 : Cond.fieldLink RX7 122 "Tollgate$Accounts" "hasFloor" "[Z" ∈ WALL := List.mem_of_getElem? (i := 439) (by decide +kernel)
set_option maxRecDepth 100000 in
theorem w440 : Cond.fieldLink RX7 119 "Tollgate$Accounts" "floors" "[I" ∈ WALL := List.mem_of_getElem? (i := 440) (by decide +kernel)
set_option maxRecDepth 100000 in
theorem w441 : Cond.methodLink RX7 442 yX4_amountOn ∈ WALL := List.mem_of_getElem? (i := 441) (by decide +kernel)
set_option maxRecDepth 100000 in
theorem w442 : Cond.instanceMethod yX4_amountOn ∈ WALL := List.mem_of_getElem? (i := 442) (by decide +kernel)
set_option maxRecDepth 100000 in
theorem w443 : Cond.selects RX4 yX4_amountOn yX4_amountOn ∈ WALL := List.mem_of_getElem? (i := 443) (by decide +kernel)
set_option maxRecDepth 100000 in
theorem w444 : Cond.code yX4_amountOn cX4_amountOn 5 (some .long) ∈ WALL := List.mem_of_getElem? (i := 444) (by decide +kernel)
set_option maxRecDepth 100000 in
theorem w445 : Cond.methodLink RX7 424 yX0_stand ∈ WALL := List.mem_of_getElem? (i := 445) (by decide +kernel)
set_option maxRecDepth 100000 in
theorem w446 : Cond.instanceMethod yX0_stand ∈ WALL := List.mem_of_getElem? (i := 446) (by decide +kernel)
set_option maxRecDepth 100000 in
theorem w447 : Cond.selects RX0 yX0_stand yX0_stand ∈ WALL := List.mem_of_getElem? (i := 447) (by decide +kernel)
set_option maxRecDepth 100000 in
theorem w448 : Cond.code yX0_stand cX0_stand 4 (some .long) ∈ WALL := List.mem_of_getElem? (i := 448) (by decide +kernel)
set_option maxRecDepth 100000 in
theorem w449 : Cond.methodLink RX7 113 yX2_heldOn ∈ WALL := List.mem_of_getElem? (i := 449) (by decide +kernel)
set_option maxRecDepth 100000 in
theorem w450 : Cond.instanceMethod yX2_heldOn ∈ WALL := List.mem_of_getElem? (i := 450) (by decide +kernel)
set_option maxRecDepth 100000 in
theorem w451 : Cond.selects RX2 yX2_heldOn yX2_heldOn ∈ WALL := List.mem_of_getElem? (i := 451) (by decide +kernel)
set_option maxRecDepth 100000 in
theorem w452 : Cond.code yX2_heldOn cX2_heldOn 7 (some .long) ∈ WALL := List.mem_of_getElem? (i := 452) (by decide +kernel)
set_option maxRecDepth 100000 in
theorem w453 : Cond.methodLink RL 79 yX7_post ∈ WALL := List.mem_of_getElem? (i := 453) (by decide +kernel)
set_option maxRecDepth 100000 in
theorem w454 : Cond.instanceMethod yX7_post ∈ WALL := List.mem_of_getElem? (i := 454) (by decide +kernel)
set_option maxRecDepth 100000 in
theorem w455 : Cond.selects RX7 yX7_post yX7_post ∈ WALL := List.mem_of_getElem? (i := 455) (by decide +kernel)
set_option maxRecDepth 100000 in
theorem w456 : Cond.code yX7_post cX7_post 2 (some .int) ∈ WALL := List.mem_of_getElem? (i := 456) (by decide +kernel)
set_option maxRecDepth 100000 in
theorem w457 : Cond.fieldLink RX7 178 "Tollgate$Draft" "note" "I" ∈ WALL := List.mem_of_getElem? (i := 457) (by decide +kernel)
set_option maxRecDepth 100000 in
theorem w458 : Cond.methodLink RX7 185 yX1_forget ∈ WALL := List.mem_of_getElem? (i := 458) (by decide +kernel)
set_option maxRecDepth 100000 in
theorem w459 : Cond.instanceMethod yX1_forget ∈ WALL := List.mem_of_getElem? (i := 459) (by decide +kernel)
set_option maxRecDepth 100000 in
theorem w460 : Cond.selects RX1 yX1_forget yX1_forget ∈ WALL := List.mem_of_getElem? (i := 460) (by decide +kernel)
set_option maxRecDepth 100000 in
theorem w461 : Cond.code yX1_forget cX1_forget 1 none ∈ WALL := List.mem_of_getElem? (i := 461) (by decide +kernel)
set_option maxRecDepth 100000 in
theorem w462 : Cond.methodLink RL 82 yX7_ofKind ∈ WALL := List.mem_of_getElem? (i := 462) (by decide +kernel)
set_option maxRecDepth 100000 in
theorem w463 : Cond.instanceMethod yX7_ofKind ∈ WALL := List.mem_of_getElem? (i := 463) (by decide +kernel)
set_option maxRecDepth 100000 in
theorem w464 : Cond.selects RX7 yX7_ofKind yX7_ofKind ∈ WALL := List.mem_of_getElem? (i := 464) (by decide +kernel)
set_option maxRecDepth 100000 in
theorem w465 : Cond.code yX7_ofKind cX7_ofKind 5 (some .long) ∈ WALL := List.mem_of_getElem? (i := 465) (by decide +kernel)
set_option maxRecDepth 100000 in
theorem w466 : Cond.methodLink RX7 348 yX3_worthOn ∈ WALL := List.mem_of_getElem? (i := 466) (by decide +kernel)
set_option maxRecDepth 100000 in
theorem w467 : Cond.instanceMethod yX3_worthOn ∈ WALL := List.mem_of_getElem? (i := 467) (by decide +kernel)
set_option maxRecDepth 100000 in
theorem w468 : Cond.selects RX3 yX3_worthOn yX3_worthOn ∈ WALL := List.mem_of_getElem? (i := 468) (by decide +kernel)
set_option maxRecDepth 100000 in
theorem w469 : Cond.code yX3_worthOn cX3_worthOn 5 (some .long) ∈ WALL := List.mem_of_getElem? (i := 469) (by decide +kernel)
set_option maxRecDepth 100000 in
theorem w470 : Cond.methodLink RL 85 yX7_digest ∈ WALL := List.mem_of_getElem? (i := 470) (by decide +kernel)
set_option maxRecDepth 100000 in
theorem w471 : Cond.instanceMethod yX7_digest ∈ WALL := List.mem_of_getElem? (i := 471) (by decide +kernel)
set_option maxRecDepth 100000 in
theorem w472 : Cond.selects RX7 yX7_digest yX7_digest ∈ WALL := List.mem_of_getElem? (i := 472) (by decide +kernel)
set_option maxRecDepth 100000 in
theorem w473 : Cond.code yX7_digest cX7_digest 4 (some .long) ∈ WALL := List.mem_of_getElem? (i := 473) (by decide +kernel)
set_option maxRecDepth 100000 in
theorem w474 : Cond.constantLong RX7 364 (58089) ∈ WALL := List.mem_of_getElem? (i := 474) (by decide +kernel)
set_option maxRecDepth 100000 in
theorem w475 : Cond.fieldLink RX7 377 "Tollgate$Journal" "count" "I" ∈ WALL := List.mem_of_getElem? (i := 475) (by decide +kernel)
set_option maxRecDepth 100000 in
theorem w476 : Cond.methodLink RX7 366 yX7_many ∈ WALL := List.mem_of_getElem? (i := 476) (by decide +kernel)
set_option maxRecDepth 100000 in
theorem w477 : Cond.methodLink RX7 369 yX7_mix ∈ WALL := List.mem_of_getElem? (i := 477) (by decide +kernel)
set_option maxRecDepth 100000 in
theorem w478 : Cond.static yX7_mix ∈ WALL := List.mem_of_getElem? (i := 478) (by decide +kernel)
set_option maxRecDepth 100000 in
theorem w479 : Cond.code yX7_mix cX7_mix 4 (some .long) ∈ WALL := List.mem_of_getElem? (i := 479) (by decide +kernel)
set_option maxRecDepth 100000 in
theorem w480 : Cond.constantLong RX7 390 (31) ∈ WALL := List.mem_of_getElem? (i := 480) (by decide +kernel)
set_option maxRecDepth 100000 in
theorem w481 : Cond.methodLink RX7 373 yX7_mixAccount ∈ WALL := List.mem_of_getElem? (i := 481) (by decide +kernel)
set_option maxRecDepth 100000 in
theorem w482 : Cond.instanceMethod yX7_mixAccount ∈ WALL := List.mem_of_getElem? (i := 482) (by decide +kernel)
set_option maxRecDepth 100000 in
theorem w483 : Cond.selects RX7 yX7_mixAccount yX7_mixAccount ∈ WALL := List.mem_of_getElem? (i := 483) (by decide +kernel)
set_option maxRecDepth 100000 in
theorem w484 : Cond.code yX7_mixAccount cX7_mixAccount 7 (some .long) ∈ WALL := List.mem_of_getElem? (i := 484) (by decide +kernel)
set_option maxRecDepth 100000 in
theorem w485 : Cond.methodLink RX7 392 yX7_told ∈ WALL := List.mem_of_getElem? (i := 485) (by decide +kernel)
set_option maxRecDepth 100000 in
theorem w486 : Cond.instanceMethod yX7_told ∈ WALL := List.mem_of_getElem? (i := 486) (by decide +kernel)
set_option maxRecDepth 100000 in
theorem w487 : Cond.selects RX7 yX7_told yX7_told ∈ WALL := List.mem_of_getElem? (i := 487) (by decide +kernel)
set_option maxRecDepth 100000 in
theorem w488 : Cond.code yX7_told cX7_told 3 (some .long) ∈ WALL := List.mem_of_getElem? (i := 488) (by decide +kernel)
set_option maxRecDepth 100000 in
theorem w489 : Cond.methodLink RX7 109 yX7_standOf ∈ WALL := List.mem_of_getElem? (i := 489) (by decide +kernel)
set_option maxRecDepth 100000 in
theorem w490 : Cond.instanceMethod yX7_standOf ∈ WALL := List.mem_of_getElem? (i := 490) (by decide +kernel)
set_option maxRecDepth 100000 in
theorem w491 : Cond.selects RX7 yX7_standOf yX7_standOf ∈ WALL := List.mem_of_getElem? (i := 491) (by decide +kernel)
set_option maxRecDepth 100000 in
theorem w492 : Cond.code yX7_standOf cX7_standOf 2 (some .long) ∈ WALL := List.mem_of_getElem? (i := 492) (by decide +kernel)
set_option maxRecDepth 100000 in
theorem w493 : Cond.methodLink RX7 248 yX7_hadIf ∈ WALL := List.mem_of_getElem? (i := 493) (by decide +kernel)
set_option maxRecDepth 100000 in
theorem w494 : Cond.instanceMethod yX7_hadIf ∈ WALL := List.mem_of_getElem? (i := 494) (by decide +kernel)
set_option maxRecDepth 100000 in
theorem w495 : Cond.selects RX7 yX7_hadIf yX7_hadIf ∈ WALL := List.mem_of_getElem? (i := 495) (by decide +kernel)
set_option maxRecDepth 100000 in
theorem w496 : Cond.code yX7_hadIf cX7_hadIf 5 (some .long) ∈ WALL := List.mem_of_getElem? (i := 496) (by decide +kernel)
set_option maxRecDepth 100000 in
theorem w497 : Cond.methodLink RX7 395 yX7_left ∈ WALL := List.mem_of_getElem? (i := 497) (by decide +kernel)
set_option maxRecDepth 100000 in
theorem w498 : Cond.methodLink RX7 378 yX7_mixEntry ∈ WALL := List.mem_of_getElem? (i := 498) (by decide +kernel)
set_option maxRecDepth 100000 in
theorem w499 : Cond.instanceMethod yX7_mixEntry ∈ WALL := List.mem_of_getElem? (i := 499) (by decide +kernel)
set_option maxRecDepth 100000 in
theorem w500 : Cond.selects RX7 yX7_mixEntry yX7_mixEntry ∈ WALL := List.mem_of_getElem? (i := 500) (by decide +kernel)
set_option maxRecDepth 100000 in
theorem w501 : Cond.code yX7_mixEntry cX7_mixEntry 8 (some .long) ∈ WALL := List.mem_of_getElem? (i := 501) (by decide +kernel)
set_option maxRecDepth 100000 in
theorem w502 : Cond.methodLink RX7 398 yX7_ofEntry ∈ WALL := List.mem_of_getElem? (i := 502) (by decide +kernel)
set_option maxRecDepth 100000 in
theorem w503 : Cond.methodLink RX7 401 yX7_ofLeg ∈ WALL := List.mem_of_getElem? (i := 503) (by decide +kernel)
set_option maxRecDepth 100000 in
theorem w504 : Cond.methodLink RX7 381 yX7_matched ∈ WALL := List.mem_of_getElem? (i := 504) (by decide +kernel)
set_option maxRecDepth 100000 in
theorem w505 : Cond.instanceMethod yX7_matched ∈ WALL := List.mem_of_getElem? (i := 505) (by decide +kernel)
set_option maxRecDepth 100000 in
theorem w506 : Cond.selects RX7 yX7_matched yX7_matched ∈ WALL := List.mem_of_getElem? (i := 506) (by decide +kernel)
set_option maxRecDepth 100000 in
theorem w507 : Cond.code yX7_matched cX7_matched 3 (some .int) ∈ WALL := List.mem_of_getElem? (i := 507) (by decide +kernel)
set_option maxRecDepth 100000 in
theorem w508 : Cond.fieldLink RX7 331 "Tollgate$Matching" "firstOfLine" "[I" ∈ WALL := List.mem_of_getElem? (i := 508) (by decide +kernel)
set_option maxRecDepth 100000 in
theorem w509 : Cond.fieldLink RX7 334 "Tollgate$Journal" "entryOf" "[I" ∈ WALL := List.mem_of_getElem? (i := 509) (by decide +kernel)
set_option maxRecDepth 100000 in
theorem w510 : Cond.methodLink RX7 384 yX7_ofKind ∈ WALL := List.mem_of_getElem? (i := 510) (by decide +kernel)
set_option maxRecDepth 100000 in
theorem w511 : Cond.methodLink RX7 387 yX7_wouldClose ∈ WALL := List.mem_of_getElem? (i := 511) (by decide +kernel)
set_option maxRecDepth 100000 in
theorem w512 : Cond.methodLink RL 89 yX7_at ∈ WALL := List.mem_of_getElem? (i := 512) (by decide +kernel)
set_option maxRecDepth 100000 in
theorem w513 : Cond.instanceMethod yX7_at ∈ WALL := List.mem_of_getElem? (i := 513) (by decide +kernel)
set_option maxRecDepth 100000 in
theorem w514 : Cond.selects RX7 yX7_at yX7_at ∈ WALL := List.mem_of_getElem? (i := 514) (by decide +kernel)
set_option maxRecDepth 100000 in
theorem w515 : Cond.code yX7_at cX7_at 3 (some .long) ∈ WALL := List.mem_of_getElem? (i := 515) (by decide +kernel)
set_option maxRecDepth 100000 in
theorem w516 : Cond.methodLink RL 92 yX7_told ∈ WALL := List.mem_of_getElem? (i := 516) (by decide +kernel)
set_option maxRecDepth 100000 in
theorem w517 : Cond.methodLink RL 101 yX7_hadOn ∈ WALL := List.mem_of_getElem? (i := 517) (by decide +kernel)
set_option maxRecDepth 100000 in
theorem w518 : Cond.instanceMethod yX7_hadOn ∈ WALL := List.mem_of_getElem? (i := 518) (by decide +kernel)
set_option maxRecDepth 100000 in
theorem w519 : Cond.selects RX7 yX7_hadOn yX7_hadOn ∈ WALL := List.mem_of_getElem? (i := 519) (by decide +kernel)
set_option maxRecDepth 100000 in
theorem w520 : Cond.code yX7_hadOn cX7_hadOn 3 (some .long) ∈ WALL := List.mem_of_getElem? (i := 520) (by decide +kernel)
set_option maxRecDepth 100000 in
theorem w521 : Cond.methodLink RL 104 yX7_matched ∈ WALL := List.mem_of_getElem? (i := 521) (by decide +kernel)
set_option maxRecDepth 100000 in
theorem w522 : Cond.methodLink RL 107 yX7_earned ∈ WALL := List.mem_of_getElem? (i := 522) (by decide +kernel)
set_option maxRecDepth 100000 in
theorem w523 : Cond.instanceMethod yX7_earned ∈ WALL := List.mem_of_getElem? (i := 523) (by decide +kernel)
set_option maxRecDepth 100000 in
theorem w524 : Cond.selects RX7 yX7_earned yX7_earned ∈ WALL := List.mem_of_getElem? (i := 524) (by decide +kernel)
set_option maxRecDepth 100000 in
theorem w525 : Cond.code yX7_earned cX7_earned 6 (some .long) ∈ WALL := List.mem_of_getElem? (i := 525) (by decide +kernel)
set_option maxRecDepth 100000 in
theorem w526 : Cond.methodLink RX7 356 yX3_worthBetween ∈ WALL := List.mem_of_getElem? (i := 526) (by decide +kernel)
set_option maxRecDepth 100000 in
theorem w527 : Cond.instanceMethod yX3_worthBetween ∈ WALL := List.mem_of_getElem? (i := 527) (by decide +kernel)
set_option maxRecDepth 100000 in
theorem w528 : Cond.selects RX3 yX3_worthBetween yX3_worthBetween ∈ WALL := List.mem_of_getElem? (i := 528) (by decide +kernel)
set_option maxRecDepth 100000 in
theorem w529 : Cond.code yX3_worthBetween cX3_worthBetween 7 (some .long) ∈ WALL := List.mem_of_getElem? (i := 529) (by decide +kernel)
end
section
section Rows
variable {p : Program} {l : Launch} {e : Env} {R : Room} {s : State} {m : MethodId} {args : Array Value} {below : List Frame} {meth : Method} {c : Code} {H : Heap} {locs : List Loc} {cs ss : Nat} {Q : State → Prop} {cc : ByteArray} {nL pc : Nat} {ls : Array Slot} {rest : List Value} {own : String} {idx : Nat} {D : va_G} {κ : ClassId × ClassId × ClassId} {a : Nat → Nat} {u : TS} {A : Nat → Prop}
theorem gf_T_accounts (hC : CallFix p m c cc nL s args WALL own) (hG : GW D κ a u A s H locs) (hl : (Cond.fieldLink own idx "Tollgate" "accounts" "LTollgate$Accounts;").before args s = true) (hd : decode cc pc = .ok (.getfield idx, 3)) (kk : W p l e R s m args below meth c H locs cs ss Q (F0 m (pc + 3) ls ((.ref (a 1)) :: rest))) : W p l e R s m args below meth c H locs cs ss Q (F0 m pc ls (.ref (a 0) :: rest)) :=
  va_get (D := D) (ci := 7) (C := RX7) (T := TX7) (N := 10) hC.1 hC.2.1 hC.2.2.2.2 iw7 hC.2.2.2.1 hG.1 hG.2.1 0 rfl rfl 0 (by decide) hl (fun _ h => h) rfl hd kk
theorem gf_T_draft (hC : CallFix p m c cc nL s args WALL own) (hG : GW D κ a u A s H locs) (hl : (Cond.fieldLink own idx "Tollgate" "draft" "LTollgate$Draft;").before args s = true) (hd : decode cc pc = .ok (.getfield idx, 3)) (kk : W p l e R s m args below meth c H locs cs ss Q (F0 m (pc + 3) ls ((.ref (a 2)) :: rest))) : W p l e R s m args below meth c H locs cs ss Q (F0 m pc ls (.ref (a 0) :: rest)) :=
  va_get (D := D) (ci := 7) (C := RX7) (T := TX7) (N := 10) hC.1 hC.2.1 hC.2.2.2.2 iw7 hC.2.2.2.1 hG.1 hG.2.1 0 rfl rfl 1 (by decide) hl (fun _ h => h) rfl hd kk
theorem gf_T_journal (hC : CallFix p m c cc nL s args WALL own) (hG : GW D κ a u A s H locs) (hl : (Cond.fieldLink own idx "Tollgate" "journal" "LTollgate$Journal;").before args s = true) (hd : decode cc pc = .ok (.getfield idx, 3)) (kk : W p l e R s m args below meth c H locs cs ss Q (F0 m (pc + 3) ls ((.ref (a 5)) :: rest))) : W p l e R s m args below meth c H locs cs ss Q (F0 m pc ls (.ref (a 0) :: rest)) :=
  va_get (D := D) (ci := 7) (C := RX7) (T := TX7) (N := 10) hC.1 hC.2.1 hC.2.2.2.2 iw7 hC.2.2.2.1 hG.1 hG.2.1 0 rfl rfl 2 (by decide) hl (fun _ h => h) rfl hd kk
theorem gf_T_holds (hC : CallFix p m c cc nL s args WALL own) (hG : GW D κ a u A s H locs) (hl : (Cond.fieldLink own idx "Tollgate" "holds" "LTollgate$Holds;").before args s = true) (hd : decode cc pc = .ok (.getfield idx, 3)) (kk : W p l e R s m args below meth c H locs cs ss Q (F0 m (pc + 3) ls ((.ref (a 6)) :: rest))) : W p l e R s m args below meth c H locs cs ss Q (F0 m pc ls (.ref (a 0) :: rest)) :=
  va_get (D := D) (ci := 7) (C := RX7) (T := TX7) (N := 10) hC.1 hC.2.1 hC.2.2.2.2 iw7 hC.2.2.2.1 hG.1 hG.2.1 0 rfl rfl 3 (by decide) hl (fun _ h => h) rfl hd kk
theorem gf_T_lines (hC : CallFix p m c cc nL s args WALL own) (hG : GW D κ a u A s H locs) (hl : (Cond.fieldLink own idx "Tollgate" "lines" "LTollgate$Lines;").before args s = true) (hd : decode cc pc = .ok (.getfield idx, 3)) (kk : W p l e R s m args below meth c H locs cs ss Q (F0 m (pc + 3) ls ((.ref (a 7)) :: rest))) : W p l e R s m args below meth c H locs cs ss Q (F0 m pc ls (.ref (a 0) :: rest)) :=
  va_get (D := D) (ci := 7) (C := RX7) (T := TX7) (N := 10) hC.1 hC.2.1 hC.2.2.2.2 iw7 hC.2.2.2.1 hG.1 hG.2.1 0 rfl rfl 4 (by decide) hl (fun _ h => h) rfl hd kk
theorem gf_T_kept (hC : CallFix p m c cc nL s args WALL own) (hG : GW D κ a u A s H locs) (hl : (Cond.fieldLink own idx "Tollgate" "kept" "LTollgate$Matching;").before args s = true) (hd : decode cc pc = .ok (.getfield idx, 3)) (kk : W p l e R s m args below meth c H locs cs ss Q (F0 m (pc + 3) ls ((.ref (a 8)) :: rest))) : W p l e R s m args below meth c H locs cs ss Q (F0 m pc ls (.ref (a 0) :: rest)) :=
  va_get (D := D) (ci := 7) (C := RX7) (T := TX7) (N := 10) hC.1 hC.2.1 hC.2.2.2.2 iw7 hC.2.2.2.1 hG.1 hG.2.1 0 rfl rfl 5 (by decide) hl (fun _ h => h) rfl hd kk
theorem gf_T_trial (hC : CallFix p m c cc nL s args WALL own) (hG : GW D κ a u A s H locs) (hl : (Cond.fieldLink own idx "Tollgate" "trial" "LTollgate$Matching;").before args s = true) (hd : decode cc pc = .ok (.getfield idx, 3)) (kk : W p l e R s m args below meth c H locs cs ss Q (F0 m (pc + 3) ls ((.ref (a 9)) :: rest))) : W p l e R s m args below meth c H locs cs ss Q (F0 m pc ls (.ref (a 0) :: rest)) :=
  va_get (D := D) (ci := 7) (C := RX7) (T := TX7) (N := 10) hC.1 hC.2.1 hC.2.2.2.2 iw7 hC.2.2.2.1 hG.1 hG.2.1 0 rfl rfl 6 (by decide) hl (fun _ h => h) rfl hd kk
theorem gf_T_plan (hC : CallFix p m c cc nL s args WALL own) (hG : GW D κ a u A s H locs) (hl : (Cond.fieldLink own idx "Tollgate" "plan" "LTollgate$LegRow;").before args s = true) (hd : decode cc pc = .ok (.getfield idx, 3)) (kk : W p l e R s m args below meth c H locs cs ss Q (F0 m (pc + 3) ls ((.ref (a 4)) :: rest))) : W p l e R s m args below meth c H locs cs ss Q (F0 m pc ls (.ref (a 0) :: rest)) :=
  va_get (D := D) (ci := 7) (C := RX7) (T := TX7) (N := 10) hC.1 hC.2.1 hC.2.2.2.2 iw7 hC.2.2.2.1 hG.1 hG.2.1 0 rfl rfl 7 (by decide) hl (fun _ h => h) rfl hd kk
theorem gf_T_exchangeAccount (hC : CallFix p m c cc nL s args WALL own) (hG : GW D κ a u A s H locs) (hl : (Cond.fieldLink own idx "Tollgate" "exchangeAccount" "I").before args s = true) (hd : decode cc pc = .ok (.getfield idx, 3)) (kk : W p l e R s m args below meth c H locs cs ss Q (F0 m (pc + 3) ls ((.int (oI (T_exchangeAccount u))) :: rest))) : W p l e R s m args below meth c H locs cs ss Q (F0 m pc ls (.ref (a 0) :: rest)) :=
  va_get (D := D) (ci := 7) (C := RX7) (T := TX7) (N := 10) hC.1 hC.2.1 hC.2.2.2.2 iw7 hC.2.2.2.1 hG.1 hG.2.1 0 rfl rfl 8 (by decide) hl (fun _ h => h) rfl hd kk
theorem pf_T_exchangeAccount (hC : CallFix p m c cc nL s args WALL own) (hG : GW D κ a u A s H locs) {v : Option Nat} (hl : (Cond.fieldLink own idx "Tollgate" "exchangeAccount" "I").before args s = true) (hd : decode cc pc = .ok (.putfield idx, 3)) (kk : ∀ (H1 : Heap) (locs1 : List Loc), GW D κ a (sO u 0 v) A s H1 locs1 → W p l e R s m args below meth c H1 locs1 cs ss Q (F0 m (pc + 3) ls rest)) : W p l e R s m args below meth c H locs cs ss Q (F0 m pc ls (.int (oI v) :: .ref (a 0) :: rest)) :=
  va_put (D := D) (ci := 7) (v := .int (oI v)) (ty := .int) (C := RX7) (T := TX7) (N := 10) hC.1 hC.2.1 hC.2.2.2.2 iw7 tyX7 tyX7_ok nmX7 hC.2.2.2.1 hG.1 hG.2.1 hG.2.2.1 hG.2.2.2.1 0 rfl rfl 8 (by decide) hl (fun _ h => h) rfl (by decide +kernel) rfl rfl (Nat.le_of_ble_eq_true rfl) hd (fun H1 locs1 h1 h2 h3 => kk H1 locs1 ⟨hG.1, h1, h2, h3, hG.2.2.2.2⟩)
theorem gf_T_today (hC : CallFix p m c cc nL s args WALL own) (hG : GW D κ a u A s H locs) (hl : (Cond.fieldLink own idx "Tollgate" "today" "I").before args s = true) (hd : decode cc pc = .ok (.getfield idx, 3)) (kk : W p l e R s m args below meth c H locs cs ss Q (F0 m (pc + 3) ls ((.int (nI (T_today u))) :: rest))) : W p l e R s m args below meth c H locs cs ss Q (F0 m pc ls (.ref (a 0) :: rest)) :=
  va_get (D := D) (ci := 7) (C := RX7) (T := TX7) (N := 10) hC.1 hC.2.1 hC.2.2.2.2 iw7 hC.2.2.2.1 hG.1 hG.2.1 0 rfl rfl 9 (by decide) hl (fun _ h => h) rfl hd kk
theorem pf_T_today (hC : CallFix p m c cc nL s args WALL own) (hG : GW D κ a u A s H locs) {v : Nat} (hl : (Cond.fieldLink own idx "Tollgate" "today" "I").before args s = true) (hd : decode cc pc = .ok (.putfield idx, 3)) (kk : ∀ (H1 : Heap) (locs1 : List Loc), GW D κ a (sN u 0 v) A s H1 locs1 → W p l e R s m args below meth c H1 locs1 cs ss Q (F0 m (pc + 3) ls rest)) : W p l e R s m args below meth c H locs cs ss Q (F0 m pc ls (.int (nI v) :: .ref (a 0) :: rest)) :=
  va_put (D := D) (ci := 7) (v := .int (nI v)) (ty := .int) (C := RX7) (T := TX7) (N := 10) hC.1 hC.2.1 hC.2.2.2.2 iw7 tyX7 tyX7_ok nmX7 hC.2.2.2.1 hG.1 hG.2.1 hG.2.2.1 hG.2.2.2.1 0 rfl rfl 9 (by decide) hl (fun _ h => h) rfl (by decide +kernel) rfl rfl (Nat.le_of_ble_eq_true rfl) hd (fun H1 locs1 h1 h2 h3 => kk H1 locs1 ⟨hG.1, h1, h2, h3, hG.2.2.2.2⟩)
theorem gf_AC_rates (hC : CallFix p m c cc nL s args WALL own) (hG : GW D κ a u A s H locs) (hl : (Cond.fieldLink own idx "Tollgate$Accounts" "rates" "[I").before args s = true) (hd : decode cc pc = .ok (.getfield idx, 3)) (kk : W p l e R s m args below meth c H locs cs ss Q (F0 m (pc + 3) ls ((.ref (a 10)) :: rest))) : W p l e R s m args below meth c H locs cs ss Q (F0 m pc ls (.ref (a 1) :: rest)) :=
  va_get (D := D) (ci := 0) (C := RX0) (T := TX0) (N := 6) hC.1 hC.2.1 hC.2.2.2.2 iw0 hC.2.2.2.1 hG.1 hG.2.1 1 rfl rfl 0 (by decide) hl (fun _ h => h) rfl hd kk
theorem al_AC_rates (hC : CallFix p m c cc nL s args WALL own) (hG : GW D κ a u A s H locs) {i : Nat} (hi : i < 4) (hd : decode cc pc = .ok (.iaload, 1)) (kk : W p l e R s m args below meth c H locs cs ss Q (F0 m (pc + 1) ls (.int (AC_rates u i) :: rest))) : W p l e R s m args below meth c H locs cs ss Q (F0 m pc ls (.int (nI i) :: .ref (a 10) :: rest)) :=
  va_iald hC.1 hC.2.1 hG.1 hG.2.1 10 0 rfl rfl (vp_in_nI hi (by decide)) hd (by
    have e9 : (nI i).toNatClampNeg = i := nI_clamp (by omega)
    rw [e9]
    exact kk)
theorem as_AC_rates (hC : CallFix p m c cc nL s args WALL own) (hG : GW D κ a u A s H locs) {i : Nat} {v : Int32} (hi : i < 4) (hd : decode cc pc = .ok (.iastore, 1)) (kk : ∀ (H1 : Heap) (locs1 : List Loc), GW D κ a (sAI u 0 i v) A s H1 locs1 → W p l e R s m args below meth c H1 locs1 cs ss Q (F0 m (pc + 1) ls rest)) : W p l e R s m args below meth c H locs cs ss Q (F0 m pc ls (.int v :: .int (nI i) :: .ref (a 10) :: rest)) :=
  va_iast hC.1 hC.2.1 hG.1 hG.2.1 hG.2.2.1 hG.2.2.2.1 10 0 rfl rfl (vp_in_nI hi (by decide)) hd (fun H1 locs1 h1 h2 h3 => by
    have e9 : (nI i).toNatClampNeg = i := nI_clamp (by omega)
    rw [e9, fnI (u.2.2.2.2.1 0) i v] at h1 h2
    exact kk H1 locs1 ⟨hG.1, h1, h2, h3, hG.2.2.2.2⟩)
theorem gf_AC_kind (hC : CallFix p m c cc nL s args WALL own) (hG : GW D κ a u A s H locs) (hl : (Cond.fieldLink own idx "Tollgate$Accounts" "kind" "[I").before args s = true) (hd : decode cc pc = .ok (.getfield idx, 3)) (kk : W p l e R s m args below meth c H locs cs ss Q (F0 m (pc + 3) ls ((.ref (a 11)) :: rest))) : W p l e R s m args below meth c H locs cs ss Q (F0 m pc ls (.ref (a 1) :: rest)) :=
  va_get (D := D) (ci := 0) (C := RX0) (T := TX0) (N := 6) hC.1 hC.2.1 hC.2.2.2.2 iw0 hC.2.2.2.1 hG.1 hG.2.1 1 rfl rfl 1 (by decide) hl (fun _ h => h) rfl hd kk
theorem al_AC_kind (hC : CallFix p m c cc nL s args WALL own) (hG : GW D κ a u A s H locs) {i : Nat} (hi : i < 10) (hd : decode cc pc = .ok (.iaload, 1)) (kk : W p l e R s m args below meth c H locs cs ss Q (F0 m (pc + 1) ls (.int (nI (AC_kind u i)) :: rest))) : W p l e R s m args below meth c H locs cs ss Q (F0 m pc ls (.int (nI i) :: .ref (a 11) :: rest)) :=
  va_iald hC.1 hC.2.1 hG.1 hG.2.1 11 0 rfl rfl (vp_in_nI hi (by decide)) hd (by
    have e9 : (nI i).toNatClampNeg = i := nI_clamp (by omega)
    rw [e9]
    exact kk)
theorem as_AC_kind (hC : CallFix p m c cc nL s args WALL own) (hG : GW D κ a u A s H locs) {i : Nat} {v : Nat} (hi : i < 10) (hd : decode cc pc = .ok (.iastore, 1)) (kk : ∀ (H1 : Heap) (locs1 : List Loc), GW D κ a (sAN u 0 i v) A s H1 locs1 → W p l e R s m args below meth c H1 locs1 cs ss Q (F0 m (pc + 1) ls rest)) : W p l e R s m args below meth c H locs cs ss Q (F0 m pc ls (.int (nI v) :: .int (nI i) :: .ref (a 11) :: rest)) :=
  va_iast hC.1 hC.2.1 hG.1 hG.2.1 hG.2.2.1 hG.2.2.2.1 11 0 rfl rfl (vp_in_nI hi (by decide)) hd (fun H1 locs1 h1 h2 h3 => by
    have e9 : (nI i).toNatClampNeg = i := nI_clamp (by omega)
    rw [e9, fnN (u.2.2.2.1 0) i v] at h1 h2
    exact kk H1 locs1 ⟨hG.1, h1, h2, h3, hG.2.2.2.2⟩)
theorem gf_AC_currency (hC : CallFix p m c cc nL s args WALL own) (hG : GW D κ a u A s H locs) (hl : (Cond.fieldLink own idx "Tollgate$Accounts" "currency" "[I").before args s = true) (hd : decode cc pc = .ok (.getfield idx, 3)) (kk : W p l e R s m args below meth c H locs cs ss Q (F0 m (pc + 3) ls ((.ref (a 12)) :: rest))) : W p l e R s m args below meth c H locs cs ss Q (F0 m pc ls (.ref (a 1) :: rest)) :=
  va_get (D := D) (ci := 0) (C := RX0) (T := TX0) (N := 6) hC.1 hC.2.1 hC.2.2.2.2 iw0 hC.2.2.2.1 hG.1 hG.2.1 1 rfl rfl 2 (by decide) hl (fun _ h => h) rfl hd kk
theorem al_AC_currency (hC : CallFix p m c cc nL s args WALL own) (hG : GW D κ a u A s H locs) {i : Nat} (hi : i < 10) (hd : decode cc pc = .ok (.iaload, 1)) (kk : W p l e R s m args below meth c H locs cs ss Q (F0 m (pc + 1) ls (.int (nI (AC_currency u i)) :: rest))) : W p l e R s m args below meth c H locs cs ss Q (F0 m pc ls (.int (nI i) :: .ref (a 12) :: rest)) :=
  va_iald hC.1 hC.2.1 hG.1 hG.2.1 12 0 rfl rfl (vp_in_nI hi (by decide)) hd (by
    have e9 : (nI i).toNatClampNeg = i := nI_clamp (by omega)
    rw [e9]
    exact kk)
theorem as_AC_currency (hC : CallFix p m c cc nL s args WALL own) (hG : GW D κ a u A s H locs) {i : Nat} {v : Nat} (hi : i < 10) (hd : decode cc pc = .ok (.iastore, 1)) (kk : ∀ (H1 : Heap) (locs1 : List Loc), GW D κ a (sAN u 1 i v) A s H1 locs1 → W p l e R s m args below meth c H1 locs1 cs ss Q (F0 m (pc + 1) ls rest)) : W p l e R s m args below meth c H locs cs ss Q (F0 m pc ls (.int (nI v) :: .int (nI i) :: .ref (a 12) :: rest)) :=
  va_iast hC.1 hC.2.1 hG.1 hG.2.1 hG.2.2.1 hG.2.2.2.1 12 0 rfl rfl (vp_in_nI hi (by decide)) hd (fun H1 locs1 h1 h2 h3 => by
    have e9 : (nI i).toNatClampNeg = i := nI_clamp (by omega)
    rw [e9, fnN (u.2.2.2.1 1) i v] at h1 h2
    exact kk H1 locs1 ⟨hG.1, h1, h2, h3, hG.2.2.2.2⟩)
theorem gf_AC_floors (hC : CallFix p m c cc nL s args WALL own) (hG : GW D κ a u A s H locs) (hl : (Cond.fieldLink own idx "Tollgate$Accounts" "floors" "[I").before args s = true) (hd : decode cc pc = .ok (.getfield idx, 3)) (kk : W p l e R s m args below meth c H locs cs ss Q (F0 m (pc + 3) ls ((.ref (a 13)) :: rest))) : W p l e R s m args below meth c H locs cs ss Q (F0 m pc ls (.ref (a 1) :: rest)) :=
  va_get (D := D) (ci := 0) (C := RX0) (T := TX0) (N := 6) hC.1 hC.2.1 hC.2.2.2.2 iw0 hC.2.2.2.1 hG.1 hG.2.1 1 rfl rfl 3 (by decide) hl (fun _ h => h) rfl hd kk
theorem al_AC_floors (hC : CallFix p m c cc nL s args WALL own) (hG : GW D κ a u A s H locs) {i : Nat} (hi : i < 10) (hd : decode cc pc = .ok (.iaload, 1)) (kk : W p l e R s m args below meth c H locs cs ss Q (F0 m (pc + 1) ls (.int (AC_floors u i) :: rest))) : W p l e R s m args below meth c H locs cs ss Q (F0 m pc ls (.int (nI i) :: .ref (a 13) :: rest)) :=
  va_iald hC.1 hC.2.1 hG.1 hG.2.1 13 0 rfl rfl (vp_in_nI hi (by decide)) hd (by
    have e9 : (nI i).toNatClampNeg = i := nI_clamp (by omega)
    rw [e9]
    exact kk)
theorem as_AC_floors (hC : CallFix p m c cc nL s args WALL own) (hG : GW D κ a u A s H locs) {i : Nat} {v : Int32} (hi : i < 10) (hd : decode cc pc = .ok (.iastore, 1)) (kk : ∀ (H1 : Heap) (locs1 : List Loc), GW D κ a (sAI u 1 i v) A s H1 locs1 → W p l e R s m args below meth c H1 locs1 cs ss Q (F0 m (pc + 1) ls rest)) : W p l e R s m args below meth c H locs cs ss Q (F0 m pc ls (.int v :: .int (nI i) :: .ref (a 13) :: rest)) :=
  va_iast hC.1 hC.2.1 hG.1 hG.2.1 hG.2.2.1 hG.2.2.2.1 13 0 rfl rfl (vp_in_nI hi (by decide)) hd (fun H1 locs1 h1 h2 h3 => by
    have e9 : (nI i).toNatClampNeg = i := nI_clamp (by omega)
    rw [e9, fnI (u.2.2.2.2.1 1) i v] at h1 h2
    exact kk H1 locs1 ⟨hG.1, h1, h2, h3, hG.2.2.2.2⟩)
theorem gf_AC_hasFloor (hC : CallFix p m c cc nL s args WALL own) (hG : GW D κ a u A s H locs) (hl : (Cond.fieldLink own idx "Tollgate$Accounts" "hasFloor" "[Z").before args s = true) (hd : decode cc pc = .ok (.getfield idx, 3)) (kk : W p l e R s m args below meth c H locs cs ss Q (F0 m (pc + 3) ls ((.ref (a 14)) :: rest))) : W p l e R s m args below meth c H locs cs ss Q (F0 m pc ls (.ref (a 1) :: rest)) :=
  va_get (D := D) (ci := 0) (C := RX0) (T := TX0) (N := 6) hC.1 hC.2.1 hC.2.2.2.2 iw0 hC.2.2.2.1 hG.1 hG.2.1 1 rfl rfl 4 (by decide) hl (fun _ h => h) rfl hd kk
theorem al_AC_hasFloor (hC : CallFix p m c cc nL s args WALL own) (hG : GW D κ a u A s H locs) {i : Nat} (hi : i < 10) (hd : decode cc pc = .ok (.baload, 1)) (kk : W p l e R s m args below meth c H locs cs ss Q (F0 m (pc + 1) ls (.int (bI (AC_hasFloor u i)) :: rest))) : W p l e R s m args below meth c H locs cs ss Q (F0 m pc ls (.int (nI i) :: .ref (a 14) :: rest)) :=
  va_zald hC.1 hC.2.1 hG.1 hG.2.1 14 2 rfl rfl (vp_in_nI hi (by decide)) hd (by
    have e9 : (nI i).toNatClampNeg = i := nI_clamp (by omega)
    rw [e9]
    exact kk)
theorem as_AC_hasFloor (hC : CallFix p m c cc nL s args WALL own) (hG : GW D κ a u A s H locs) {i : Nat} {v : Bool} (hi : i < 10) (hd : decode cc pc = .ok (.bastore, 1)) (kk : ∀ (H1 : Heap) (locs1 : List Loc), GW D κ a (sAB u 0 i v) A s H1 locs1 → W p l e R s m args below meth c H1 locs1 cs ss Q (F0 m (pc + 1) ls rest)) : W p l e R s m args below meth c H locs cs ss Q (F0 m pc ls (.int (bI v) :: .int (nI i) :: .ref (a 14) :: rest)) :=
  va_zast hC.1 hC.2.1 hG.1 hG.2.1 hG.2.2.1 hG.2.2.2.1 14 2 rfl rfl (vp_in_nI hi (by decide)) hd (fun H1 locs1 h1 h2 h3 => by
    have e9 : (nI i).toNatClampNeg = i := nI_clamp (by omega)
    rw [e9, bI_v, fnB (u.2.2.2.2.2.1 0) i v] at h1 h2
    exact kk H1 locs1 ⟨hG.1, h1, h2, h3, hG.2.2.2.2⟩)
theorem gf_AC_count (hC : CallFix p m c cc nL s args WALL own) (hG : GW D κ a u A s H locs) (hl : (Cond.fieldLink own idx "Tollgate$Accounts" "count" "I").before args s = true) (hd : decode cc pc = .ok (.getfield idx, 3)) (kk : W p l e R s m args below meth c H locs cs ss Q (F0 m (pc + 3) ls ((.int (nI (AC_count u))) :: rest))) : W p l e R s m args below meth c H locs cs ss Q (F0 m pc ls (.ref (a 1) :: rest)) :=
  va_get (D := D) (ci := 0) (C := RX0) (T := TX0) (N := 6) hC.1 hC.2.1 hC.2.2.2.2 iw0 hC.2.2.2.1 hG.1 hG.2.1 1 rfl rfl 5 (by decide) hl (fun _ h => h) rfl hd kk
theorem pf_AC_count (hC : CallFix p m c cc nL s args WALL own) (hG : GW D κ a u A s H locs) {v : Nat} (hl : (Cond.fieldLink own idx "Tollgate$Accounts" "count" "I").before args s = true) (hd : decode cc pc = .ok (.putfield idx, 3)) (kk : ∀ (H1 : Heap) (locs1 : List Loc), GW D κ a (sN u 1 v) A s H1 locs1 → W p l e R s m args below meth c H1 locs1 cs ss Q (F0 m (pc + 3) ls rest)) : W p l e R s m args below meth c H locs cs ss Q (F0 m pc ls (.int (nI v) :: .ref (a 1) :: rest)) :=
  va_put (D := D) (ci := 0) (v := .int (nI v)) (ty := .int) (C := RX0) (T := TX0) (N := 6) hC.1 hC.2.1 hC.2.2.2.2 iw0 tyX0 tyX0_ok nmX0 hC.2.2.2.1 hG.1 hG.2.1 hG.2.2.1 hG.2.2.2.1 1 rfl rfl 5 (by decide) hl (fun _ h => h) rfl (by decide +kernel) rfl rfl (Nat.le_of_ble_eq_true rfl) hd (fun H1 locs1 h1 h2 h3 => kk H1 locs1 ⟨hG.1, h1, h2, h3, hG.2.2.2.2⟩)
theorem gf_DR_legs (hC : CallFix p m c cc nL s args WALL own) (hG : GW D κ a u A s H locs) (hl : (Cond.fieldLink own idx "Tollgate$Draft" "legs" "LTollgate$LegRow;").before args s = true) (hd : decode cc pc = .ok (.getfield idx, 3)) (kk : W p l e R s m args below meth c H locs cs ss Q (F0 m (pc + 3) ls ((.ref (a 3)) :: rest))) : W p l e R s m args below meth c H locs cs ss Q (F0 m pc ls (.ref (a 2) :: rest)) :=
  va_get (D := D) (ci := 1) (C := RX1) (T := TX1) (N := 4) hC.1 hC.2.1 hC.2.2.2.2 iw1 hC.2.2.2.1 hG.1 hG.2.1 2 rfl rfl 0 (by decide) hl (fun _ h => h) rfl hd kk
theorem gf_DR_isThere (hC : CallFix p m c cc nL s args WALL own) (hG : GW D κ a u A s H locs) (hl : (Cond.fieldLink own idx "Tollgate$Draft" "isThere" "Z").before args s = true) (hd : decode cc pc = .ok (.getfield idx, 3)) (kk : W p l e R s m args below meth c H locs cs ss Q (F0 m (pc + 3) ls ((.int (bI (DR_isThere u))) :: rest))) : W p l e R s m args below meth c H locs cs ss Q (F0 m pc ls (.ref (a 2) :: rest)) :=
  va_get (D := D) (ci := 1) (C := RX1) (T := TX1) (N := 4) hC.1 hC.2.1 hC.2.2.2.2 iw1 hC.2.2.2.1 hG.1 hG.2.1 2 rfl rfl 1 (by decide) hl (fun _ h => h) rfl hd kk
theorem pf_DR_isThere (hC : CallFix p m c cc nL s args WALL own) (hG : GW D κ a u A s H locs) {v : Bool} (hl : (Cond.fieldLink own idx "Tollgate$Draft" "isThere" "Z").before args s = true) (hd : decode cc pc = .ok (.putfield idx, 3)) (kk : ∀ (H1 : Heap) (locs1 : List Loc), GW D κ a (sB u 0 v) A s H1 locs1 → W p l e R s m args below meth c H1 locs1 cs ss Q (F0 m (pc + 3) ls rest)) : W p l e R s m args below meth c H locs cs ss Q (F0 m pc ls (.int (bI v) :: .ref (a 2) :: rest)) :=
  va_put (D := D) (ci := 1) (v := .int (bI v)) (ty := .boolean) (C := RX1) (T := TX1) (N := 4) hC.1 hC.2.1 hC.2.2.2.2 iw1 tyX1 tyX1_ok nmX1 hC.2.2.2.1 hG.1 hG.2.1 hG.2.2.1 hG.2.2.2.1 2 rfl rfl 1 (by decide) hl (fun _ h => h) rfl (by decide +kernel) (bI_n v) (bI_f v) (Nat.le_of_ble_eq_true rfl) hd (fun H1 locs1 h1 h2 h3 => kk H1 locs1 ⟨hG.1, h1, h2, h3, hG.2.2.2.2⟩)
theorem gf_DR_day (hC : CallFix p m c cc nL s args WALL own) (hG : GW D κ a u A s H locs) (hl : (Cond.fieldLink own idx "Tollgate$Draft" "day" "I").before args s = true) (hd : decode cc pc = .ok (.getfield idx, 3)) (kk : W p l e R s m args below meth c H locs cs ss Q (F0 m (pc + 3) ls ((.int (nI (DR_day u))) :: rest))) : W p l e R s m args below meth c H locs cs ss Q (F0 m pc ls (.ref (a 2) :: rest)) :=
  va_get (D := D) (ci := 1) (C := RX1) (T := TX1) (N := 4) hC.1 hC.2.1 hC.2.2.2.2 iw1 hC.2.2.2.1 hG.1 hG.2.1 2 rfl rfl 2 (by decide) hl (fun _ h => h) rfl hd kk
theorem pf_DR_day (hC : CallFix p m c cc nL s args WALL own) (hG : GW D κ a u A s H locs) {v : Nat} (hl : (Cond.fieldLink own idx "Tollgate$Draft" "day" "I").before args s = true) (hd : decode cc pc = .ok (.putfield idx, 3)) (kk : ∀ (H1 : Heap) (locs1 : List Loc), GW D κ a (sN u 2 v) A s H1 locs1 → W p l e R s m args below meth c H1 locs1 cs ss Q (F0 m (pc + 3) ls rest)) : W p l e R s m args below meth c H locs cs ss Q (F0 m pc ls (.int (nI v) :: .ref (a 2) :: rest)) :=
  va_put (D := D) (ci := 1) (v := .int (nI v)) (ty := .int) (C := RX1) (T := TX1) (N := 4) hC.1 hC.2.1 hC.2.2.2.2 iw1 tyX1 tyX1_ok nmX1 hC.2.2.2.1 hG.1 hG.2.1 hG.2.2.1 hG.2.2.2.1 2 rfl rfl 2 (by decide) hl (fun _ h => h) rfl (by decide +kernel) rfl rfl (Nat.le_of_ble_eq_true rfl) hd (fun H1 locs1 h1 h2 h3 => kk H1 locs1 ⟨hG.1, h1, h2, h3, hG.2.2.2.2⟩)
theorem gf_DR_note (hC : CallFix p m c cc nL s args WALL own) (hG : GW D κ a u A s H locs) (hl : (Cond.fieldLink own idx "Tollgate$Draft" "note" "I").before args s = true) (hd : decode cc pc = .ok (.getfield idx, 3)) (kk : W p l e R s m args below meth c H locs cs ss Q (F0 m (pc + 3) ls ((.int (nI (DR_note u))) :: rest))) : W p l e R s m args below meth c H locs cs ss Q (F0 m pc ls (.ref (a 2) :: rest)) :=
  va_get (D := D) (ci := 1) (C := RX1) (T := TX1) (N := 4) hC.1 hC.2.1 hC.2.2.2.2 iw1 hC.2.2.2.1 hG.1 hG.2.1 2 rfl rfl 3 (by decide) hl (fun _ h => h) rfl hd kk
theorem pf_DR_note (hC : CallFix p m c cc nL s args WALL own) (hG : GW D κ a u A s H locs) {v : Nat} (hl : (Cond.fieldLink own idx "Tollgate$Draft" "note" "I").before args s = true) (hd : decode cc pc = .ok (.putfield idx, 3)) (kk : ∀ (H1 : Heap) (locs1 : List Loc), GW D κ a (sN u 3 v) A s H1 locs1 → W p l e R s m args below meth c H1 locs1 cs ss Q (F0 m (pc + 3) ls rest)) : W p l e R s m args below meth c H locs cs ss Q (F0 m pc ls (.int (nI v) :: .ref (a 2) :: rest)) :=
  va_put (D := D) (ci := 1) (v := .int (nI v)) (ty := .int) (C := RX1) (T := TX1) (N := 4) hC.1 hC.2.1 hC.2.2.2.2 iw1 tyX1 tyX1_ok nmX1 hC.2.2.2.1 hG.1 hG.2.1 hG.2.2.1 hG.2.2.2.1 2 rfl rfl 3 (by decide) hl (fun _ h => h) rfl (by decide +kernel) rfl rfl (Nat.le_of_ble_eq_true rfl) hd (fun H1 locs1 h1 h2 h3 => kk H1 locs1 ⟨hG.1, h1, h2, h3, hG.2.2.2.2⟩)
theorem gf_L0_account (hC : CallFix p m c cc nL s args WALL own) (hG : GW D κ a u A s H locs) (hl : (Cond.fieldLink own idx "Tollgate$LegRow" "account" "[I").before args s = true) (hd : decode cc pc = .ok (.getfield idx, 3)) (kk : W p l e R s m args below meth c H locs cs ss Q (F0 m (pc + 3) ls ((.ref (a 15)) :: rest))) : W p l e R s m args below meth c H locs cs ss Q (F0 m pc ls (.ref (a 3) :: rest)) :=
  va_get (D := D) (ci := 4) (C := RX4) (T := TX4) (N := 4) hC.1 hC.2.1 hC.2.2.2.2 iw4 hC.2.2.2.1 hG.1 hG.2.1 3 rfl rfl 0 (by decide) hl (fun _ h => h) rfl hd kk
theorem al_L0_account (hC : CallFix p m c cc nL s args WALL own) (hG : GW D κ a u A s H locs) {i : Nat} (hi : i < 10) (hd : decode cc pc = .ok (.iaload, 1)) (kk : W p l e R s m args below meth c H locs cs ss Q (F0 m (pc + 1) ls (.int (nI (L0_account u i)) :: rest))) : W p l e R s m args below meth c H locs cs ss Q (F0 m pc ls (.int (nI i) :: .ref (a 15) :: rest)) :=
  va_iald hC.1 hC.2.1 hG.1 hG.2.1 15 0 rfl rfl (vp_in_nI hi (by decide)) hd (by
    have e9 : (nI i).toNatClampNeg = i := nI_clamp (by omega)
    rw [e9]
    exact kk)
theorem as_L0_account (hC : CallFix p m c cc nL s args WALL own) (hG : GW D κ a u A s H locs) {i : Nat} {v : Nat} (hi : i < 10) (hd : decode cc pc = .ok (.iastore, 1)) (kk : ∀ (H1 : Heap) (locs1 : List Loc), GW D κ a (sAN u 2 i v) A s H1 locs1 → W p l e R s m args below meth c H1 locs1 cs ss Q (F0 m (pc + 1) ls rest)) : W p l e R s m args below meth c H locs cs ss Q (F0 m pc ls (.int (nI v) :: .int (nI i) :: .ref (a 15) :: rest)) :=
  va_iast hC.1 hC.2.1 hG.1 hG.2.1 hG.2.2.1 hG.2.2.2.1 15 0 rfl rfl (vp_in_nI hi (by decide)) hd (fun H1 locs1 h1 h2 h3 => by
    have e9 : (nI i).toNatClampNeg = i := nI_clamp (by omega)
    rw [e9, fnN (u.2.2.2.1 2) i v] at h1 h2
    exact kk H1 locs1 ⟨hG.1, h1, h2, h3, hG.2.2.2.2⟩)
theorem gf_L0_amount (hC : CallFix p m c cc nL s args WALL own) (hG : GW D κ a u A s H locs) (hl : (Cond.fieldLink own idx "Tollgate$LegRow" "amount" "[J").before args s = true) (hd : decode cc pc = .ok (.getfield idx, 3)) (kk : W p l e R s m args below meth c H locs cs ss Q (F0 m (pc + 3) ls ((.ref (a 16)) :: rest))) : W p l e R s m args below meth c H locs cs ss Q (F0 m pc ls (.ref (a 3) :: rest)) :=
  va_get (D := D) (ci := 4) (C := RX4) (T := TX4) (N := 4) hC.1 hC.2.1 hC.2.2.2.2 iw4 hC.2.2.2.1 hG.1 hG.2.1 3 rfl rfl 1 (by decide) hl (fun _ h => h) rfl hd kk
theorem al_L0_amount (hC : CallFix p m c cc nL s args WALL own) (hG : GW D κ a u A s H locs) {i : Nat} (hi : i < 10) (hd : decode cc pc = .ok (.laload, 1)) (kk : W p l e R s m args below meth c H locs cs ss Q (F0 m (pc + 1) ls (.long (L0_amount u i) :: rest))) : W p l e R s m args below meth c H locs cs ss Q (F0 m pc ls (.int (nI i) :: .ref (a 16) :: rest)) :=
  va_lald hC.1 hC.2.1 hG.1 hG.2.1 16 1 rfl rfl (vp_in_nI hi (by decide)) hd (by
    have e9 : (nI i).toNatClampNeg = i := nI_clamp (by omega)
    rw [e9]
    exact kk)
theorem as_L0_amount (hC : CallFix p m c cc nL s args WALL own) (hG : GW D κ a u A s H locs) {i : Nat} {v : Int64} (hi : i < 10) (hd : decode cc pc = .ok (.lastore, 1)) (kk : ∀ (H1 : Heap) (locs1 : List Loc), GW D κ a (sAJ u 0 i v) A s H1 locs1 → W p l e R s m args below meth c H1 locs1 cs ss Q (F0 m (pc + 1) ls rest)) : W p l e R s m args below meth c H locs cs ss Q (F0 m pc ls (.long v :: .int (nI i) :: .ref (a 16) :: rest)) :=
  va_last hC.1 hC.2.1 hG.1 hG.2.1 hG.2.2.1 hG.2.2.2.1 16 1 rfl rfl (vp_in_nI hi (by decide)) hd (fun H1 locs1 h1 h2 h3 => by
    have e9 : (nI i).toNatClampNeg = i := nI_clamp (by omega)
    rw [e9, fnJ (u.2.2.2.2.2.2.2 0) i v] at h1 h2
    exact kk H1 locs1 ⟨hG.1, h1, h2, h3, hG.2.2.2.2⟩)
theorem gf_L0_worth (hC : CallFix p m c cc nL s args WALL own) (hG : GW D κ a u A s H locs) (hl : (Cond.fieldLink own idx "Tollgate$LegRow" "worth" "[J").before args s = true) (hd : decode cc pc = .ok (.getfield idx, 3)) (kk : W p l e R s m args below meth c H locs cs ss Q (F0 m (pc + 3) ls ((.ref (a 17)) :: rest))) : W p l e R s m args below meth c H locs cs ss Q (F0 m pc ls (.ref (a 3) :: rest)) :=
  va_get (D := D) (ci := 4) (C := RX4) (T := TX4) (N := 4) hC.1 hC.2.1 hC.2.2.2.2 iw4 hC.2.2.2.1 hG.1 hG.2.1 3 rfl rfl 2 (by decide) hl (fun _ h => h) rfl hd kk
theorem al_L0_worth (hC : CallFix p m c cc nL s args WALL own) (hG : GW D κ a u A s H locs) {i : Nat} (hi : i < 10) (hd : decode cc pc = .ok (.laload, 1)) (kk : W p l e R s m args below meth c H locs cs ss Q (F0 m (pc + 1) ls (.long (L0_worth u i) :: rest))) : W p l e R s m args below meth c H locs cs ss Q (F0 m pc ls (.int (nI i) :: .ref (a 17) :: rest)) :=
  va_lald hC.1 hC.2.1 hG.1 hG.2.1 17 1 rfl rfl (vp_in_nI hi (by decide)) hd (by
    have e9 : (nI i).toNatClampNeg = i := nI_clamp (by omega)
    rw [e9]
    exact kk)
theorem as_L0_worth (hC : CallFix p m c cc nL s args WALL own) (hG : GW D κ a u A s H locs) {i : Nat} {v : Int64} (hi : i < 10) (hd : decode cc pc = .ok (.lastore, 1)) (kk : ∀ (H1 : Heap) (locs1 : List Loc), GW D κ a (sAJ u 1 i v) A s H1 locs1 → W p l e R s m args below meth c H1 locs1 cs ss Q (F0 m (pc + 1) ls rest)) : W p l e R s m args below meth c H locs cs ss Q (F0 m pc ls (.long v :: .int (nI i) :: .ref (a 17) :: rest)) :=
  va_last hC.1 hC.2.1 hG.1 hG.2.1 hG.2.2.1 hG.2.2.2.1 17 1 rfl rfl (vp_in_nI hi (by decide)) hd (fun H1 locs1 h1 h2 h3 => by
    have e9 : (nI i).toNatClampNeg = i := nI_clamp (by omega)
    rw [e9, fnJ (u.2.2.2.2.2.2.2 1) i v] at h1 h2
    exact kk H1 locs1 ⟨hG.1, h1, h2, h3, hG.2.2.2.2⟩)
theorem gf_L0_count (hC : CallFix p m c cc nL s args WALL own) (hG : GW D κ a u A s H locs) (hl : (Cond.fieldLink own idx "Tollgate$LegRow" "count" "I").before args s = true) (hd : decode cc pc = .ok (.getfield idx, 3)) (kk : W p l e R s m args below meth c H locs cs ss Q (F0 m (pc + 3) ls ((.int (nI (L0_count u))) :: rest))) : W p l e R s m args below meth c H locs cs ss Q (F0 m pc ls (.ref (a 3) :: rest)) :=
  va_get (D := D) (ci := 4) (C := RX4) (T := TX4) (N := 4) hC.1 hC.2.1 hC.2.2.2.2 iw4 hC.2.2.2.1 hG.1 hG.2.1 3 rfl rfl 3 (by decide) hl (fun _ h => h) rfl hd kk
theorem pf_L0_count (hC : CallFix p m c cc nL s args WALL own) (hG : GW D κ a u A s H locs) {v : Nat} (hl : (Cond.fieldLink own idx "Tollgate$LegRow" "count" "I").before args s = true) (hd : decode cc pc = .ok (.putfield idx, 3)) (kk : ∀ (H1 : Heap) (locs1 : List Loc), GW D κ a (sN u 4 v) A s H1 locs1 → W p l e R s m args below meth c H1 locs1 cs ss Q (F0 m (pc + 3) ls rest)) : W p l e R s m args below meth c H locs cs ss Q (F0 m pc ls (.int (nI v) :: .ref (a 3) :: rest)) :=
  va_put (D := D) (ci := 4) (v := .int (nI v)) (ty := .int) (C := RX4) (T := TX4) (N := 4) hC.1 hC.2.1 hC.2.2.2.2 iw4 tyX4 tyX4_ok nmX4 hC.2.2.2.1 hG.1 hG.2.1 hG.2.2.1 hG.2.2.2.1 3 rfl rfl 3 (by decide) hl (fun _ h => h) rfl (by decide +kernel) rfl rfl (Nat.le_of_ble_eq_true rfl) hd (fun H1 locs1 h1 h2 h3 => kk H1 locs1 ⟨hG.1, h1, h2, h3, hG.2.2.2.2⟩)
theorem gf_L1_account (hC : CallFix p m c cc nL s args WALL own) (hG : GW D κ a u A s H locs) (hl : (Cond.fieldLink own idx "Tollgate$LegRow" "account" "[I").before args s = true) (hd : decode cc pc = .ok (.getfield idx, 3)) (kk : W p l e R s m args below meth c H locs cs ss Q (F0 m (pc + 3) ls ((.ref (a 18)) :: rest))) : W p l e R s m args below meth c H locs cs ss Q (F0 m pc ls (.ref (a 4) :: rest)) :=
  va_get (D := D) (ci := 4) (C := RX4) (T := TX4) (N := 4) hC.1 hC.2.1 hC.2.2.2.2 iw4 hC.2.2.2.1 hG.1 hG.2.1 4 rfl rfl 0 (by decide) hl (fun _ h => h) rfl hd kk
theorem al_L1_account (hC : CallFix p m c cc nL s args WALL own) (hG : GW D κ a u A s H locs) {i : Nat} (hi : i < 10) (hd : decode cc pc = .ok (.iaload, 1)) (kk : W p l e R s m args below meth c H locs cs ss Q (F0 m (pc + 1) ls (.int (nI (L1_account u i)) :: rest))) : W p l e R s m args below meth c H locs cs ss Q (F0 m pc ls (.int (nI i) :: .ref (a 18) :: rest)) :=
  va_iald hC.1 hC.2.1 hG.1 hG.2.1 18 0 rfl rfl (vp_in_nI hi (by decide)) hd (by
    have e9 : (nI i).toNatClampNeg = i := nI_clamp (by omega)
    rw [e9]
    exact kk)
theorem as_L1_account (hC : CallFix p m c cc nL s args WALL own) (hG : GW D κ a u A s H locs) {i : Nat} {v : Nat} (hi : i < 10) (hd : decode cc pc = .ok (.iastore, 1)) (kk : ∀ (H1 : Heap) (locs1 : List Loc), GW D κ a (sAN u 3 i v) A s H1 locs1 → W p l e R s m args below meth c H1 locs1 cs ss Q (F0 m (pc + 1) ls rest)) : W p l e R s m args below meth c H locs cs ss Q (F0 m pc ls (.int (nI v) :: .int (nI i) :: .ref (a 18) :: rest)) :=
  va_iast hC.1 hC.2.1 hG.1 hG.2.1 hG.2.2.1 hG.2.2.2.1 18 0 rfl rfl (vp_in_nI hi (by decide)) hd (fun H1 locs1 h1 h2 h3 => by
    have e9 : (nI i).toNatClampNeg = i := nI_clamp (by omega)
    rw [e9, fnN (u.2.2.2.1 3) i v] at h1 h2
    exact kk H1 locs1 ⟨hG.1, h1, h2, h3, hG.2.2.2.2⟩)
theorem gf_L1_amount (hC : CallFix p m c cc nL s args WALL own) (hG : GW D κ a u A s H locs) (hl : (Cond.fieldLink own idx "Tollgate$LegRow" "amount" "[J").before args s = true) (hd : decode cc pc = .ok (.getfield idx, 3)) (kk : W p l e R s m args below meth c H locs cs ss Q (F0 m (pc + 3) ls ((.ref (a 19)) :: rest))) : W p l e R s m args below meth c H locs cs ss Q (F0 m pc ls (.ref (a 4) :: rest)) :=
  va_get (D := D) (ci := 4) (C := RX4) (T := TX4) (N := 4) hC.1 hC.2.1 hC.2.2.2.2 iw4 hC.2.2.2.1 hG.1 hG.2.1 4 rfl rfl 1 (by decide) hl (fun _ h => h) rfl hd kk
theorem al_L1_amount (hC : CallFix p m c cc nL s args WALL own) (hG : GW D κ a u A s H locs) {i : Nat} (hi : i < 10) (hd : decode cc pc = .ok (.laload, 1)) (kk : W p l e R s m args below meth c H locs cs ss Q (F0 m (pc + 1) ls (.long (L1_amount u i) :: rest))) : W p l e R s m args below meth c H locs cs ss Q (F0 m pc ls (.int (nI i) :: .ref (a 19) :: rest)) :=
  va_lald hC.1 hC.2.1 hG.1 hG.2.1 19 1 rfl rfl (vp_in_nI hi (by decide)) hd (by
    have e9 : (nI i).toNatClampNeg = i := nI_clamp (by omega)
    rw [e9]
    exact kk)
theorem as_L1_amount (hC : CallFix p m c cc nL s args WALL own) (hG : GW D κ a u A s H locs) {i : Nat} {v : Int64} (hi : i < 10) (hd : decode cc pc = .ok (.lastore, 1)) (kk : ∀ (H1 : Heap) (locs1 : List Loc), GW D κ a (sAJ u 2 i v) A s H1 locs1 → W p l e R s m args below meth c H1 locs1 cs ss Q (F0 m (pc + 1) ls rest)) : W p l e R s m args below meth c H locs cs ss Q (F0 m pc ls (.long v :: .int (nI i) :: .ref (a 19) :: rest)) :=
  va_last hC.1 hC.2.1 hG.1 hG.2.1 hG.2.2.1 hG.2.2.2.1 19 1 rfl rfl (vp_in_nI hi (by decide)) hd (fun H1 locs1 h1 h2 h3 => by
    have e9 : (nI i).toNatClampNeg = i := nI_clamp (by omega)
    rw [e9, fnJ (u.2.2.2.2.2.2.2 2) i v] at h1 h2
    exact kk H1 locs1 ⟨hG.1, h1, h2, h3, hG.2.2.2.2⟩)
theorem gf_L1_worth (hC : CallFix p m c cc nL s args WALL own) (hG : GW D κ a u A s H locs) (hl : (Cond.fieldLink own idx "Tollgate$LegRow" "worth" "[J").before args s = true) (hd : decode cc pc = .ok (.getfield idx, 3)) (kk : W p l e R s m args below meth c H locs cs ss Q (F0 m (pc + 3) ls ((.ref (a 20)) :: rest))) : W p l e R s m args below meth c H locs cs ss Q (F0 m pc ls (.ref (a 4) :: rest)) :=
  va_get (D := D) (ci := 4) (C := RX4) (T := TX4) (N := 4) hC.1 hC.2.1 hC.2.2.2.2 iw4 hC.2.2.2.1 hG.1 hG.2.1 4 rfl rfl 2 (by decide) hl (fun _ h => h) rfl hd kk
theorem al_L1_worth (hC : CallFix p m c cc nL s args WALL own) (hG : GW D κ a u A s H locs) {i : Nat} (hi : i < 10) (hd : decode cc pc = .ok (.laload, 1)) (kk : W p l e R s m args below meth c H locs cs ss Q (F0 m (pc + 1) ls (.long (L1_worth u i) :: rest))) : W p l e R s m args below meth c H locs cs ss Q (F0 m pc ls (.int (nI i) :: .ref (a 20) :: rest)) :=
  va_lald hC.1 hC.2.1 hG.1 hG.2.1 20 1 rfl rfl (vp_in_nI hi (by decide)) hd (by
    have e9 : (nI i).toNatClampNeg = i := nI_clamp (by omega)
    rw [e9]
    exact kk)
theorem as_L1_worth (hC : CallFix p m c cc nL s args WALL own) (hG : GW D κ a u A s H locs) {i : Nat} {v : Int64} (hi : i < 10) (hd : decode cc pc = .ok (.lastore, 1)) (kk : ∀ (H1 : Heap) (locs1 : List Loc), GW D κ a (sAJ u 3 i v) A s H1 locs1 → W p l e R s m args below meth c H1 locs1 cs ss Q (F0 m (pc + 1) ls rest)) : W p l e R s m args below meth c H locs cs ss Q (F0 m pc ls (.long v :: .int (nI i) :: .ref (a 20) :: rest)) :=
  va_last hC.1 hC.2.1 hG.1 hG.2.1 hG.2.2.1 hG.2.2.2.1 20 1 rfl rfl (vp_in_nI hi (by decide)) hd (fun H1 locs1 h1 h2 h3 => by
    have e9 : (nI i).toNatClampNeg = i := nI_clamp (by omega)
    rw [e9, fnJ (u.2.2.2.2.2.2.2 3) i v] at h1 h2
    exact kk H1 locs1 ⟨hG.1, h1, h2, h3, hG.2.2.2.2⟩)
theorem gf_L1_count (hC : CallFix p m c cc nL s args WALL own) (hG : GW D κ a u A s H locs) (hl : (Cond.fieldLink own idx "Tollgate$LegRow" "count" "I").before args s = true) (hd : decode cc pc = .ok (.getfield idx, 3)) (kk : W p l e R s m args below meth c H locs cs ss Q (F0 m (pc + 3) ls ((.int (nI (L1_count u))) :: rest))) : W p l e R s m args below meth c H locs cs ss Q (F0 m pc ls (.ref (a 4) :: rest)) :=
  va_get (D := D) (ci := 4) (C := RX4) (T := TX4) (N := 4) hC.1 hC.2.1 hC.2.2.2.2 iw4 hC.2.2.2.1 hG.1 hG.2.1 4 rfl rfl 3 (by decide) hl (fun _ h => h) rfl hd kk
theorem pf_L1_count (hC : CallFix p m c cc nL s args WALL own) (hG : GW D κ a u A s H locs) {v : Nat} (hl : (Cond.fieldLink own idx "Tollgate$LegRow" "count" "I").before args s = true) (hd : decode cc pc = .ok (.putfield idx, 3)) (kk : ∀ (H1 : Heap) (locs1 : List Loc), GW D κ a (sN u 5 v) A s H1 locs1 → W p l e R s m args below meth c H1 locs1 cs ss Q (F0 m (pc + 3) ls rest)) : W p l e R s m args below meth c H locs cs ss Q (F0 m pc ls (.int (nI v) :: .ref (a 4) :: rest)) :=
  va_put (D := D) (ci := 4) (v := .int (nI v)) (ty := .int) (C := RX4) (T := TX4) (N := 4) hC.1 hC.2.1 hC.2.2.2.2 iw4 tyX4 tyX4_ok nmX4 hC.2.2.2.1 hG.1 hG.2.1 hG.2.2.1 hG.2.2.2.1 4 rfl rfl 3 (by decide) hl (fun _ h => h) rfl (by decide +kernel) rfl rfl (Nat.le_of_ble_eq_true rfl) hd (fun H1 locs1 h1 h2 h3 => kk H1 locs1 ⟨hG.1, h1, h2, h3, hG.2.2.2.2⟩)
theorem gf_J_day (hC : CallFix p m c cc nL s args WALL own) (hG : GW D κ a u A s H locs) (hl : (Cond.fieldLink own idx "Tollgate$Journal" "day" "[I").before args s = true) (hd : decode cc pc = .ok (.getfield idx, 3)) (kk : W p l e R s m args below meth c H locs cs ss Q (F0 m (pc + 3) ls ((.ref (a 21)) :: rest))) : W p l e R s m args below meth c H locs cs ss Q (F0 m pc ls (.ref (a 5) :: rest)) :=
  va_get (D := D) (ci := 3) (C := RX3) (T := TX3) (N := 12) hC.1 hC.2.1 hC.2.2.2.2 iw3 hC.2.2.2.1 hG.1 hG.2.1 5 rfl rfl 0 (by decide) hl (fun _ h => h) rfl hd kk
theorem al_J_day (hC : CallFix p m c cc nL s args WALL own) (hG : GW D κ a u A s H locs) {i : Nat} (hi : i < 60) (hd : decode cc pc = .ok (.iaload, 1)) (kk : W p l e R s m args below meth c H locs cs ss Q (F0 m (pc + 1) ls (.int (nI (J_day u i)) :: rest))) : W p l e R s m args below meth c H locs cs ss Q (F0 m pc ls (.int (nI i) :: .ref (a 21) :: rest)) :=
  va_iald hC.1 hC.2.1 hG.1 hG.2.1 21 0 rfl rfl (vp_in_nI hi (by decide)) hd (by
    have e9 : (nI i).toNatClampNeg = i := nI_clamp (by omega)
    rw [e9]
    exact kk)
theorem as_J_day (hC : CallFix p m c cc nL s args WALL own) (hG : GW D κ a u A s H locs) {i : Nat} {v : Nat} (hi : i < 60) (hd : decode cc pc = .ok (.iastore, 1)) (kk : ∀ (H1 : Heap) (locs1 : List Loc), GW D κ a (sAN u 4 i v) A s H1 locs1 → W p l e R s m args below meth c H1 locs1 cs ss Q (F0 m (pc + 1) ls rest)) : W p l e R s m args below meth c H locs cs ss Q (F0 m pc ls (.int (nI v) :: .int (nI i) :: .ref (a 21) :: rest)) :=
  va_iast hC.1 hC.2.1 hG.1 hG.2.1 hG.2.2.1 hG.2.2.2.1 21 0 rfl rfl (vp_in_nI hi (by decide)) hd (fun H1 locs1 h1 h2 h3 => by
    have e9 : (nI i).toNatClampNeg = i := nI_clamp (by omega)
    rw [e9, fnN (u.2.2.2.1 4) i v] at h1 h2
    exact kk H1 locs1 ⟨hG.1, h1, h2, h3, hG.2.2.2.2⟩)
theorem gf_J_note (hC : CallFix p m c cc nL s args WALL own) (hG : GW D κ a u A s H locs) (hl : (Cond.fieldLink own idx "Tollgate$Journal" "note" "[I").before args s = true) (hd : decode cc pc = .ok (.getfield idx, 3)) (kk : W p l e R s m args below meth c H locs cs ss Q (F0 m (pc + 3) ls ((.ref (a 22)) :: rest))) : W p l e R s m args below meth c H locs cs ss Q (F0 m pc ls (.ref (a 5) :: rest)) :=
  va_get (D := D) (ci := 3) (C := RX3) (T := TX3) (N := 12) hC.1 hC.2.1 hC.2.2.2.2 iw3 hC.2.2.2.1 hG.1 hG.2.1 5 rfl rfl 1 (by decide) hl (fun _ h => h) rfl hd kk
theorem al_J_note (hC : CallFix p m c cc nL s args WALL own) (hG : GW D κ a u A s H locs) {i : Nat} (hi : i < 60) (hd : decode cc pc = .ok (.iaload, 1)) (kk : W p l e R s m args below meth c H locs cs ss Q (F0 m (pc + 1) ls (.int (nI (J_note u i)) :: rest))) : W p l e R s m args below meth c H locs cs ss Q (F0 m pc ls (.int (nI i) :: .ref (a 22) :: rest)) :=
  va_iald hC.1 hC.2.1 hG.1 hG.2.1 22 0 rfl rfl (vp_in_nI hi (by decide)) hd (by
    have e9 : (nI i).toNatClampNeg = i := nI_clamp (by omega)
    rw [e9]
    exact kk)
theorem as_J_note (hC : CallFix p m c cc nL s args WALL own) (hG : GW D κ a u A s H locs) {i : Nat} {v : Nat} (hi : i < 60) (hd : decode cc pc = .ok (.iastore, 1)) (kk : ∀ (H1 : Heap) (locs1 : List Loc), GW D κ a (sAN u 5 i v) A s H1 locs1 → W p l e R s m args below meth c H1 locs1 cs ss Q (F0 m (pc + 1) ls rest)) : W p l e R s m args below meth c H locs cs ss Q (F0 m pc ls (.int (nI v) :: .int (nI i) :: .ref (a 22) :: rest)) :=
  va_iast hC.1 hC.2.1 hG.1 hG.2.1 hG.2.2.1 hG.2.2.2.1 22 0 rfl rfl (vp_in_nI hi (by decide)) hd (fun H1 locs1 h1 h2 h3 => by
    have e9 : (nI i).toNatClampNeg = i := nI_clamp (by omega)
    rw [e9, fnN (u.2.2.2.1 5) i v] at h1 h2
    exact kk H1 locs1 ⟨hG.1, h1, h2, h3, hG.2.2.2.2⟩)
theorem gf_J_firstLeg (hC : CallFix p m c cc nL s args WALL own) (hG : GW D κ a u A s H locs) (hl : (Cond.fieldLink own idx "Tollgate$Journal" "firstLeg" "[I").before args s = true) (hd : decode cc pc = .ok (.getfield idx, 3)) (kk : W p l e R s m args below meth c H locs cs ss Q (F0 m (pc + 3) ls ((.ref (a 23)) :: rest))) : W p l e R s m args below meth c H locs cs ss Q (F0 m pc ls (.ref (a 5) :: rest)) :=
  va_get (D := D) (ci := 3) (C := RX3) (T := TX3) (N := 12) hC.1 hC.2.1 hC.2.2.2.2 iw3 hC.2.2.2.1 hG.1 hG.2.1 5 rfl rfl 2 (by decide) hl (fun _ h => h) rfl hd kk
theorem al_J_firstLeg (hC : CallFix p m c cc nL s args WALL own) (hG : GW D κ a u A s H locs) {i : Nat} (hi : i < 60) (hd : decode cc pc = .ok (.iaload, 1)) (kk : W p l e R s m args below meth c H locs cs ss Q (F0 m (pc + 1) ls (.int (nI (J_firstLeg u i)) :: rest))) : W p l e R s m args below meth c H locs cs ss Q (F0 m pc ls (.int (nI i) :: .ref (a 23) :: rest)) :=
  va_iald hC.1 hC.2.1 hG.1 hG.2.1 23 0 rfl rfl (vp_in_nI hi (by decide)) hd (by
    have e9 : (nI i).toNatClampNeg = i := nI_clamp (by omega)
    rw [e9]
    exact kk)
theorem as_J_firstLeg (hC : CallFix p m c cc nL s args WALL own) (hG : GW D κ a u A s H locs) {i : Nat} {v : Nat} (hi : i < 60) (hd : decode cc pc = .ok (.iastore, 1)) (kk : ∀ (H1 : Heap) (locs1 : List Loc), GW D κ a (sAN u 6 i v) A s H1 locs1 → W p l e R s m args below meth c H1 locs1 cs ss Q (F0 m (pc + 1) ls rest)) : W p l e R s m args below meth c H locs cs ss Q (F0 m pc ls (.int (nI v) :: .int (nI i) :: .ref (a 23) :: rest)) :=
  va_iast hC.1 hC.2.1 hG.1 hG.2.1 hG.2.2.1 hG.2.2.2.1 23 0 rfl rfl (vp_in_nI hi (by decide)) hd (fun H1 locs1 h1 h2 h3 => by
    have e9 : (nI i).toNatClampNeg = i := nI_clamp (by omega)
    rw [e9, fnN (u.2.2.2.1 6) i v] at h1 h2
    exact kk H1 locs1 ⟨hG.1, h1, h2, h3, hG.2.2.2.2⟩)
theorem gf_J_legsOf (hC : CallFix p m c cc nL s args WALL own) (hG : GW D κ a u A s H locs) (hl : (Cond.fieldLink own idx "Tollgate$Journal" "legsOf" "[I").before args s = true) (hd : decode cc pc = .ok (.getfield idx, 3)) (kk : W p l e R s m args below meth c H locs cs ss Q (F0 m (pc + 3) ls ((.ref (a 24)) :: rest))) : W p l e R s m args below meth c H locs cs ss Q (F0 m pc ls (.ref (a 5) :: rest)) :=
  va_get (D := D) (ci := 3) (C := RX3) (T := TX3) (N := 12) hC.1 hC.2.1 hC.2.2.2.2 iw3 hC.2.2.2.1 hG.1 hG.2.1 5 rfl rfl 3 (by decide) hl (fun _ h => h) rfl hd kk
theorem al_J_legsOf (hC : CallFix p m c cc nL s args WALL own) (hG : GW D κ a u A s H locs) {i : Nat} (hi : i < 60) (hd : decode cc pc = .ok (.iaload, 1)) (kk : W p l e R s m args below meth c H locs cs ss Q (F0 m (pc + 1) ls (.int (nI (J_legsOf u i)) :: rest))) : W p l e R s m args below meth c H locs cs ss Q (F0 m pc ls (.int (nI i) :: .ref (a 24) :: rest)) :=
  va_iald hC.1 hC.2.1 hG.1 hG.2.1 24 0 rfl rfl (vp_in_nI hi (by decide)) hd (by
    have e9 : (nI i).toNatClampNeg = i := nI_clamp (by omega)
    rw [e9]
    exact kk)
theorem as_J_legsOf (hC : CallFix p m c cc nL s args WALL own) (hG : GW D κ a u A s H locs) {i : Nat} {v : Nat} (hi : i < 60) (hd : decode cc pc = .ok (.iastore, 1)) (kk : ∀ (H1 : Heap) (locs1 : List Loc), GW D κ a (sAN u 7 i v) A s H1 locs1 → W p l e R s m args below meth c H1 locs1 cs ss Q (F0 m (pc + 1) ls rest)) : W p l e R s m args below meth c H locs cs ss Q (F0 m pc ls (.int (nI v) :: .int (nI i) :: .ref (a 24) :: rest)) :=
  va_iast hC.1 hC.2.1 hG.1 hG.2.1 hG.2.2.1 hG.2.2.2.1 24 0 rfl rfl (vp_in_nI hi (by decide)) hd (fun H1 locs1 h1 h2 h3 => by
    have e9 : (nI i).toNatClampNeg = i := nI_clamp (by omega)
    rw [e9, fnN (u.2.2.2.1 7) i v] at h1 h2
    exact kk H1 locs1 ⟨hG.1, h1, h2, h3, hG.2.2.2.2⟩)
theorem gf_J_gone (hC : CallFix p m c cc nL s args WALL own) (hG : GW D κ a u A s H locs) (hl : (Cond.fieldLink own idx "Tollgate$Journal" "gone" "[Z").before args s = true) (hd : decode cc pc = .ok (.getfield idx, 3)) (kk : W p l e R s m args below meth c H locs cs ss Q (F0 m (pc + 3) ls ((.ref (a 25)) :: rest))) : W p l e R s m args below meth c H locs cs ss Q (F0 m pc ls (.ref (a 5) :: rest)) :=
  va_get (D := D) (ci := 3) (C := RX3) (T := TX3) (N := 12) hC.1 hC.2.1 hC.2.2.2.2 iw3 hC.2.2.2.1 hG.1 hG.2.1 5 rfl rfl 4 (by decide) hl (fun _ h => h) rfl hd kk
theorem al_J_gone (hC : CallFix p m c cc nL s args WALL own) (hG : GW D κ a u A s H locs) {i : Nat} (hi : i < 60) (hd : decode cc pc = .ok (.baload, 1)) (kk : W p l e R s m args below meth c H locs cs ss Q (F0 m (pc + 1) ls (.int (bI (J_gone u i)) :: rest))) : W p l e R s m args below meth c H locs cs ss Q (F0 m pc ls (.int (nI i) :: .ref (a 25) :: rest)) :=
  va_zald hC.1 hC.2.1 hG.1 hG.2.1 25 2 rfl rfl (vp_in_nI hi (by decide)) hd (by
    have e9 : (nI i).toNatClampNeg = i := nI_clamp (by omega)
    rw [e9]
    exact kk)
theorem as_J_gone (hC : CallFix p m c cc nL s args WALL own) (hG : GW D κ a u A s H locs) {i : Nat} {v : Bool} (hi : i < 60) (hd : decode cc pc = .ok (.bastore, 1)) (kk : ∀ (H1 : Heap) (locs1 : List Loc), GW D κ a (sAB u 1 i v) A s H1 locs1 → W p l e R s m args below meth c H1 locs1 cs ss Q (F0 m (pc + 1) ls rest)) : W p l e R s m args below meth c H locs cs ss Q (F0 m pc ls (.int (bI v) :: .int (nI i) :: .ref (a 25) :: rest)) :=
  va_zast hC.1 hC.2.1 hG.1 hG.2.1 hG.2.2.1 hG.2.2.2.1 25 2 rfl rfl (vp_in_nI hi (by decide)) hd (fun H1 locs1 h1 h2 h3 => by
    have e9 : (nI i).toNatClampNeg = i := nI_clamp (by omega)
    rw [e9, bI_v, fnB (u.2.2.2.2.2.1 1) i v] at h1 h2
    exact kk H1 locs1 ⟨hG.1, h1, h2, h3, hG.2.2.2.2⟩)
theorem gf_J_isClosing (hC : CallFix p m c cc nL s args WALL own) (hG : GW D κ a u A s H locs) (hl : (Cond.fieldLink own idx "Tollgate$Journal" "isClosing" "[Z").before args s = true) (hd : decode cc pc = .ok (.getfield idx, 3)) (kk : W p l e R s m args below meth c H locs cs ss Q (F0 m (pc + 3) ls ((.ref (a 26)) :: rest))) : W p l e R s m args below meth c H locs cs ss Q (F0 m pc ls (.ref (a 5) :: rest)) :=
  va_get (D := D) (ci := 3) (C := RX3) (T := TX3) (N := 12) hC.1 hC.2.1 hC.2.2.2.2 iw3 hC.2.2.2.1 hG.1 hG.2.1 5 rfl rfl 5 (by decide) hl (fun _ h => h) rfl hd kk
theorem al_J_isClosing (hC : CallFix p m c cc nL s args WALL own) (hG : GW D κ a u A s H locs) {i : Nat} (hi : i < 60) (hd : decode cc pc = .ok (.baload, 1)) (kk : W p l e R s m args below meth c H locs cs ss Q (F0 m (pc + 1) ls (.int (bI (J_isClosing u i)) :: rest))) : W p l e R s m args below meth c H locs cs ss Q (F0 m pc ls (.int (nI i) :: .ref (a 26) :: rest)) :=
  va_zald hC.1 hC.2.1 hG.1 hG.2.1 26 2 rfl rfl (vp_in_nI hi (by decide)) hd (by
    have e9 : (nI i).toNatClampNeg = i := nI_clamp (by omega)
    rw [e9]
    exact kk)
theorem as_J_isClosing (hC : CallFix p m c cc nL s args WALL own) (hG : GW D κ a u A s H locs) {i : Nat} {v : Bool} (hi : i < 60) (hd : decode cc pc = .ok (.bastore, 1)) (kk : ∀ (H1 : Heap) (locs1 : List Loc), GW D κ a (sAB u 2 i v) A s H1 locs1 → W p l e R s m args below meth c H1 locs1 cs ss Q (F0 m (pc + 1) ls rest)) : W p l e R s m args below meth c H locs cs ss Q (F0 m pc ls (.int (bI v) :: .int (nI i) :: .ref (a 26) :: rest)) :=
  va_zast hC.1 hC.2.1 hG.1 hG.2.1 hG.2.2.1 hG.2.2.2.1 26 2 rfl rfl (vp_in_nI hi (by decide)) hd (fun H1 locs1 h1 h2 h3 => by
    have e9 : (nI i).toNatClampNeg = i := nI_clamp (by omega)
    rw [e9, bI_v, fnB (u.2.2.2.2.2.1 2) i v] at h1 h2
    exact kk H1 locs1 ⟨hG.1, h1, h2, h3, hG.2.2.2.2⟩)
theorem gf_J_count (hC : CallFix p m c cc nL s args WALL own) (hG : GW D κ a u A s H locs) (hl : (Cond.fieldLink own idx "Tollgate$Journal" "count" "I").before args s = true) (hd : decode cc pc = .ok (.getfield idx, 3)) (kk : W p l e R s m args below meth c H locs cs ss Q (F0 m (pc + 3) ls ((.int (nI (J_count u))) :: rest))) : W p l e R s m args below meth c H locs cs ss Q (F0 m pc ls (.ref (a 5) :: rest)) :=
  va_get (D := D) (ci := 3) (C := RX3) (T := TX3) (N := 12) hC.1 hC.2.1 hC.2.2.2.2 iw3 hC.2.2.2.1 hG.1 hG.2.1 5 rfl rfl 6 (by decide) hl (fun _ h => h) rfl hd kk
theorem pf_J_count (hC : CallFix p m c cc nL s args WALL own) (hG : GW D κ a u A s H locs) {v : Nat} (hl : (Cond.fieldLink own idx "Tollgate$Journal" "count" "I").before args s = true) (hd : decode cc pc = .ok (.putfield idx, 3)) (kk : ∀ (H1 : Heap) (locs1 : List Loc), GW D κ a (sN u 6 v) A s H1 locs1 → W p l e R s m args below meth c H1 locs1 cs ss Q (F0 m (pc + 3) ls rest)) : W p l e R s m args below meth c H locs cs ss Q (F0 m pc ls (.int (nI v) :: .ref (a 5) :: rest)) :=
  va_put (D := D) (ci := 3) (v := .int (nI v)) (ty := .int) (C := RX3) (T := TX3) (N := 12) hC.1 hC.2.1 hC.2.2.2.2 iw3 tyX3 tyX3_ok nmX3 hC.2.2.2.1 hG.1 hG.2.1 hG.2.2.1 hG.2.2.2.1 5 rfl rfl 6 (by decide) hl (fun _ h => h) rfl (by decide +kernel) rfl rfl (Nat.le_of_ble_eq_true rfl) hd (fun H1 locs1 h1 h2 h3 => kk H1 locs1 ⟨hG.1, h1, h2, h3, hG.2.2.2.2⟩)
theorem gf_J_entryOf (hC : CallFix p m c cc nL s args WALL own) (hG : GW D κ a u A s H locs) (hl : (Cond.fieldLink own idx "Tollgate$Journal" "entryOf" "[I").before args s = true) (hd : decode cc pc = .ok (.getfield idx, 3)) (kk : W p l e R s m args below meth c H locs cs ss Q (F0 m (pc + 3) ls ((.ref (a 27)) :: rest))) : W p l e R s m args below meth c H locs cs ss Q (F0 m pc ls (.ref (a 5) :: rest)) :=
  va_get (D := D) (ci := 3) (C := RX3) (T := TX3) (N := 12) hC.1 hC.2.1 hC.2.2.2.2 iw3 hC.2.2.2.1 hG.1 hG.2.1 5 rfl rfl 7 (by decide) hl (fun _ h => h) rfl hd kk
theorem al_J_entryOf (hC : CallFix p m c cc nL s args WALL own) (hG : GW D κ a u A s H locs) {i : Nat} (hi : i < 600) (hd : decode cc pc = .ok (.iaload, 1)) (kk : W p l e R s m args below meth c H locs cs ss Q (F0 m (pc + 1) ls (.int (nI (J_entryOf u i)) :: rest))) : W p l e R s m args below meth c H locs cs ss Q (F0 m pc ls (.int (nI i) :: .ref (a 27) :: rest)) :=
  va_iald hC.1 hC.2.1 hG.1 hG.2.1 27 0 rfl rfl (vp_in_nI hi (by decide)) hd (by
    have e9 : (nI i).toNatClampNeg = i := nI_clamp (by omega)
    rw [e9]
    exact kk)
theorem as_J_entryOf (hC : CallFix p m c cc nL s args WALL own) (hG : GW D κ a u A s H locs) {i : Nat} {v : Nat} (hi : i < 600) (hd : decode cc pc = .ok (.iastore, 1)) (kk : ∀ (H1 : Heap) (locs1 : List Loc), GW D κ a (sAN u 8 i v) A s H1 locs1 → W p l e R s m args below meth c H1 locs1 cs ss Q (F0 m (pc + 1) ls rest)) : W p l e R s m args below meth c H locs cs ss Q (F0 m pc ls (.int (nI v) :: .int (nI i) :: .ref (a 27) :: rest)) :=
  va_iast hC.1 hC.2.1 hG.1 hG.2.1 hG.2.2.1 hG.2.2.2.1 27 0 rfl rfl (vp_in_nI hi (by decide)) hd (fun H1 locs1 h1 h2 h3 => by
    have e9 : (nI i).toNatClampNeg = i := nI_clamp (by omega)
    rw [e9, fnN (u.2.2.2.1 8) i v] at h1 h2
    exact kk H1 locs1 ⟨hG.1, h1, h2, h3, hG.2.2.2.2⟩)
theorem gf_J_account (hC : CallFix p m c cc nL s args WALL own) (hG : GW D κ a u A s H locs) (hl : (Cond.fieldLink own idx "Tollgate$Journal" "account" "[I").before args s = true) (hd : decode cc pc = .ok (.getfield idx, 3)) (kk : W p l e R s m args below meth c H locs cs ss Q (F0 m (pc + 3) ls ((.ref (a 28)) :: rest))) : W p l e R s m args below meth c H locs cs ss Q (F0 m pc ls (.ref (a 5) :: rest)) :=
  va_get (D := D) (ci := 3) (C := RX3) (T := TX3) (N := 12) hC.1 hC.2.1 hC.2.2.2.2 iw3 hC.2.2.2.1 hG.1 hG.2.1 5 rfl rfl 8 (by decide) hl (fun _ h => h) rfl hd kk
theorem al_J_account (hC : CallFix p m c cc nL s args WALL own) (hG : GW D κ a u A s H locs) {i : Nat} (hi : i < 600) (hd : decode cc pc = .ok (.iaload, 1)) (kk : W p l e R s m args below meth c H locs cs ss Q (F0 m (pc + 1) ls (.int (nI (J_account u i)) :: rest))) : W p l e R s m args below meth c H locs cs ss Q (F0 m pc ls (.int (nI i) :: .ref (a 28) :: rest)) :=
  va_iald hC.1 hC.2.1 hG.1 hG.2.1 28 0 rfl rfl (vp_in_nI hi (by decide)) hd (by
    have e9 : (nI i).toNatClampNeg = i := nI_clamp (by omega)
    rw [e9]
    exact kk)
theorem as_J_account (hC : CallFix p m c cc nL s args WALL own) (hG : GW D κ a u A s H locs) {i : Nat} {v : Nat} (hi : i < 600) (hd : decode cc pc = .ok (.iastore, 1)) (kk : ∀ (H1 : Heap) (locs1 : List Loc), GW D κ a (sAN u 9 i v) A s H1 locs1 → W p l e R s m args below meth c H1 locs1 cs ss Q (F0 m (pc + 1) ls rest)) : W p l e R s m args below meth c H locs cs ss Q (F0 m pc ls (.int (nI v) :: .int (nI i) :: .ref (a 28) :: rest)) :=
  va_iast hC.1 hC.2.1 hG.1 hG.2.1 hG.2.2.1 hG.2.2.2.1 28 0 rfl rfl (vp_in_nI hi (by decide)) hd (fun H1 locs1 h1 h2 h3 => by
    have e9 : (nI i).toNatClampNeg = i := nI_clamp (by omega)
    rw [e9, fnN (u.2.2.2.1 9) i v] at h1 h2
    exact kk H1 locs1 ⟨hG.1, h1, h2, h3, hG.2.2.2.2⟩)
theorem gf_J_amount (hC : CallFix p m c cc nL s args WALL own) (hG : GW D κ a u A s H locs) (hl : (Cond.fieldLink own idx "Tollgate$Journal" "amount" "[J").before args s = true) (hd : decode cc pc = .ok (.getfield idx, 3)) (kk : W p l e R s m args below meth c H locs cs ss Q (F0 m (pc + 3) ls ((.ref (a 29)) :: rest))) : W p l e R s m args below meth c H locs cs ss Q (F0 m pc ls (.ref (a 5) :: rest)) :=
  va_get (D := D) (ci := 3) (C := RX3) (T := TX3) (N := 12) hC.1 hC.2.1 hC.2.2.2.2 iw3 hC.2.2.2.1 hG.1 hG.2.1 5 rfl rfl 9 (by decide) hl (fun _ h => h) rfl hd kk
theorem al_J_amount (hC : CallFix p m c cc nL s args WALL own) (hG : GW D κ a u A s H locs) {i : Nat} (hi : i < 600) (hd : decode cc pc = .ok (.laload, 1)) (kk : W p l e R s m args below meth c H locs cs ss Q (F0 m (pc + 1) ls (.long (J_amount u i) :: rest))) : W p l e R s m args below meth c H locs cs ss Q (F0 m pc ls (.int (nI i) :: .ref (a 29) :: rest)) :=
  va_lald hC.1 hC.2.1 hG.1 hG.2.1 29 1 rfl rfl (vp_in_nI hi (by decide)) hd (by
    have e9 : (nI i).toNatClampNeg = i := nI_clamp (by omega)
    rw [e9]
    exact kk)
theorem as_J_amount (hC : CallFix p m c cc nL s args WALL own) (hG : GW D κ a u A s H locs) {i : Nat} {v : Int64} (hi : i < 600) (hd : decode cc pc = .ok (.lastore, 1)) (kk : ∀ (H1 : Heap) (locs1 : List Loc), GW D κ a (sAJ u 4 i v) A s H1 locs1 → W p l e R s m args below meth c H1 locs1 cs ss Q (F0 m (pc + 1) ls rest)) : W p l e R s m args below meth c H locs cs ss Q (F0 m pc ls (.long v :: .int (nI i) :: .ref (a 29) :: rest)) :=
  va_last hC.1 hC.2.1 hG.1 hG.2.1 hG.2.2.1 hG.2.2.2.1 29 1 rfl rfl (vp_in_nI hi (by decide)) hd (fun H1 locs1 h1 h2 h3 => by
    have e9 : (nI i).toNatClampNeg = i := nI_clamp (by omega)
    rw [e9, fnJ (u.2.2.2.2.2.2.2 4) i v] at h1 h2
    exact kk H1 locs1 ⟨hG.1, h1, h2, h3, hG.2.2.2.2⟩)
theorem gf_J_worth (hC : CallFix p m c cc nL s args WALL own) (hG : GW D κ a u A s H locs) (hl : (Cond.fieldLink own idx "Tollgate$Journal" "worth" "[J").before args s = true) (hd : decode cc pc = .ok (.getfield idx, 3)) (kk : W p l e R s m args below meth c H locs cs ss Q (F0 m (pc + 3) ls ((.ref (a 30)) :: rest))) : W p l e R s m args below meth c H locs cs ss Q (F0 m pc ls (.ref (a 5) :: rest)) :=
  va_get (D := D) (ci := 3) (C := RX3) (T := TX3) (N := 12) hC.1 hC.2.1 hC.2.2.2.2 iw3 hC.2.2.2.1 hG.1 hG.2.1 5 rfl rfl 10 (by decide) hl (fun _ h => h) rfl hd kk
theorem al_J_worth (hC : CallFix p m c cc nL s args WALL own) (hG : GW D κ a u A s H locs) {i : Nat} (hi : i < 600) (hd : decode cc pc = .ok (.laload, 1)) (kk : W p l e R s m args below meth c H locs cs ss Q (F0 m (pc + 1) ls (.long (J_worth u i) :: rest))) : W p l e R s m args below meth c H locs cs ss Q (F0 m pc ls (.int (nI i) :: .ref (a 30) :: rest)) :=
  va_lald hC.1 hC.2.1 hG.1 hG.2.1 30 1 rfl rfl (vp_in_nI hi (by decide)) hd (by
    have e9 : (nI i).toNatClampNeg = i := nI_clamp (by omega)
    rw [e9]
    exact kk)
theorem as_J_worth (hC : CallFix p m c cc nL s args WALL own) (hG : GW D κ a u A s H locs) {i : Nat} {v : Int64} (hi : i < 600) (hd : decode cc pc = .ok (.lastore, 1)) (kk : ∀ (H1 : Heap) (locs1 : List Loc), GW D κ a (sAJ u 5 i v) A s H1 locs1 → W p l e R s m args below meth c H1 locs1 cs ss Q (F0 m (pc + 1) ls rest)) : W p l e R s m args below meth c H locs cs ss Q (F0 m pc ls (.long v :: .int (nI i) :: .ref (a 30) :: rest)) :=
  va_last hC.1 hC.2.1 hG.1 hG.2.1 hG.2.2.1 hG.2.2.2.1 30 1 rfl rfl (vp_in_nI hi (by decide)) hd (fun H1 locs1 h1 h2 h3 => by
    have e9 : (nI i).toNatClampNeg = i := nI_clamp (by omega)
    rw [e9, fnJ (u.2.2.2.2.2.2.2 5) i v] at h1 h2
    exact kk H1 locs1 ⟨hG.1, h1, h2, h3, hG.2.2.2.2⟩)
theorem gf_J_legCount (hC : CallFix p m c cc nL s args WALL own) (hG : GW D κ a u A s H locs) (hl : (Cond.fieldLink own idx "Tollgate$Journal" "legCount" "I").before args s = true) (hd : decode cc pc = .ok (.getfield idx, 3)) (kk : W p l e R s m args below meth c H locs cs ss Q (F0 m (pc + 3) ls ((.int (nI (J_legCount u))) :: rest))) : W p l e R s m args below meth c H locs cs ss Q (F0 m pc ls (.ref (a 5) :: rest)) :=
  va_get (D := D) (ci := 3) (C := RX3) (T := TX3) (N := 12) hC.1 hC.2.1 hC.2.2.2.2 iw3 hC.2.2.2.1 hG.1 hG.2.1 5 rfl rfl 11 (by decide) hl (fun _ h => h) rfl hd kk
theorem pf_J_legCount (hC : CallFix p m c cc nL s args WALL own) (hG : GW D κ a u A s H locs) {v : Nat} (hl : (Cond.fieldLink own idx "Tollgate$Journal" "legCount" "I").before args s = true) (hd : decode cc pc = .ok (.putfield idx, 3)) (kk : ∀ (H1 : Heap) (locs1 : List Loc), GW D κ a (sN u 7 v) A s H1 locs1 → W p l e R s m args below meth c H1 locs1 cs ss Q (F0 m (pc + 3) ls rest)) : W p l e R s m args below meth c H locs cs ss Q (F0 m pc ls (.int (nI v) :: .ref (a 5) :: rest)) :=
  va_put (D := D) (ci := 3) (v := .int (nI v)) (ty := .int) (C := RX3) (T := TX3) (N := 12) hC.1 hC.2.1 hC.2.2.2.2 iw3 tyX3 tyX3_ok nmX3 hC.2.2.2.1 hG.1 hG.2.1 hG.2.2.1 hG.2.2.2.1 5 rfl rfl 11 (by decide) hl (fun _ h => h) rfl (by decide +kernel) rfl rfl (Nat.le_of_ble_eq_true rfl) hd (fun H1 locs1 h1 h2 h3 => kk H1 locs1 ⟨hG.1, h1, h2, h3, hG.2.2.2.2⟩)
theorem gf_HO_account (hC : CallFix p m c cc nL s args WALL own) (hG : GW D κ a u A s H locs) (hl : (Cond.fieldLink own idx "Tollgate$Holds" "account" "[I").before args s = true) (hd : decode cc pc = .ok (.getfield idx, 3)) (kk : W p l e R s m args below meth c H locs cs ss Q (F0 m (pc + 3) ls ((.ref (a 31)) :: rest))) : W p l e R s m args below meth c H locs cs ss Q (F0 m pc ls (.ref (a 6) :: rest)) :=
  va_get (D := D) (ci := 2) (C := RX2) (T := TX2) (N := 5) hC.1 hC.2.1 hC.2.2.2.2 iw2 hC.2.2.2.1 hG.1 hG.2.1 6 rfl rfl 0 (by decide) hl (fun _ h => h) rfl hd kk
theorem al_HO_account (hC : CallFix p m c cc nL s args WALL own) (hG : GW D κ a u A s H locs) {i : Nat} (hi : i < 20) (hd : decode cc pc = .ok (.iaload, 1)) (kk : W p l e R s m args below meth c H locs cs ss Q (F0 m (pc + 1) ls (.int (nI (HO_account u i)) :: rest))) : W p l e R s m args below meth c H locs cs ss Q (F0 m pc ls (.int (nI i) :: .ref (a 31) :: rest)) :=
  va_iald hC.1 hC.2.1 hG.1 hG.2.1 31 0 rfl rfl (vp_in_nI hi (by decide)) hd (by
    have e9 : (nI i).toNatClampNeg = i := nI_clamp (by omega)
    rw [e9]
    exact kk)
theorem as_HO_account (hC : CallFix p m c cc nL s args WALL own) (hG : GW D κ a u A s H locs) {i : Nat} {v : Nat} (hi : i < 20) (hd : decode cc pc = .ok (.iastore, 1)) (kk : ∀ (H1 : Heap) (locs1 : List Loc), GW D κ a (sAN u 10 i v) A s H1 locs1 → W p l e R s m args below meth c H1 locs1 cs ss Q (F0 m (pc + 1) ls rest)) : W p l e R s m args below meth c H locs cs ss Q (F0 m pc ls (.int (nI v) :: .int (nI i) :: .ref (a 31) :: rest)) :=
  va_iast hC.1 hC.2.1 hG.1 hG.2.1 hG.2.2.1 hG.2.2.2.1 31 0 rfl rfl (vp_in_nI hi (by decide)) hd (fun H1 locs1 h1 h2 h3 => by
    have e9 : (nI i).toNatClampNeg = i := nI_clamp (by omega)
    rw [e9, fnN (u.2.2.2.1 10) i v] at h1 h2
    exact kk H1 locs1 ⟨hG.1, h1, h2, h3, hG.2.2.2.2⟩)
theorem gf_HO_amount (hC : CallFix p m c cc nL s args WALL own) (hG : GW D κ a u A s H locs) (hl : (Cond.fieldLink own idx "Tollgate$Holds" "amount" "[I").before args s = true) (hd : decode cc pc = .ok (.getfield idx, 3)) (kk : W p l e R s m args below meth c H locs cs ss Q (F0 m (pc + 3) ls ((.ref (a 32)) :: rest))) : W p l e R s m args below meth c H locs cs ss Q (F0 m pc ls (.ref (a 6) :: rest)) :=
  va_get (D := D) (ci := 2) (C := RX2) (T := TX2) (N := 5) hC.1 hC.2.1 hC.2.2.2.2 iw2 hC.2.2.2.1 hG.1 hG.2.1 6 rfl rfl 1 (by decide) hl (fun _ h => h) rfl hd kk
theorem al_HO_amount (hC : CallFix p m c cc nL s args WALL own) (hG : GW D κ a u A s H locs) {i : Nat} (hi : i < 20) (hd : decode cc pc = .ok (.iaload, 1)) (kk : W p l e R s m args below meth c H locs cs ss Q (F0 m (pc + 1) ls (.int (HO_amount u i) :: rest))) : W p l e R s m args below meth c H locs cs ss Q (F0 m pc ls (.int (nI i) :: .ref (a 32) :: rest)) :=
  va_iald hC.1 hC.2.1 hG.1 hG.2.1 32 0 rfl rfl (vp_in_nI hi (by decide)) hd (by
    have e9 : (nI i).toNatClampNeg = i := nI_clamp (by omega)
    rw [e9]
    exact kk)
theorem as_HO_amount (hC : CallFix p m c cc nL s args WALL own) (hG : GW D κ a u A s H locs) {i : Nat} {v : Int32} (hi : i < 20) (hd : decode cc pc = .ok (.iastore, 1)) (kk : ∀ (H1 : Heap) (locs1 : List Loc), GW D κ a (sAI u 2 i v) A s H1 locs1 → W p l e R s m args below meth c H1 locs1 cs ss Q (F0 m (pc + 1) ls rest)) : W p l e R s m args below meth c H locs cs ss Q (F0 m pc ls (.int v :: .int (nI i) :: .ref (a 32) :: rest)) :=
  va_iast hC.1 hC.2.1 hG.1 hG.2.1 hG.2.2.1 hG.2.2.2.1 32 0 rfl rfl (vp_in_nI hi (by decide)) hd (fun H1 locs1 h1 h2 h3 => by
    have e9 : (nI i).toNatClampNeg = i := nI_clamp (by omega)
    rw [e9, fnI (u.2.2.2.2.1 2) i v] at h1 h2
    exact kk H1 locs1 ⟨hG.1, h1, h2, h3, hG.2.2.2.2⟩)
theorem gf_HO_lastDay (hC : CallFix p m c cc nL s args WALL own) (hG : GW D κ a u A s H locs) (hl : (Cond.fieldLink own idx "Tollgate$Holds" "lastDay" "[I").before args s = true) (hd : decode cc pc = .ok (.getfield idx, 3)) (kk : W p l e R s m args below meth c H locs cs ss Q (F0 m (pc + 3) ls ((.ref (a 33)) :: rest))) : W p l e R s m args below meth c H locs cs ss Q (F0 m pc ls (.ref (a 6) :: rest)) :=
  va_get (D := D) (ci := 2) (C := RX2) (T := TX2) (N := 5) hC.1 hC.2.1 hC.2.2.2.2 iw2 hC.2.2.2.1 hG.1 hG.2.1 6 rfl rfl 2 (by decide) hl (fun _ h => h) rfl hd kk
theorem al_HO_lastDay (hC : CallFix p m c cc nL s args WALL own) (hG : GW D κ a u A s H locs) {i : Nat} (hi : i < 20) (hd : decode cc pc = .ok (.iaload, 1)) (kk : W p l e R s m args below meth c H locs cs ss Q (F0 m (pc + 1) ls (.int (nI (HO_lastDay u i)) :: rest))) : W p l e R s m args below meth c H locs cs ss Q (F0 m pc ls (.int (nI i) :: .ref (a 33) :: rest)) :=
  va_iald hC.1 hC.2.1 hG.1 hG.2.1 33 0 rfl rfl (vp_in_nI hi (by decide)) hd (by
    have e9 : (nI i).toNatClampNeg = i := nI_clamp (by omega)
    rw [e9]
    exact kk)
theorem as_HO_lastDay (hC : CallFix p m c cc nL s args WALL own) (hG : GW D κ a u A s H locs) {i : Nat} {v : Nat} (hi : i < 20) (hd : decode cc pc = .ok (.iastore, 1)) (kk : ∀ (H1 : Heap) (locs1 : List Loc), GW D κ a (sAN u 11 i v) A s H1 locs1 → W p l e R s m args below meth c H1 locs1 cs ss Q (F0 m (pc + 1) ls rest)) : W p l e R s m args below meth c H locs cs ss Q (F0 m pc ls (.int (nI v) :: .int (nI i) :: .ref (a 33) :: rest)) :=
  va_iast hC.1 hC.2.1 hG.1 hG.2.1 hG.2.2.1 hG.2.2.2.1 33 0 rfl rfl (vp_in_nI hi (by decide)) hd (fun H1 locs1 h1 h2 h3 => by
    have e9 : (nI i).toNatClampNeg = i := nI_clamp (by omega)
    rw [e9, fnN (u.2.2.2.1 11) i v] at h1 h2
    exact kk H1 locs1 ⟨hG.1, h1, h2, h3, hG.2.2.2.2⟩)
theorem gf_HO_isEnded (hC : CallFix p m c cc nL s args WALL own) (hG : GW D κ a u A s H locs) (hl : (Cond.fieldLink own idx "Tollgate$Holds" "isEnded" "[Z").before args s = true) (hd : decode cc pc = .ok (.getfield idx, 3)) (kk : W p l e R s m args below meth c H locs cs ss Q (F0 m (pc + 3) ls ((.ref (a 34)) :: rest))) : W p l e R s m args below meth c H locs cs ss Q (F0 m pc ls (.ref (a 6) :: rest)) :=
  va_get (D := D) (ci := 2) (C := RX2) (T := TX2) (N := 5) hC.1 hC.2.1 hC.2.2.2.2 iw2 hC.2.2.2.1 hG.1 hG.2.1 6 rfl rfl 3 (by decide) hl (fun _ h => h) rfl hd kk
theorem al_HO_isEnded (hC : CallFix p m c cc nL s args WALL own) (hG : GW D κ a u A s H locs) {i : Nat} (hi : i < 20) (hd : decode cc pc = .ok (.baload, 1)) (kk : W p l e R s m args below meth c H locs cs ss Q (F0 m (pc + 1) ls (.int (bI (HO_isEnded u i)) :: rest))) : W p l e R s m args below meth c H locs cs ss Q (F0 m pc ls (.int (nI i) :: .ref (a 34) :: rest)) :=
  va_zald hC.1 hC.2.1 hG.1 hG.2.1 34 2 rfl rfl (vp_in_nI hi (by decide)) hd (by
    have e9 : (nI i).toNatClampNeg = i := nI_clamp (by omega)
    rw [e9]
    exact kk)
theorem as_HO_isEnded (hC : CallFix p m c cc nL s args WALL own) (hG : GW D κ a u A s H locs) {i : Nat} {v : Bool} (hi : i < 20) (hd : decode cc pc = .ok (.bastore, 1)) (kk : ∀ (H1 : Heap) (locs1 : List Loc), GW D κ a (sAB u 3 i v) A s H1 locs1 → W p l e R s m args below meth c H1 locs1 cs ss Q (F0 m (pc + 1) ls rest)) : W p l e R s m args below meth c H locs cs ss Q (F0 m pc ls (.int (bI v) :: .int (nI i) :: .ref (a 34) :: rest)) :=
  va_zast hC.1 hC.2.1 hG.1 hG.2.1 hG.2.2.1 hG.2.2.2.1 34 2 rfl rfl (vp_in_nI hi (by decide)) hd (fun H1 locs1 h1 h2 h3 => by
    have e9 : (nI i).toNatClampNeg = i := nI_clamp (by omega)
    rw [e9, bI_v, fnB (u.2.2.2.2.2.1 3) i v] at h1 h2
    exact kk H1 locs1 ⟨hG.1, h1, h2, h3, hG.2.2.2.2⟩)
theorem gf_HO_count (hC : CallFix p m c cc nL s args WALL own) (hG : GW D κ a u A s H locs) (hl : (Cond.fieldLink own idx "Tollgate$Holds" "count" "I").before args s = true) (hd : decode cc pc = .ok (.getfield idx, 3)) (kk : W p l e R s m args below meth c H locs cs ss Q (F0 m (pc + 3) ls ((.int (nI (HO_count u))) :: rest))) : W p l e R s m args below meth c H locs cs ss Q (F0 m pc ls (.ref (a 6) :: rest)) :=
  va_get (D := D) (ci := 2) (C := RX2) (T := TX2) (N := 5) hC.1 hC.2.1 hC.2.2.2.2 iw2 hC.2.2.2.1 hG.1 hG.2.1 6 rfl rfl 4 (by decide) hl (fun _ h => h) rfl hd kk
theorem pf_HO_count (hC : CallFix p m c cc nL s args WALL own) (hG : GW D κ a u A s H locs) {v : Nat} (hl : (Cond.fieldLink own idx "Tollgate$Holds" "count" "I").before args s = true) (hd : decode cc pc = .ok (.putfield idx, 3)) (kk : ∀ (H1 : Heap) (locs1 : List Loc), GW D κ a (sN u 8 v) A s H1 locs1 → W p l e R s m args below meth c H1 locs1 cs ss Q (F0 m (pc + 3) ls rest)) : W p l e R s m args below meth c H locs cs ss Q (F0 m pc ls (.int (nI v) :: .ref (a 6) :: rest)) :=
  va_put (D := D) (ci := 2) (v := .int (nI v)) (ty := .int) (C := RX2) (T := TX2) (N := 5) hC.1 hC.2.1 hC.2.2.2.2 iw2 tyX2 tyX2_ok nmX2 hC.2.2.2.1 hG.1 hG.2.1 hG.2.2.1 hG.2.2.2.1 6 rfl rfl 4 (by decide) hl (fun _ h => h) rfl (by decide +kernel) rfl rfl (Nat.le_of_ble_eq_true rfl) hd (fun H1 locs1 h1 h2 h3 => kk H1 locs1 ⟨hG.1, h1, h2, h3, hG.2.2.2.2⟩)
theorem gf_LI_account (hC : CallFix p m c cc nL s args WALL own) (hG : GW D κ a u A s H locs) (hl : (Cond.fieldLink own idx "Tollgate$Lines" "account" "[I").before args s = true) (hd : decode cc pc = .ok (.getfield idx, 3)) (kk : W p l e R s m args below meth c H locs cs ss Q (F0 m (pc + 3) ls ((.ref (a 35)) :: rest))) : W p l e R s m args below meth c H locs cs ss Q (F0 m pc ls (.ref (a 7) :: rest)) :=
  va_get (D := D) (ci := 5) (C := RX5) (T := TX5) (N := 5) hC.1 hC.2.1 hC.2.2.2.2 iw5 hC.2.2.2.1 hG.1 hG.2.1 7 rfl rfl 0 (by decide) hl (fun _ h => h) rfl hd kk
theorem al_LI_account (hC : CallFix p m c cc nL s args WALL own) (hG : GW D κ a u A s H locs) {i : Nat} (hi : i < 40) (hd : decode cc pc = .ok (.iaload, 1)) (kk : W p l e R s m args below meth c H locs cs ss Q (F0 m (pc + 1) ls (.int (nI (LI_account u i)) :: rest))) : W p l e R s m args below meth c H locs cs ss Q (F0 m pc ls (.int (nI i) :: .ref (a 35) :: rest)) :=
  va_iald hC.1 hC.2.1 hG.1 hG.2.1 35 0 rfl rfl (vp_in_nI hi (by decide)) hd (by
    have e9 : (nI i).toNatClampNeg = i := nI_clamp (by omega)
    rw [e9]
    exact kk)
theorem as_LI_account (hC : CallFix p m c cc nL s args WALL own) (hG : GW D κ a u A s H locs) {i : Nat} {v : Nat} (hi : i < 40) (hd : decode cc pc = .ok (.iastore, 1)) (kk : ∀ (H1 : Heap) (locs1 : List Loc), GW D κ a (sAN u 12 i v) A s H1 locs1 → W p l e R s m args below meth c H1 locs1 cs ss Q (F0 m (pc + 1) ls rest)) : W p l e R s m args below meth c H locs cs ss Q (F0 m pc ls (.int (nI v) :: .int (nI i) :: .ref (a 35) :: rest)) :=
  va_iast hC.1 hC.2.1 hG.1 hG.2.1 hG.2.2.1 hG.2.2.2.1 35 0 rfl rfl (vp_in_nI hi (by decide)) hd (fun H1 locs1 h1 h2 h3 => by
    have e9 : (nI i).toNatClampNeg = i := nI_clamp (by omega)
    rw [e9, fnN (u.2.2.2.1 12) i v] at h1 h2
    exact kk H1 locs1 ⟨hG.1, h1, h2, h3, hG.2.2.2.2⟩)
theorem gf_LI_day (hC : CallFix p m c cc nL s args WALL own) (hG : GW D κ a u A s H locs) (hl : (Cond.fieldLink own idx "Tollgate$Lines" "day" "[I").before args s = true) (hd : decode cc pc = .ok (.getfield idx, 3)) (kk : W p l e R s m args below meth c H locs cs ss Q (F0 m (pc + 3) ls ((.ref (a 36)) :: rest))) : W p l e R s m args below meth c H locs cs ss Q (F0 m pc ls (.ref (a 7) :: rest)) :=
  va_get (D := D) (ci := 5) (C := RX5) (T := TX5) (N := 5) hC.1 hC.2.1 hC.2.2.2.2 iw5 hC.2.2.2.1 hG.1 hG.2.1 7 rfl rfl 1 (by decide) hl (fun _ h => h) rfl hd kk
theorem al_LI_day (hC : CallFix p m c cc nL s args WALL own) (hG : GW D κ a u A s H locs) {i : Nat} (hi : i < 40) (hd : decode cc pc = .ok (.iaload, 1)) (kk : W p l e R s m args below meth c H locs cs ss Q (F0 m (pc + 1) ls (.int (nI (LI_day u i)) :: rest))) : W p l e R s m args below meth c H locs cs ss Q (F0 m pc ls (.int (nI i) :: .ref (a 36) :: rest)) :=
  va_iald hC.1 hC.2.1 hG.1 hG.2.1 36 0 rfl rfl (vp_in_nI hi (by decide)) hd (by
    have e9 : (nI i).toNatClampNeg = i := nI_clamp (by omega)
    rw [e9]
    exact kk)
theorem as_LI_day (hC : CallFix p m c cc nL s args WALL own) (hG : GW D κ a u A s H locs) {i : Nat} {v : Nat} (hi : i < 40) (hd : decode cc pc = .ok (.iastore, 1)) (kk : ∀ (H1 : Heap) (locs1 : List Loc), GW D κ a (sAN u 13 i v) A s H1 locs1 → W p l e R s m args below meth c H1 locs1 cs ss Q (F0 m (pc + 1) ls rest)) : W p l e R s m args below meth c H locs cs ss Q (F0 m pc ls (.int (nI v) :: .int (nI i) :: .ref (a 36) :: rest)) :=
  va_iast hC.1 hC.2.1 hG.1 hG.2.1 hG.2.2.1 hG.2.2.2.1 36 0 rfl rfl (vp_in_nI hi (by decide)) hd (fun H1 locs1 h1 h2 h3 => by
    have e9 : (nI i).toNatClampNeg = i := nI_clamp (by omega)
    rw [e9, fnN (u.2.2.2.1 13) i v] at h1 h2
    exact kk H1 locs1 ⟨hG.1, h1, h2, h3, hG.2.2.2.2⟩)
theorem gf_LI_amount (hC : CallFix p m c cc nL s args WALL own) (hG : GW D κ a u A s H locs) (hl : (Cond.fieldLink own idx "Tollgate$Lines" "amount" "[I").before args s = true) (hd : decode cc pc = .ok (.getfield idx, 3)) (kk : W p l e R s m args below meth c H locs cs ss Q (F0 m (pc + 3) ls ((.ref (a 37)) :: rest))) : W p l e R s m args below meth c H locs cs ss Q (F0 m pc ls (.ref (a 7) :: rest)) :=
  va_get (D := D) (ci := 5) (C := RX5) (T := TX5) (N := 5) hC.1 hC.2.1 hC.2.2.2.2 iw5 hC.2.2.2.1 hG.1 hG.2.1 7 rfl rfl 2 (by decide) hl (fun _ h => h) rfl hd kk
theorem al_LI_amount (hC : CallFix p m c cc nL s args WALL own) (hG : GW D κ a u A s H locs) {i : Nat} (hi : i < 40) (hd : decode cc pc = .ok (.iaload, 1)) (kk : W p l e R s m args below meth c H locs cs ss Q (F0 m (pc + 1) ls (.int (LI_amount u i) :: rest))) : W p l e R s m args below meth c H locs cs ss Q (F0 m pc ls (.int (nI i) :: .ref (a 37) :: rest)) :=
  va_iald hC.1 hC.2.1 hG.1 hG.2.1 37 0 rfl rfl (vp_in_nI hi (by decide)) hd (by
    have e9 : (nI i).toNatClampNeg = i := nI_clamp (by omega)
    rw [e9]
    exact kk)
theorem as_LI_amount (hC : CallFix p m c cc nL s args WALL own) (hG : GW D κ a u A s H locs) {i : Nat} {v : Int32} (hi : i < 40) (hd : decode cc pc = .ok (.iastore, 1)) (kk : ∀ (H1 : Heap) (locs1 : List Loc), GW D κ a (sAI u 3 i v) A s H1 locs1 → W p l e R s m args below meth c H1 locs1 cs ss Q (F0 m (pc + 1) ls rest)) : W p l e R s m args below meth c H locs cs ss Q (F0 m pc ls (.int v :: .int (nI i) :: .ref (a 37) :: rest)) :=
  va_iast hC.1 hC.2.1 hG.1 hG.2.1 hG.2.2.1 hG.2.2.2.1 37 0 rfl rfl (vp_in_nI hi (by decide)) hd (fun H1 locs1 h1 h2 h3 => by
    have e9 : (nI i).toNatClampNeg = i := nI_clamp (by omega)
    rw [e9, fnI (u.2.2.2.2.1 3) i v] at h1 h2
    exact kk H1 locs1 ⟨hG.1, h1, h2, h3, hG.2.2.2.2⟩)
theorem gf_LI_byDay (hC : CallFix p m c cc nL s args WALL own) (hG : GW D κ a u A s H locs) (hl : (Cond.fieldLink own idx "Tollgate$Lines" "byDay" "[I").before args s = true) (hd : decode cc pc = .ok (.getfield idx, 3)) (kk : W p l e R s m args below meth c H locs cs ss Q (F0 m (pc + 3) ls ((.ref (a 38)) :: rest))) : W p l e R s m args below meth c H locs cs ss Q (F0 m pc ls (.ref (a 7) :: rest)) :=
  va_get (D := D) (ci := 5) (C := RX5) (T := TX5) (N := 5) hC.1 hC.2.1 hC.2.2.2.2 iw5 hC.2.2.2.1 hG.1 hG.2.1 7 rfl rfl 3 (by decide) hl (fun _ h => h) rfl hd kk
theorem al_LI_byDay (hC : CallFix p m c cc nL s args WALL own) (hG : GW D κ a u A s H locs) {i : Nat} (hi : i < 40) (hd : decode cc pc = .ok (.iaload, 1)) (kk : W p l e R s m args below meth c H locs cs ss Q (F0 m (pc + 1) ls (.int (nI (LI_byDay u i)) :: rest))) : W p l e R s m args below meth c H locs cs ss Q (F0 m pc ls (.int (nI i) :: .ref (a 38) :: rest)) :=
  va_iald hC.1 hC.2.1 hG.1 hG.2.1 38 0 rfl rfl (vp_in_nI hi (by decide)) hd (by
    have e9 : (nI i).toNatClampNeg = i := nI_clamp (by omega)
    rw [e9]
    exact kk)
theorem as_LI_byDay (hC : CallFix p m c cc nL s args WALL own) (hG : GW D κ a u A s H locs) {i : Nat} {v : Nat} (hi : i < 40) (hd : decode cc pc = .ok (.iastore, 1)) (kk : ∀ (H1 : Heap) (locs1 : List Loc), GW D κ a (sAN u 14 i v) A s H1 locs1 → W p l e R s m args below meth c H1 locs1 cs ss Q (F0 m (pc + 1) ls rest)) : W p l e R s m args below meth c H locs cs ss Q (F0 m pc ls (.int (nI v) :: .int (nI i) :: .ref (a 38) :: rest)) :=
  va_iast hC.1 hC.2.1 hG.1 hG.2.1 hG.2.2.1 hG.2.2.2.1 38 0 rfl rfl (vp_in_nI hi (by decide)) hd (fun H1 locs1 h1 h2 h3 => by
    have e9 : (nI i).toNatClampNeg = i := nI_clamp (by omega)
    rw [e9, fnN (u.2.2.2.1 14) i v] at h1 h2
    exact kk H1 locs1 ⟨hG.1, h1, h2, h3, hG.2.2.2.2⟩)
theorem gf_LI_count (hC : CallFix p m c cc nL s args WALL own) (hG : GW D κ a u A s H locs) (hl : (Cond.fieldLink own idx "Tollgate$Lines" "count" "I").before args s = true) (hd : decode cc pc = .ok (.getfield idx, 3)) (kk : W p l e R s m args below meth c H locs cs ss Q (F0 m (pc + 3) ls ((.int (nI (LI_count u))) :: rest))) : W p l e R s m args below meth c H locs cs ss Q (F0 m pc ls (.ref (a 7) :: rest)) :=
  va_get (D := D) (ci := 5) (C := RX5) (T := TX5) (N := 5) hC.1 hC.2.1 hC.2.2.2.2 iw5 hC.2.2.2.1 hG.1 hG.2.1 7 rfl rfl 4 (by decide) hl (fun _ h => h) rfl hd kk
theorem pf_LI_count (hC : CallFix p m c cc nL s args WALL own) (hG : GW D κ a u A s H locs) {v : Nat} (hl : (Cond.fieldLink own idx "Tollgate$Lines" "count" "I").before args s = true) (hd : decode cc pc = .ok (.putfield idx, 3)) (kk : ∀ (H1 : Heap) (locs1 : List Loc), GW D κ a (sN u 9 v) A s H1 locs1 → W p l e R s m args below meth c H1 locs1 cs ss Q (F0 m (pc + 3) ls rest)) : W p l e R s m args below meth c H locs cs ss Q (F0 m pc ls (.int (nI v) :: .ref (a 7) :: rest)) :=
  va_put (D := D) (ci := 5) (v := .int (nI v)) (ty := .int) (C := RX5) (T := TX5) (N := 5) hC.1 hC.2.1 hC.2.2.2.2 iw5 tyX5 tyX5_ok nmX5 hC.2.2.2.1 hG.1 hG.2.1 hG.2.2.1 hG.2.2.2.1 7 rfl rfl 4 (by decide) hl (fun _ h => h) rfl (by decide +kernel) rfl rfl (Nat.le_of_ble_eq_true rfl) hd (fun H1 locs1 h1 h2 h3 => kk H1 locs1 ⟨hG.1, h1, h2, h3, hG.2.2.2.2⟩)
theorem gf_M0_journal (hC : CallFix p m c cc nL s args WALL own) (hG : GW D κ a u A s H locs) (hl : (Cond.fieldLink own idx "Tollgate$Matching" "journal" "LTollgate$Journal;").before args s = true) (hd : decode cc pc = .ok (.getfield idx, 3)) (kk : W p l e R s m args below meth c H locs cs ss Q (F0 m (pc + 3) ls ((.ref (a 5)) :: rest))) : W p l e R s m args below meth c H locs cs ss Q (F0 m pc ls (.ref (a 8) :: rest)) :=
  va_get (D := D) (ci := 6) (C := RX6) (T := TX6) (N := 5) hC.1 hC.2.1 hC.2.2.2.2 iw6 hC.2.2.2.1 hG.1 hG.2.1 8 rfl rfl 0 (by decide) hl (fun _ h => h) rfl hd kk
theorem gf_M0_lines (hC : CallFix p m c cc nL s args WALL own) (hG : GW D κ a u A s H locs) (hl : (Cond.fieldLink own idx "Tollgate$Matching" "lines" "LTollgate$Lines;").before args s = true) (hd : decode cc pc = .ok (.getfield idx, 3)) (kk : W p l e R s m args below meth c H locs cs ss Q (F0 m (pc + 3) ls ((.ref (a 7)) :: rest))) : W p l e R s m args below meth c H locs cs ss Q (F0 m pc ls (.ref (a 8) :: rest)) :=
  va_get (D := D) (ci := 6) (C := RX6) (T := TX6) (N := 5) hC.1 hC.2.1 hC.2.2.2.2 iw6 hC.2.2.2.1 hG.1 hG.2.1 8 rfl rfl 1 (by decide) hl (fun _ h => h) rfl hd kk
theorem gf_M0_lineOfLeg (hC : CallFix p m c cc nL s args WALL own) (hG : GW D κ a u A s H locs) (hl : (Cond.fieldLink own idx "Tollgate$Matching" "lineOfLeg" "[I").before args s = true) (hd : decode cc pc = .ok (.getfield idx, 3)) (kk : W p l e R s m args below meth c H locs cs ss Q (F0 m (pc + 3) ls ((.ref (a 39)) :: rest))) : W p l e R s m args below meth c H locs cs ss Q (F0 m pc ls (.ref (a 8) :: rest)) :=
  va_get (D := D) (ci := 6) (C := RX6) (T := TX6) (N := 5) hC.1 hC.2.1 hC.2.2.2.2 iw6 hC.2.2.2.1 hG.1 hG.2.1 8 rfl rfl 2 (by decide) hl (fun _ h => h) rfl hd kk
theorem al_M0_lineOfLeg (hC : CallFix p m c cc nL s args WALL own) (hG : GW D κ a u A s H locs) {i : Nat} (hi : i < 600) (hd : decode cc pc = .ok (.iaload, 1)) (kk : W p l e R s m args below meth c H locs cs ss Q (F0 m (pc + 1) ls (.int (oI (M0_lineOfLeg u i)) :: rest))) : W p l e R s m args below meth c H locs cs ss Q (F0 m pc ls (.int (nI i) :: .ref (a 39) :: rest)) :=
  va_iald hC.1 hC.2.1 hG.1 hG.2.1 39 0 rfl rfl (vp_in_nI hi (by decide)) hd (by
    have e9 : (nI i).toNatClampNeg = i := nI_clamp (by omega)
    rw [e9]
    exact kk)
theorem as_M0_lineOfLeg (hC : CallFix p m c cc nL s args WALL own) (hG : GW D κ a u A s H locs) {i : Nat} {v : Option Nat} (hi : i < 600) (hd : decode cc pc = .ok (.iastore, 1)) (kk : ∀ (H1 : Heap) (locs1 : List Loc), GW D κ a (sAO u 0 i v) A s H1 locs1 → W p l e R s m args below meth c H1 locs1 cs ss Q (F0 m (pc + 1) ls rest)) : W p l e R s m args below meth c H locs cs ss Q (F0 m pc ls (.int (oI v) :: .int (nI i) :: .ref (a 39) :: rest)) :=
  va_iast hC.1 hC.2.1 hG.1 hG.2.1 hG.2.2.1 hG.2.2.2.1 39 0 rfl rfl (vp_in_nI hi (by decide)) hd (fun H1 locs1 h1 h2 h3 => by
    have e9 : (nI i).toNatClampNeg = i := nI_clamp (by omega)
    rw [e9, fnO (u.2.2.2.2.2.2.1 0) i v] at h1 h2
    exact kk H1 locs1 ⟨hG.1, h1, h2, h3, hG.2.2.2.2⟩)
theorem gf_M0_firstOfLine (hC : CallFix p m c cc nL s args WALL own) (hG : GW D κ a u A s H locs) (hl : (Cond.fieldLink own idx "Tollgate$Matching" "firstOfLine" "[I").before args s = true) (hd : decode cc pc = .ok (.getfield idx, 3)) (kk : W p l e R s m args below meth c H locs cs ss Q (F0 m (pc + 3) ls ((.ref (a 40)) :: rest))) : W p l e R s m args below meth c H locs cs ss Q (F0 m pc ls (.ref (a 8) :: rest)) :=
  va_get (D := D) (ci := 6) (C := RX6) (T := TX6) (N := 5) hC.1 hC.2.1 hC.2.2.2.2 iw6 hC.2.2.2.1 hG.1 hG.2.1 8 rfl rfl 3 (by decide) hl (fun _ h => h) rfl hd kk
theorem al_M0_firstOfLine (hC : CallFix p m c cc nL s args WALL own) (hG : GW D κ a u A s H locs) {i : Nat} (hi : i < 40) (hd : decode cc pc = .ok (.iaload, 1)) (kk : W p l e R s m args below meth c H locs cs ss Q (F0 m (pc + 1) ls (.int (oI (M0_firstOfLine u i)) :: rest))) : W p l e R s m args below meth c H locs cs ss Q (F0 m pc ls (.int (nI i) :: .ref (a 40) :: rest)) :=
  va_iald hC.1 hC.2.1 hG.1 hG.2.1 40 0 rfl rfl (vp_in_nI hi (by decide)) hd (by
    have e9 : (nI i).toNatClampNeg = i := nI_clamp (by omega)
    rw [e9]
    exact kk)
theorem as_M0_firstOfLine (hC : CallFix p m c cc nL s args WALL own) (hG : GW D κ a u A s H locs) {i : Nat} {v : Option Nat} (hi : i < 40) (hd : decode cc pc = .ok (.iastore, 1)) (kk : ∀ (H1 : Heap) (locs1 : List Loc), GW D κ a (sAO u 1 i v) A s H1 locs1 → W p l e R s m args below meth c H1 locs1 cs ss Q (F0 m (pc + 1) ls rest)) : W p l e R s m args below meth c H locs cs ss Q (F0 m pc ls (.int (oI v) :: .int (nI i) :: .ref (a 40) :: rest)) :=
  va_iast hC.1 hC.2.1 hG.1 hG.2.1 hG.2.2.1 hG.2.2.2.1 40 0 rfl rfl (vp_in_nI hi (by decide)) hd (fun H1 locs1 h1 h2 h3 => by
    have e9 : (nI i).toNatClampNeg = i := nI_clamp (by omega)
    rw [e9, fnO (u.2.2.2.2.2.2.1 1) i v] at h1 h2
    exact kk H1 locs1 ⟨hG.1, h1, h2, h3, hG.2.2.2.2⟩)
theorem gf_M0_secondOfLine (hC : CallFix p m c cc nL s args WALL own) (hG : GW D κ a u A s H locs) (hl : (Cond.fieldLink own idx "Tollgate$Matching" "secondOfLine" "[I").before args s = true) (hd : decode cc pc = .ok (.getfield idx, 3)) (kk : W p l e R s m args below meth c H locs cs ss Q (F0 m (pc + 3) ls ((.ref (a 41)) :: rest))) : W p l e R s m args below meth c H locs cs ss Q (F0 m pc ls (.ref (a 8) :: rest)) :=
  va_get (D := D) (ci := 6) (C := RX6) (T := TX6) (N := 5) hC.1 hC.2.1 hC.2.2.2.2 iw6 hC.2.2.2.1 hG.1 hG.2.1 8 rfl rfl 4 (by decide) hl (fun _ h => h) rfl hd kk
theorem al_M0_secondOfLine (hC : CallFix p m c cc nL s args WALL own) (hG : GW D κ a u A s H locs) {i : Nat} (hi : i < 40) (hd : decode cc pc = .ok (.iaload, 1)) (kk : W p l e R s m args below meth c H locs cs ss Q (F0 m (pc + 1) ls (.int (oI (M0_secondOfLine u i)) :: rest))) : W p l e R s m args below meth c H locs cs ss Q (F0 m pc ls (.int (nI i) :: .ref (a 41) :: rest)) :=
  va_iald hC.1 hC.2.1 hG.1 hG.2.1 41 0 rfl rfl (vp_in_nI hi (by decide)) hd (by
    have e9 : (nI i).toNatClampNeg = i := nI_clamp (by omega)
    rw [e9]
    exact kk)
theorem as_M0_secondOfLine (hC : CallFix p m c cc nL s args WALL own) (hG : GW D κ a u A s H locs) {i : Nat} {v : Option Nat} (hi : i < 40) (hd : decode cc pc = .ok (.iastore, 1)) (kk : ∀ (H1 : Heap) (locs1 : List Loc), GW D κ a (sAO u 2 i v) A s H1 locs1 → W p l e R s m args below meth c H1 locs1 cs ss Q (F0 m (pc + 1) ls rest)) : W p l e R s m args below meth c H locs cs ss Q (F0 m pc ls (.int (oI v) :: .int (nI i) :: .ref (a 41) :: rest)) :=
  va_iast hC.1 hC.2.1 hG.1 hG.2.1 hG.2.2.1 hG.2.2.2.1 41 0 rfl rfl (vp_in_nI hi (by decide)) hd (fun H1 locs1 h1 h2 h3 => by
    have e9 : (nI i).toNatClampNeg = i := nI_clamp (by omega)
    rw [e9, fnO (u.2.2.2.2.2.2.1 2) i v] at h1 h2
    exact kk H1 locs1 ⟨hG.1, h1, h2, h3, hG.2.2.2.2⟩)
theorem gf_M1_journal (hC : CallFix p m c cc nL s args WALL own) (hG : GW D κ a u A s H locs) (hl : (Cond.fieldLink own idx "Tollgate$Matching" "journal" "LTollgate$Journal;").before args s = true) (hd : decode cc pc = .ok (.getfield idx, 3)) (kk : W p l e R s m args below meth c H locs cs ss Q (F0 m (pc + 3) ls ((.ref (a 5)) :: rest))) : W p l e R s m args below meth c H locs cs ss Q (F0 m pc ls (.ref (a 9) :: rest)) :=
  va_get (D := D) (ci := 6) (C := RX6) (T := TX6) (N := 5) hC.1 hC.2.1 hC.2.2.2.2 iw6 hC.2.2.2.1 hG.1 hG.2.1 9 rfl rfl 0 (by decide) hl (fun _ h => h) rfl hd kk
theorem gf_M1_lines (hC : CallFix p m c cc nL s args WALL own) (hG : GW D κ a u A s H locs) (hl : (Cond.fieldLink own idx "Tollgate$Matching" "lines" "LTollgate$Lines;").before args s = true) (hd : decode cc pc = .ok (.getfield idx, 3)) (kk : W p l e R s m args below meth c H locs cs ss Q (F0 m (pc + 3) ls ((.ref (a 7)) :: rest))) : W p l e R s m args below meth c H locs cs ss Q (F0 m pc ls (.ref (a 9) :: rest)) :=
  va_get (D := D) (ci := 6) (C := RX6) (T := TX6) (N := 5) hC.1 hC.2.1 hC.2.2.2.2 iw6 hC.2.2.2.1 hG.1 hG.2.1 9 rfl rfl 1 (by decide) hl (fun _ h => h) rfl hd kk
theorem gf_M1_lineOfLeg (hC : CallFix p m c cc nL s args WALL own) (hG : GW D κ a u A s H locs) (hl : (Cond.fieldLink own idx "Tollgate$Matching" "lineOfLeg" "[I").before args s = true) (hd : decode cc pc = .ok (.getfield idx, 3)) (kk : W p l e R s m args below meth c H locs cs ss Q (F0 m (pc + 3) ls ((.ref (a 42)) :: rest))) : W p l e R s m args below meth c H locs cs ss Q (F0 m pc ls (.ref (a 9) :: rest)) :=
  va_get (D := D) (ci := 6) (C := RX6) (T := TX6) (N := 5) hC.1 hC.2.1 hC.2.2.2.2 iw6 hC.2.2.2.1 hG.1 hG.2.1 9 rfl rfl 2 (by decide) hl (fun _ h => h) rfl hd kk
theorem al_M1_lineOfLeg (hC : CallFix p m c cc nL s args WALL own) (hG : GW D κ a u A s H locs) {i : Nat} (hi : i < 600) (hd : decode cc pc = .ok (.iaload, 1)) (kk : W p l e R s m args below meth c H locs cs ss Q (F0 m (pc + 1) ls (.int (oI (M1_lineOfLeg u i)) :: rest))) : W p l e R s m args below meth c H locs cs ss Q (F0 m pc ls (.int (nI i) :: .ref (a 42) :: rest)) :=
  va_iald hC.1 hC.2.1 hG.1 hG.2.1 42 0 rfl rfl (vp_in_nI hi (by decide)) hd (by
    have e9 : (nI i).toNatClampNeg = i := nI_clamp (by omega)
    rw [e9]
    exact kk)
theorem as_M1_lineOfLeg (hC : CallFix p m c cc nL s args WALL own) (hG : GW D κ a u A s H locs) {i : Nat} {v : Option Nat} (hi : i < 600) (hd : decode cc pc = .ok (.iastore, 1)) (kk : ∀ (H1 : Heap) (locs1 : List Loc), GW D κ a (sAO u 3 i v) A s H1 locs1 → W p l e R s m args below meth c H1 locs1 cs ss Q (F0 m (pc + 1) ls rest)) : W p l e R s m args below meth c H locs cs ss Q (F0 m pc ls (.int (oI v) :: .int (nI i) :: .ref (a 42) :: rest)) :=
  va_iast hC.1 hC.2.1 hG.1 hG.2.1 hG.2.2.1 hG.2.2.2.1 42 0 rfl rfl (vp_in_nI hi (by decide)) hd (fun H1 locs1 h1 h2 h3 => by
    have e9 : (nI i).toNatClampNeg = i := nI_clamp (by omega)
    rw [e9, fnO (u.2.2.2.2.2.2.1 3) i v] at h1 h2
    exact kk H1 locs1 ⟨hG.1, h1, h2, h3, hG.2.2.2.2⟩)
theorem gf_M1_firstOfLine (hC : CallFix p m c cc nL s args WALL own) (hG : GW D κ a u A s H locs) (hl : (Cond.fieldLink own idx "Tollgate$Matching" "firstOfLine" "[I").before args s = true) (hd : decode cc pc = .ok (.getfield idx, 3)) (kk : W p l e R s m args below meth c H locs cs ss Q (F0 m (pc + 3) ls ((.ref (a 43)) :: rest))) : W p l e R s m args below meth c H locs cs ss Q (F0 m pc ls (.ref (a 9) :: rest)) :=
  va_get (D := D) (ci := 6) (C := RX6) (T := TX6) (N := 5) hC.1 hC.2.1 hC.2.2.2.2 iw6 hC.2.2.2.1 hG.1 hG.2.1 9 rfl rfl 3 (by decide) hl (fun _ h => h) rfl hd kk
theorem al_M1_firstOfLine (hC : CallFix p m c cc nL s args WALL own) (hG : GW D κ a u A s H locs) {i : Nat} (hi : i < 40) (hd : decode cc pc = .ok (.iaload, 1)) (kk : W p l e R s m args below meth c H locs cs ss Q (F0 m (pc + 1) ls (.int (oI (M1_firstOfLine u i)) :: rest))) : W p l e R s m args below meth c H locs cs ss Q (F0 m pc ls (.int (nI i) :: .ref (a 43) :: rest)) :=
  va_iald hC.1 hC.2.1 hG.1 hG.2.1 43 0 rfl rfl (vp_in_nI hi (by decide)) hd (by
    have e9 : (nI i).toNatClampNeg = i := nI_clamp (by omega)
    rw [e9]
    exact kk)
theorem as_M1_firstOfLine (hC : CallFix p m c cc nL s args WALL own) (hG : GW D κ a u A s H locs) {i : Nat} {v : Option Nat} (hi : i < 40) (hd : decode cc pc = .ok (.iastore, 1)) (kk : ∀ (H1 : Heap) (locs1 : List Loc), GW D κ a (sAO u 4 i v) A s H1 locs1 → W p l e R s m args below meth c H1 locs1 cs ss Q (F0 m (pc + 1) ls rest)) : W p l e R s m args below meth c H locs cs ss Q (F0 m pc ls (.int (oI v) :: .int (nI i) :: .ref (a 43) :: rest)) :=
  va_iast hC.1 hC.2.1 hG.1 hG.2.1 hG.2.2.1 hG.2.2.2.1 43 0 rfl rfl (vp_in_nI hi (by decide)) hd (fun H1 locs1 h1 h2 h3 => by
    have e9 : (nI i).toNatClampNeg = i := nI_clamp (by omega)
    rw [e9, fnO (u.2.2.2.2.2.2.1 4) i v] at h1 h2
    exact kk H1 locs1 ⟨hG.1, h1, h2, h3, hG.2.2.2.2⟩)
theorem gf_M1_secondOfLine (hC : CallFix p m c cc nL s args WALL own) (hG : GW D κ a u A s H locs) (hl : (Cond.fieldLink own idx "Tollgate$Matching" "secondOfLine" "[I").before args s = true) (hd : decode cc pc = .ok (.getfield idx, 3)) (kk : W p l e R s m args below meth c H locs cs ss Q (F0 m (pc + 3) ls ((.ref (a 44)) :: rest))) : W p l e R s m args below meth c H locs cs ss Q (F0 m pc ls (.ref (a 9) :: rest)) :=
  va_get (D := D) (ci := 6) (C := RX6) (T := TX6) (N := 5) hC.1 hC.2.1 hC.2.2.2.2 iw6 hC.2.2.2.1 hG.1 hG.2.1 9 rfl rfl 4 (by decide) hl (fun _ h => h) rfl hd kk
theorem al_M1_secondOfLine (hC : CallFix p m c cc nL s args WALL own) (hG : GW D κ a u A s H locs) {i : Nat} (hi : i < 40) (hd : decode cc pc = .ok (.iaload, 1)) (kk : W p l e R s m args below meth c H locs cs ss Q (F0 m (pc + 1) ls (.int (oI (M1_secondOfLine u i)) :: rest))) : W p l e R s m args below meth c H locs cs ss Q (F0 m pc ls (.int (nI i) :: .ref (a 44) :: rest)) :=
  va_iald hC.1 hC.2.1 hG.1 hG.2.1 44 0 rfl rfl (vp_in_nI hi (by decide)) hd (by
    have e9 : (nI i).toNatClampNeg = i := nI_clamp (by omega)
    rw [e9]
    exact kk)
theorem as_M1_secondOfLine (hC : CallFix p m c cc nL s args WALL own) (hG : GW D κ a u A s H locs) {i : Nat} {v : Option Nat} (hi : i < 40) (hd : decode cc pc = .ok (.iastore, 1)) (kk : ∀ (H1 : Heap) (locs1 : List Loc), GW D κ a (sAO u 5 i v) A s H1 locs1 → W p l e R s m args below meth c H1 locs1 cs ss Q (F0 m (pc + 1) ls rest)) : W p l e R s m args below meth c H locs cs ss Q (F0 m pc ls (.int (oI v) :: .int (nI i) :: .ref (a 44) :: rest)) :=
  va_iast hC.1 hC.2.1 hG.1 hG.2.1 hG.2.2.1 hG.2.2.2.1 44 0 rfl rfl (vp_in_nI hi (by decide)) hd (fun H1 locs1 h1 h2 h3 => by
    have e9 : (nI i).toNatClampNeg = i := nI_clamp (by omega)
    rw [e9, fnO (u.2.2.2.2.2.2.1 5) i v] at h1 h2
    exact kk H1 locs1 ⟨hG.1, h1, h2, h3, hG.2.2.2.2⟩)
end Rows
end
section
/-! METHODS: contracts over the world; their starts, ends and calls -/
/-- a contract: words: its own code, and the list of all -/
def TM (l : Launch) (y : MethodName) (bytes : ByteArray) (maxL : Nat) (ret : Option FieldType) (fr lo : Nat) (D : va_G) (κ : ClassId × ClassId × ClassId) (a : Nat → Nat) (u : TS) (sz : Nat) (av : List Value) (Qc : Array Value → State → Outcome → State → Prop) : Prop :=
  Met l y (.code y bytes maxL ret :: WALL) { frames := fr, cells := 0, slots := 0, locals := lo } (va_Pc av (fun U => U.heap.size = sz ∧ CW D κ a u U)) Qc 0 0 (AA a sz)
abbrev QI (D : va_G) (κ : ClassId × ClassId × ClassId) (a : Nat → Nat) (sz : Nat) (post : Int32 → TS → Prop) : Array Value → State → Outcome → State → Prop := va_Qi post (fun u' t => CW D κ a u' t) (AA a sz)
abbrev QL (D : va_G) (κ : ClassId × ClassId × ClassId) (a : Nat → Nat) (sz : Nat) (post : Int64 → TS → Prop) : Array Value → State → Outcome → State → Prop := va_Ql post (fun u' t => CW D κ a u' t) (AA a sz)
abbrev QV (D : va_G) (κ : ClassId × ClassId × ClassId) (a : Nat → Nat) (sz : Nat) (post : TS → Prop) : Array Value → State → Outcome → State → Prop := va_Qv post (fun u' t => CW D κ a u' t) (AA a sz)
theorem GW.sub {D : va_G} {κ : ClassId × ClassId × ClassId} {a : Nat → Nat} {u : TS} {A : Nat → Prop} {s : State} {H : Heap} {locs : List Loc} (h : GW D κ a u A s H locs) : (∀ q, q < H.size → AA a H.size q → A q) ∧ ∀ q, AA a H.size q → A q := ⟨fun q _ hq => AA.of h q hq, fun q hq => AA.of h q hq⟩
section Start
variable {p : Program} {l : Launch} {e : Env} {s : State} {m : MethodId} {below : List Frame} {meth : Method} {c : Code} {D : va_G} {κ : ClassId × ClassId × ClassId} {a : Nat → Nat} {u : TS} {sz : Nat}
theorem TM.of {y : MethodName} {bytes : ByteArray} {maxL : Nat} {ret : Option FieldType} {fr lo : Nat} {av : List Value} {Qc : Array Value → State → Outcome → State → Prop} (hy : plainName y.cls = true) (hL : (lg_sl av).length ≤ maxL)
    (body : ∀ (p : Program) (e : Env) (s : State) (m : MethodId) (below : List Frame) (meth : Method) (c : Code) (ls : Array Slot), CallFix p m c bytes maxL s av.toArray WALL y.cls → meth.sig.returnType = ret → meth.locks = false → s.heap.size = sz → ∀ (H : Heap) (locs : List Loc), GW D κ a u (AA a sz) s H locs → lv_has ls maxL (lv_args 0 av) →
      W p l e { frames := fr, cells := 0, slots := 0, locals := lo } s m av.toArray below meth c H locs 0 0 (MQ below Qc av.toArray s 0 0 (AA a sz)) (F0 m 0 ls [])) : TM l y bytes maxL ret fr lo D κ a u sz av Qc := by
  refine Met.ofW (cc := bytes) (maxL := maxL) (ret := ret) hy rfl ?_
  intro p e s m args below meth c s₁ B hml hv
  obtain ⟨rfl, hsz, hW⟩ := hv
  have hC : CallFix p m c bytes maxL s av.toArray WALL y.cls := ⟨B.exec, B.bytes, hml, findClass_of_methodNamed B.named, fun w h => atoms_spec (ws := .code y bytes maxL ret :: WALL) B.pre w (List.mem_cons_of_mem _ h)⟩
  rw [lg_entry_eq]
  exact body p e s m below meth c _ hC B.returns B.notSynchronized hsz _ _ (by rw [← hsz]; exact GW.start hW) (lv_entry av hL)
variable {A : Nat → Prop} {args : Array Value} {H : Heap} {locs : List Loc} {cc : ByteArray} {nL : Nat} {own : String} {pc : Nat} {ls : Array Slot} {R : Room} {u' : TS}
theorem te_i {v : Int32} {post : Int32 → TS → Prop} (hC : CallFix p m c cc nL s args WALL own) (hG : GW D κ a u' (AA a sz) s H locs) (hr : meth.sig.returnType = some .int) (hk : meth.locks = false) (hq : post v u') (hd : decode cc pc = .ok (.ireturn, 1)) :
    W p l e R s m args below meth c H locs 0 0 (MQ below (QI D κ a sz post) args s 0 0 (AA a sz)) (F0 m pc ls [.int v]) :=
  W.iret (v := v) hC.1 hC.2.1 hr (fun t ht hW => ⟨⟨v, u', rfl, hq, CW.of hG ht hW.alike⟩, hG.2.2.2.1.F ht⟩) hG.2.2.2.1.2.2 hd hk
theorem te_z {v : Bool} {post : Int32 → TS → Prop} (hC : CallFix p m c cc nL s args WALL own) (hG : GW D κ a u' (AA a sz) s H locs) (hr : meth.sig.returnType = some .boolean) (hk : meth.locks = false) (hq : post (bI v) u') (hd : decode cc pc = .ok (.ireturn, 1)) :
    W p l e R s m args below meth c H locs 0 0 (MQ below (QI D κ a sz post) args s 0 0 (AA a sz)) (F0 m pc ls [.int (bI v)]) :=
  W.zret (v := bI v) hC.1 hC.2.1 hr (bI_n v) (fun t ht hW => ⟨⟨bI v, u', rfl, hq, CW.of hG ht hW.alike⟩, hG.2.2.2.1.F ht⟩) hG.2.2.2.1.2.2 hd hk
theorem te_l {v : Int64} {post : Int64 → TS → Prop} (hC : CallFix p m c cc nL s args WALL own) (hG : GW D κ a u' (AA a sz) s H locs) (hr : meth.sig.returnType = some .long) (hk : meth.locks = false) (hq : post v u') (hd : decode cc pc = .ok (.lreturn, 1)) :
    W p l e R s m args below meth c H locs 0 0 (MQ below (QL D κ a sz post) args s 0 0 (AA a sz)) (F0 m pc ls [.long v]) :=
  W.lret (v := v) hC.1 hC.2.1 hr (fun t ht hW => ⟨⟨v, u', rfl, hq, CW.of hG ht hW.alike⟩, hG.2.2.2.1.F ht⟩) hG.2.2.2.1.2.2 hd hk
theorem te_v {post : TS → Prop} (hC : CallFix p m c cc nL s args WALL own) (hG : GW D κ a u' (AA a sz) s H locs) (hr : meth.sig.returnType = none) (hk : meth.locks = false) (hq : post u') (hd : decode cc pc = .ok (.return_, 1)) :
    W p l e R s m args below meth c H locs 0 0 (MQ below (QV D κ a sz post) args s 0 0 (AA a sz)) (F0 m pc ls []) :=
  W.vret hC.1 hC.2.1 hr (fun t ht hW => ⟨⟨u', rfl, hq, CW.of hG ht hW.alike⟩, hG.2.2.2.1.F ht⟩) hG.2.2.2.1.2.2 hd hk
end Start
section Call
variable {p : Program} {l : Launch} {e : Env} {R : Room} {s : State} {m : MethodId} {args : Array Value} {below : List Frame} {meth : Method} {c : Code} {H : Heap} {locs : List Loc} {cs ss : Nat} {Q : State → Prop} {cc : ByteArray} {nL pc : Nat} {ls : Array Slot} {rest st0 : List Value} {own : String} {idx : Nat} {D : va_G} {κ : ClassId × ClassId × ClassId} {a : Nat → Nat} {u : TS} {A : Nat → Prop}
  {y : MethodName} {bytes : ByteArray} {maxL : Nat} {ret : Option FieldType} {fr lo : Nat} {As : List Value} {b : Nat}
/-- what a call's callee needs of the words -/
theorem tw_B (hC : CallFix p m c cc nL s args WALL own) (n : Nat) (wl : Cond.methodLink own idx y ∈ WALL) (wn : Cond.initialized y.cls ∈ WALL) (wc : Cond.code y bytes maxL ret ∈ WALL)
    (hd : y.cls ≠ "java/lang/invoke/MethodHandle" ∧ y.cls ≠ "java/lang/invoke/VarHandle" ∧ (parseMethodDescriptor y.desc).map (fun d => d.parameters.length) = some n) (hR : fr + 1 ≤ R.frames ∧ 8 + (maxL + 11) + lo ≤ R.locals) :
    CallB R s args own idx y bytes maxL ret (.code y bytes maxL ret :: WALL) { frames := fr, cells := 0, slots := 0, locals := lo } 0 0 n :=
  callB_of (Ts := WALL) n hC.2.2.2.2 (fun w h => by
    rcases List.mem_cons.mp h with rfl | h
    · exact wl_in _ wc
    · exact wl_in _ h) rfl rfl rfl (hC.2.2.2.2 _ wn) (hC.2.2.2.2 _ wl) hd hR
theorem tp_V {k ci : Nat} {fs : List Value} {q : vw_C} (hG : GW D κ a u A s H locs) (hb : (cells κ a u)[k]? = some (b, .inr (ci, fs))) (hcl : vwCl[ci]? = some q) :
    PreV s H q.1 b (va_Pc (.ref b :: As) (fun U => U.heap.size = H.size ∧ CW D κ a u U)) As :=
  ⟨CW.blind, va_recv hG.1 hG.2.1 hcl hb, fun U hU hW => ⟨rfl, by rw [hU], va_K.moved hW.alike hG.1, by rw [hU]; exact hG.2.1, hG.2.2.1.weaken (fun _ _ _ _ => trivial)⟩⟩
theorem tp_S (hG : GW D κ a u A s H locs) : PreS s H (va_Pc As (fun U => U.heap.size = H.size ∧ CW D κ a u U)) As :=
  ⟨CW.blind, fun U hU hW => ⟨rfl, by rw [hU], va_K.moved hW.alike hG.1, by rw [hU]; exact hG.2.1, hG.2.2.1.weaken (fun _ _ _ _ => trivial)⟩⟩
/-- a virtual call's run -/
theorem tr_V {k ci n : Nat} {fs : List Value} {q : vw_C} {Qc : Array Value → State → Outcome → State → Prop} (hC : CallFix p m c cc nL s args WALL own) (hG : GW D κ a u A s H locs) (hM : TM l y bytes maxL ret fr lo D κ a u H.size (.ref b :: As) Qc)
    (hb : (cells κ a u)[k]? = some (b, .inr (ci, fs))) (hcl : vwCl[ci]? = some q)
    (wl : Cond.methodLink own idx y ∈ WALL) (wn : Cond.initialized y.cls ∈ WALL) (wc : Cond.code y bytes maxL ret ∈ WALL) (wi : Cond.instanceMethod y ∈ WALL) (ws : Cond.selects q.1 y y ∈ WALL)
    (hd : y.cls ≠ "java/lang/invoke/MethodHandle" ∧ y.cls ≠ "java/lang/invoke/VarHandle" ∧ (parseMethodDescriptor y.desc).map (fun d => d.parameters.length) = some n) (hR : fr + 1 ≤ R.frames ∧ 8 + (maxL + 11) + lo ≤ R.locals)
    (hn : As.length = n) (hls : ls.size = nL) (hst : st0 = As.reverse ++ .ref b :: rest) (h8 : (rest.map fun v => v.category).sum ≤ 8) (hdg : decode cc pc = .ok (.invokevirtual idx, 3)) (hcs : cs ≤ R.cells ∧ ss ≤ R.slots) :
    va_Run p l e R s m args below meth c H locs cs ss 0 0 (F0 m pc ls st0) rest (Qc (Value.ref b :: As).toArray) (AA a H.size) :=
  va_runV (As := As) (rest := rest) hC hM ⟨tw_B hC n wl wn wc hd hR, hC.2.2.2.2 _ wi, hC.2.2.2.2 _ ws⟩ (tp_V hG hb hcl) rfl hn hls hst (lv_room h8) hdg hcs
theorem tr_S {n : Nat} {Qc : Array Value → State → Outcome → State → Prop} (hC : CallFix p m c cc nL s args WALL own) (hG : GW D κ a u A s H locs) (hM : TM l y bytes maxL ret fr lo D κ a u H.size As Qc)
    (wl : Cond.methodLink own idx y ∈ WALL) (wn : Cond.initialized y.cls ∈ WALL) (wc : Cond.code y bytes maxL ret ∈ WALL) (wi : Cond.static y ∈ WALL)
    (hd : y.cls ≠ "java/lang/invoke/MethodHandle" ∧ y.cls ≠ "java/lang/invoke/VarHandle" ∧ (parseMethodDescriptor y.desc).map (fun d => d.parameters.length) = some n) (hR : fr + 1 ≤ R.frames ∧ 8 + (maxL + 11) + lo ≤ R.locals)
    (hn : As.length = n) (hls : ls.size = nL) (hst : st0 = As.reverse ++ rest) (h8 : (rest.map fun v => v.category).sum ≤ 8) (hdg : decode cc pc = .ok (.invokestatic idx, 3)) (hcs : cs ≤ R.cells ∧ ss ≤ R.slots) :
    va_Run p l e R s m args below meth c H locs cs ss 0 0 (F0 m pc ls st0) rest (Qc As.toArray) (AA a H.size) :=
  va_runS (As := As) (rest := rest) hC hM ⟨tw_B hC n wl wn wc hd hR, hC.2.2.2.2 _ wi⟩ (tp_S hG) rfl hn hls hst (lv_room h8) hdg hcs
theorem tc_i {av : Array Value} {post : Int32 → TS → Prop} (hG : GW D κ a u A s H locs) (hr : va_Run p l e R s m args below meth c H locs cs ss 0 0 (F0 m pc ls st0) rest (QI D κ a H.size post av) (AA a H.size))
    (kk : ∀ (r : Int32) (u' : TS) (H1 : Heap) (locs1 : List Loc), post r u' → GW D κ a u' A s H1 locs1 → W p l e R s m args below meth c H1 locs1 cs ss Q (F0 m (pc + 3) ls (.int r :: rest))) : W p l e R s m args below meth c H locs cs ss Q (F0 m pc ls st0) :=
  va_calli hr hG.2.2.2.1 hG.sub.1 hG.sub.2 (fun r u' t H1 locs1 ht hvm hw hB _ _ hS => kk r u' H1 locs1 hw (hG.back hB ht hvm hS))
theorem tc_l {av : Array Value} {post : Int64 → TS → Prop} (hG : GW D κ a u A s H locs) (hr : va_Run p l e R s m args below meth c H locs cs ss 0 0 (F0 m pc ls st0) rest (QL D κ a H.size post av) (AA a H.size))
    (kk : ∀ (r : Int64) (u' : TS) (H1 : Heap) (locs1 : List Loc), post r u' → GW D κ a u' A s H1 locs1 → W p l e R s m args below meth c H1 locs1 cs ss Q (F0 m (pc + 3) ls (.long r :: rest))) : W p l e R s m args below meth c H locs cs ss Q (F0 m pc ls st0) :=
  va_calll hr hG.2.2.2.1 hG.sub.1 hG.sub.2 (fun r u' t H1 locs1 ht hvm hw hB _ _ hS => kk r u' H1 locs1 hw (hG.back hB ht hvm hS))
theorem tc_v {av : Array Value} {post : TS → Prop} (hG : GW D κ a u A s H locs) (hr : va_Run p l e R s m args below meth c H locs cs ss 0 0 (F0 m pc ls st0) rest (QV D κ a H.size post av) (AA a H.size))
    (kk : ∀ (u' : TS) (H1 : Heap) (locs1 : List Loc), post u' → GW D κ a u' A s H1 locs1 → W p l e R s m args below meth c H1 locs1 cs ss Q (F0 m (pc + 3) ls rest)) : W p l e R s m args below meth c H locs cs ss Q (F0 m pc ls st0) :=
  va_callv hr hG.2.2.2.1 hG.sub.1 hG.sub.2 (fun u' t H1 locs1 ht hvm hw hB _ _ hS => kk u' H1 locs1 hw (hG.back hB ht hvm hS))
end Call
end
section
/-! BRANCHES AND ARITHMETIC over numbers (nI), truths (bI), places (oI) -/
theorem oI_m1 {x : Option Nat} (h : ∀ j, x = some j → j < 2 ^ 31) : oI x = -1 ↔ x = none := by
  cases x with
  | none => exact ⟨fun _ => rfl, fun _ => rfl⟩
  | some j =>
    refine ⟨fun e => ?_, fun e => by cases e⟩
    have h1 : nI j = -1 := e
    have h2 := nI_toInt (h j rfl)
    rw [h1] at h2
    have h3 : (-1 : Int32).toInt = -1 := by decide
    omega
theorem oI_le {d : Nat} {x : Option Nat} (hd : d < 2 ^ 31) (h : ∀ j, x = some j → j < 2 ^ 31) : nI d ≤ oI x ↔ ∃ j, x = some j ∧ d ≤ j := by
  cases x with
  | none =>
    refine ⟨fun e => ?_, fun ⟨j, e, _⟩ => by cases e⟩
    have h1 : nI d ≤ -1 := e
    have h2 := Int32.le_iff_toInt_le.mp h1
    rw [nI_toInt hd, show (-1 : Int32).toInt = -1 by decide] at h2
    omega
  | some j =>
    show nI d ≤ nI j ↔ _
    rw [nI_leI hd (h j rfl)]
    exact ⟨fun e => ⟨j, rfl, e⟩, fun ⟨k, e, f⟩ => by cases e; exact f⟩
theorem nI_m1 {x : Nat} (h : 0 < x) : nI x + Int32.ofInt (-1) = nI (x - 1) := by
  obtain ⟨y, rfl⟩ : ∃ y, x = y + 1 := ⟨x - 1, by omega⟩
  show nI (y + 1) + (-1) = nI (y + 1 - 1)
  rw [Nat.add_sub_cancel]
  exact pk_m1 y
theorem nI_x0 {x : Nat} (h : x < 2 ^ 31) : nI x = 0 ↔ x = 0 := by
  rw [← nI_0]
  exact nI_eq h (by decide)
section Ops
variable {p : Program} {l : Launch} {e : Env} {R : Room} {s : State} {m : MethodId} {args : Array Value} {below : List Frame} {meth : Method} {c : Code} {H : Heap} {locs : List Loc} {cs ss : Nat} {Q : State → Prop} {cc : ByteArray} {pc : Nat} {ls : Array Slot} {rest : List Value}
theorem bn_eq (hx : p.tables.exec = Jvm.exec) (hb : c.code = cc) {x y : Nat} (hX : x < 2 ^ 31) (hY : y < 2 ^ 31) {off : Int} {tgt : Nat} (hd : decode cc pc = .ok (.if_icmp .eq off, 3)) (ht : (pc : Int) + off = (tgt : Int)) (kt : x = y → W p l e R s m args below meth c H locs cs ss Q (F0 m tgt ls rest)) (kf : x ≠ y → W p l e R s m args below meth c H locs cs ss Q (F0 m (pc + 3) ls rest)) : W p l e R s m args below meth c H locs cs ss Q (F0 m pc ls (.int (nI y) :: .int (nI x) :: rest)) :=
  lv_icmp_eq hx hb hd ht (fun h => kt ((nI_eq hX hY).mp h)) (fun h => kf (fun q => h ((nI_eq hX hY).mpr q)))
theorem bn_eq_t (hx : p.tables.exec = Jvm.exec) (hb : c.code = cc) {x y : Nat} (hX : x < 2 ^ 31) (hY : y < 2 ^ 31) {off : Int} {tgt : Nat} (hd : decode cc pc = .ok (.if_icmp .eq off, 3)) (ht : (pc : Int) + off = (tgt : Int)) (hh : x = y) (kt : W p l e R s m args below meth c H locs cs ss Q (F0 m tgt ls rest)) : W p l e R s m args below meth c H locs cs ss Q (F0 m pc ls (.int (nI y) :: .int (nI x) :: rest)) :=
  bn_eq hx hb hX hY hd ht (fun _ => kt) (fun h => absurd hh (by omega))
theorem bn_eq_f (hx : p.tables.exec = Jvm.exec) (hb : c.code = cc) {x y : Nat} (hX : x < 2 ^ 31) (hY : y < 2 ^ 31) {off : Int} {tgt : Nat} (hd : decode cc pc = .ok (.if_icmp .eq off, 3)) (ht : (pc : Int) + off = (tgt : Int)) (hh : x ≠ y) (kf : W p l e R s m args below meth c H locs cs ss Q (F0 m (pc + 3) ls rest)) : W p l e R s m args below meth c H locs cs ss Q (F0 m pc ls (.int (nI y) :: .int (nI x) :: rest)) :=
  bn_eq hx hb hX hY hd ht (fun h => absurd hh (by omega)) (fun _ => kf)
theorem bn_ne (hx : p.tables.exec = Jvm.exec) (hb : c.code = cc) {x y : Nat} (hX : x < 2 ^ 31) (hY : y < 2 ^ 31) {off : Int} {tgt : Nat} (hd : decode cc pc = .ok (.if_icmp .ne off, 3)) (ht : (pc : Int) + off = (tgt : Int)) (kt : x ≠ y → W p l e R s m args below meth c H locs cs ss Q (F0 m tgt ls rest)) (kf : x = y → W p l e R s m args below meth c H locs cs ss Q (F0 m (pc + 3) ls rest)) : W p l e R s m args below meth c H locs cs ss Q (F0 m pc ls (.int (nI y) :: .int (nI x) :: rest)) :=
  lv_icmp_ne hx hb hd ht (fun h => kt (fun q => h ((nI_eq hX hY).mpr q))) (fun h => kf ((nI_eq hX hY).mp h))
theorem bn_ne_t (hx : p.tables.exec = Jvm.exec) (hb : c.code = cc) {x y : Nat} (hX : x < 2 ^ 31) (hY : y < 2 ^ 31) {off : Int} {tgt : Nat} (hd : decode cc pc = .ok (.if_icmp .ne off, 3)) (ht : (pc : Int) + off = (tgt : Int)) (hh : x ≠ y) (kt : W p l e R s m args below meth c H locs cs ss Q (F0 m tgt ls rest)) : W p l e R s m args below meth c H locs cs ss Q (F0 m pc ls (.int (nI y) :: .int (nI x) :: rest)) :=
  bn_ne hx hb hX hY hd ht (fun _ => kt) (fun h => absurd hh (by omega))
theorem bn_ne_f (hx : p.tables.exec = Jvm.exec) (hb : c.code = cc) {x y : Nat} (hX : x < 2 ^ 31) (hY : y < 2 ^ 31) {off : Int} {tgt : Nat} (hd : decode cc pc = .ok (.if_icmp .ne off, 3)) (ht : (pc : Int) + off = (tgt : Int)) (hh : x = y) (kf : W p l e R s m args below meth c H locs cs ss Q (F0 m (pc + 3) ls rest)) : W p l e R s m args below meth c H locs cs ss Q (F0 m pc ls (.int (nI y) :: .int (nI x) :: rest)) :=
  bn_ne hx hb hX hY hd ht (fun h => absurd hh (by omega)) (fun _ => kf)
theorem bn_lt (hx : p.tables.exec = Jvm.exec) (hb : c.code = cc) {x y : Nat} (hX : x < 2 ^ 31) (hY : y < 2 ^ 31) {off : Int} {tgt : Nat} (hd : decode cc pc = .ok (.if_icmp .lt off, 3)) (ht : (pc : Int) + off = (tgt : Int)) (kt : x < y → W p l e R s m args below meth c H locs cs ss Q (F0 m tgt ls rest)) (kf : y ≤ x → W p l e R s m args below meth c H locs cs ss Q (F0 m (pc + 3) ls rest)) : W p l e R s m args below meth c H locs cs ss Q (F0 m pc ls (.int (nI y) :: .int (nI x) :: rest)) :=
  lv_icmp_lt hx hb hd ht (fun h => kt ((nI_ltI hX hY).mp h)) (fun h => kf (by have q := mt (nI_ltI hX hY).mpr h; omega))
theorem bn_lt_t (hx : p.tables.exec = Jvm.exec) (hb : c.code = cc) {x y : Nat} (hX : x < 2 ^ 31) (hY : y < 2 ^ 31) {off : Int} {tgt : Nat} (hd : decode cc pc = .ok (.if_icmp .lt off, 3)) (ht : (pc : Int) + off = (tgt : Int)) (hh : x < y) (kt : W p l e R s m args below meth c H locs cs ss Q (F0 m tgt ls rest)) : W p l e R s m args below meth c H locs cs ss Q (F0 m pc ls (.int (nI y) :: .int (nI x) :: rest)) :=
  bn_lt hx hb hX hY hd ht (fun _ => kt) (fun h => absurd hh (by omega))
theorem bn_lt_f (hx : p.tables.exec = Jvm.exec) (hb : c.code = cc) {x y : Nat} (hX : x < 2 ^ 31) (hY : y < 2 ^ 31) {off : Int} {tgt : Nat} (hd : decode cc pc = .ok (.if_icmp .lt off, 3)) (ht : (pc : Int) + off = (tgt : Int)) (hh : y ≤ x) (kf : W p l e R s m args below meth c H locs cs ss Q (F0 m (pc + 3) ls rest)) : W p l e R s m args below meth c H locs cs ss Q (F0 m pc ls (.int (nI y) :: .int (nI x) :: rest)) :=
  bn_lt hx hb hX hY hd ht (fun h => absurd hh (by omega)) (fun _ => kf)
theorem bn_ge (hx : p.tables.exec = Jvm.exec) (hb : c.code = cc) {x y : Nat} (hX : x < 2 ^ 31) (hY : y < 2 ^ 31) {off : Int} {tgt : Nat} (hd : decode cc pc = .ok (.if_icmp .ge off, 3)) (ht : (pc : Int) + off = (tgt : Int)) (kt : y ≤ x → W p l e R s m args below meth c H locs cs ss Q (F0 m tgt ls rest)) (kf : x < y → W p l e R s m args below meth c H locs cs ss Q (F0 m (pc + 3) ls rest)) : W p l e R s m args below meth c H locs cs ss Q (F0 m pc ls (.int (nI y) :: .int (nI x) :: rest)) :=
  lv_icmp_ge hx hb hd ht (fun h => kt ((nI_leI hY hX).mp h)) (fun h => kf (by have q := mt (nI_leI hY hX).mpr h; omega))
theorem bn_ge_t (hx : p.tables.exec = Jvm.exec) (hb : c.code = cc) {x y : Nat} (hX : x < 2 ^ 31) (hY : y < 2 ^ 31) {off : Int} {tgt : Nat} (hd : decode cc pc = .ok (.if_icmp .ge off, 3)) (ht : (pc : Int) + off = (tgt : Int)) (hh : y ≤ x) (kt : W p l e R s m args below meth c H locs cs ss Q (F0 m tgt ls rest)) : W p l e R s m args below meth c H locs cs ss Q (F0 m pc ls (.int (nI y) :: .int (nI x) :: rest)) :=
  bn_ge hx hb hX hY hd ht (fun _ => kt) (fun h => absurd hh (by omega))
theorem bn_ge_f (hx : p.tables.exec = Jvm.exec) (hb : c.code = cc) {x y : Nat} (hX : x < 2 ^ 31) (hY : y < 2 ^ 31) {off : Int} {tgt : Nat} (hd : decode cc pc = .ok (.if_icmp .ge off, 3)) (ht : (pc : Int) + off = (tgt : Int)) (hh : x < y) (kf : W p l e R s m args below meth c H locs cs ss Q (F0 m (pc + 3) ls rest)) : W p l e R s m args below meth c H locs cs ss Q (F0 m pc ls (.int (nI y) :: .int (nI x) :: rest)) :=
  bn_ge hx hb hX hY hd ht (fun h => absurd hh (by omega)) (fun _ => kf)
theorem bn_gt (hx : p.tables.exec = Jvm.exec) (hb : c.code = cc) {x y : Nat} (hX : x < 2 ^ 31) (hY : y < 2 ^ 31) {off : Int} {tgt : Nat} (hd : decode cc pc = .ok (.if_icmp .gt off, 3)) (ht : (pc : Int) + off = (tgt : Int)) (kt : y < x → W p l e R s m args below meth c H locs cs ss Q (F0 m tgt ls rest)) (kf : x ≤ y → W p l e R s m args below meth c H locs cs ss Q (F0 m (pc + 3) ls rest)) : W p l e R s m args below meth c H locs cs ss Q (F0 m pc ls (.int (nI y) :: .int (nI x) :: rest)) :=
  lv_icmp_gt hx hb hd ht (fun h => kt ((nI_ltI hY hX).mp h)) (fun h => kf (by have q := mt (nI_ltI hY hX).mpr h; omega))
theorem bn_gt_t (hx : p.tables.exec = Jvm.exec) (hb : c.code = cc) {x y : Nat} (hX : x < 2 ^ 31) (hY : y < 2 ^ 31) {off : Int} {tgt : Nat} (hd : decode cc pc = .ok (.if_icmp .gt off, 3)) (ht : (pc : Int) + off = (tgt : Int)) (hh : y < x) (kt : W p l e R s m args below meth c H locs cs ss Q (F0 m tgt ls rest)) : W p l e R s m args below meth c H locs cs ss Q (F0 m pc ls (.int (nI y) :: .int (nI x) :: rest)) :=
  bn_gt hx hb hX hY hd ht (fun _ => kt) (fun h => absurd hh (by omega))
theorem bn_gt_f (hx : p.tables.exec = Jvm.exec) (hb : c.code = cc) {x y : Nat} (hX : x < 2 ^ 31) (hY : y < 2 ^ 31) {off : Int} {tgt : Nat} (hd : decode cc pc = .ok (.if_icmp .gt off, 3)) (ht : (pc : Int) + off = (tgt : Int)) (hh : x ≤ y) (kf : W p l e R s m args below meth c H locs cs ss Q (F0 m (pc + 3) ls rest)) : W p l e R s m args below meth c H locs cs ss Q (F0 m pc ls (.int (nI y) :: .int (nI x) :: rest)) :=
  bn_gt hx hb hX hY hd ht (fun h => absurd hh (by omega)) (fun _ => kf)
theorem bn_le (hx : p.tables.exec = Jvm.exec) (hb : c.code = cc) {x y : Nat} (hX : x < 2 ^ 31) (hY : y < 2 ^ 31) {off : Int} {tgt : Nat} (hd : decode cc pc = .ok (.if_icmp .le off, 3)) (ht : (pc : Int) + off = (tgt : Int)) (kt : x ≤ y → W p l e R s m args below meth c H locs cs ss Q (F0 m tgt ls rest)) (kf : y < x → W p l e R s m args below meth c H locs cs ss Q (F0 m (pc + 3) ls rest)) : W p l e R s m args below meth c H locs cs ss Q (F0 m pc ls (.int (nI y) :: .int (nI x) :: rest)) :=
  lv_icmp_le hx hb hd ht (fun h => kt ((nI_leI hX hY).mp h)) (fun h => kf (by have q := mt (nI_leI hX hY).mpr h; omega))
theorem bn_le_t (hx : p.tables.exec = Jvm.exec) (hb : c.code = cc) {x y : Nat} (hX : x < 2 ^ 31) (hY : y < 2 ^ 31) {off : Int} {tgt : Nat} (hd : decode cc pc = .ok (.if_icmp .le off, 3)) (ht : (pc : Int) + off = (tgt : Int)) (hh : x ≤ y) (kt : W p l e R s m args below meth c H locs cs ss Q (F0 m tgt ls rest)) : W p l e R s m args below meth c H locs cs ss Q (F0 m pc ls (.int (nI y) :: .int (nI x) :: rest)) :=
  bn_le hx hb hX hY hd ht (fun _ => kt) (fun h => absurd hh (by omega))
theorem bn_le_f (hx : p.tables.exec = Jvm.exec) (hb : c.code = cc) {x y : Nat} (hX : x < 2 ^ 31) (hY : y < 2 ^ 31) {off : Int} {tgt : Nat} (hd : decode cc pc = .ok (.if_icmp .le off, 3)) (ht : (pc : Int) + off = (tgt : Int)) (hh : y < x) (kf : W p l e R s m args below meth c H locs cs ss Q (F0 m (pc + 3) ls rest)) : W p l e R s m args below meth c H locs cs ss Q (F0 m pc ls (.int (nI y) :: .int (nI x) :: rest)) :=
  bn_le hx hb hX hY hd ht (fun h => absurd hh (by omega)) (fun _ => kf)
theorem bz_eq (hx : p.tables.exec = Jvm.exec) (hb : c.code = cc) {x : Nat} (hX : x < 2 ^ 31) {off : Int} {tgt : Nat} (hd : decode cc pc = .ok (.ifCond .eq off, 3)) (ht : (pc : Int) + off = (tgt : Int)) (kt : x = 0 → W p l e R s m args below meth c H locs cs ss Q (F0 m tgt ls rest)) (kf : x ≠ 0 → W p l e R s m args below meth c H locs cs ss Q (F0 m (pc + 3) ls rest)) : W p l e R s m args below meth c H locs cs ss Q (F0 m pc ls (.int (nI x) :: rest)) :=
  lv_if_eq hx hb hd ht (fun h => kt ((nI_x0 hX).mp h)) (fun h => kf (fun q => h ((nI_x0 hX).mpr q)))
theorem bz_ne (hx : p.tables.exec = Jvm.exec) (hb : c.code = cc) {x : Nat} (hX : x < 2 ^ 31) {off : Int} {tgt : Nat} (hd : decode cc pc = .ok (.ifCond .ne off, 3)) (ht : (pc : Int) + off = (tgt : Int)) (kt : x ≠ 0 → W p l e R s m args below meth c H locs cs ss Q (F0 m tgt ls rest)) (kf : x = 0 → W p l e R s m args below meth c H locs cs ss Q (F0 m (pc + 3) ls rest)) : W p l e R s m args below meth c H locs cs ss Q (F0 m pc ls (.int (nI x) :: rest)) :=
  lv_if_ne hx hb hd ht (fun h => kt (fun q => h ((nI_x0 hX).mpr q))) (fun h => kf ((nI_x0 hX).mp h))
theorem bz_lt_f (hx : p.tables.exec = Jvm.exec) (hb : c.code = cc) {x : Nat} (hX : x < 2 ^ 31) {off : Int} {tgt : Nat} (hd : decode cc pc = .ok (.ifCond .lt off, 3)) (ht : (pc : Int) + off = (tgt : Int)) (kk : W p l e R s m args below meth c H locs cs ss Q (F0 m (pc + 3) ls rest)) : W p l e R s m args below meth c H locs cs ss Q (F0 m pc ls (.int (nI x) :: rest)) :=
  lv_if_lt hx hb hd ht (fun h => absurd h (nI_pos hX)) (fun _ => kk)
theorem bz_ge_t (hx : p.tables.exec = Jvm.exec) (hb : c.code = cc) {x : Nat} (hX : x < 2 ^ 31) {off : Int} {tgt : Nat} (hd : decode cc pc = .ok (.ifCond .ge off, 3)) (ht : (pc : Int) + off = (tgt : Int)) (kk : W p l e R s m args below meth c H locs cs ss Q (F0 m tgt ls rest)) : W p l e R s m args below meth c H locs cs ss Q (F0 m pc ls (.int (nI x) :: rest)) :=
  lv_if_ge hx hb hd ht (fun _ => kk) (fun h => absurd (nI_pos' hX) h)
theorem bz_le (hx : p.tables.exec = Jvm.exec) (hb : c.code = cc) {x : Nat} (hX : x < 2 ^ 31) {off : Int} {tgt : Nat} (hd : decode cc pc = .ok (.ifCond .le off, 3)) (ht : (pc : Int) + off = (tgt : Int)) (kt : x = 0 → W p l e R s m args below meth c H locs cs ss Q (F0 m tgt ls rest)) (kf : 0 < x → W p l e R s m args below meth c H locs cs ss Q (F0 m (pc + 3) ls rest)) : W p l e R s m args below meth c H locs cs ss Q (F0 m pc ls (.int (nI x) :: rest)) :=
  lv_if_le hx hb hd ht (fun h => kt (by rcases Nat.eq_zero_or_pos x with q | q; exact q; exact absurd h (nI_nle q hX))) (fun h => kf (by rcases Nat.eq_zero_or_pos x with q | q; exact absurd (by rw [q]; exact (show nI 0 ≤ 0 by decide)) h; exact q))
theorem bb_eq (hx : p.tables.exec = Jvm.exec) (hb : c.code = cc) {b : Bool} {off : Int} {tgt : Nat} (hd : decode cc pc = .ok (.ifCond .eq off, 3)) (ht : (pc : Int) + off = (tgt : Int)) (kt : b = false → W p l e R s m args below meth c H locs cs ss Q (F0 m tgt ls rest)) (kf : b = true → W p l e R s m args below meth c H locs cs ss Q (F0 m (pc + 3) ls rest)) : W p l e R s m args below meth c H locs cs ss Q (F0 m pc ls (.int (bI b) :: rest)) :=
  lv_if_eq hx hb hd ht (fun h => kt ((bI_0 b).mp h)) (fun h => kf (by cases b; exact absurd rfl h; rfl))
theorem bb_ne (hx : p.tables.exec = Jvm.exec) (hb : c.code = cc) {b : Bool} {off : Int} {tgt : Nat} (hd : decode cc pc = .ok (.ifCond .ne off, 3)) (ht : (pc : Int) + off = (tgt : Int)) (kt : b = true → W p l e R s m args below meth c H locs cs ss Q (F0 m tgt ls rest)) (kf : b = false → W p l e R s m args below meth c H locs cs ss Q (F0 m (pc + 3) ls rest)) : W p l e R s m args below meth c H locs cs ss Q (F0 m pc ls (.int (bI b) :: rest)) :=
  lv_if_ne hx hb hd ht (fun h => kt (by cases b; exact absurd rfl h; rfl)) (fun h => kf ((bI_0 b).mp h))
theorem bo_eq (hx : p.tables.exec = Jvm.exec) (hb : c.code = cc) {x : Option Nat} (hX : ∀ j, x = some j → j < 2 ^ 31) {off : Int} {tgt : Nat} (hd : decode cc pc = .ok (.if_icmp .eq off, 3)) (ht : (pc : Int) + off = (tgt : Int)) (kt : (x = none) → W p l e R s m args below meth c H locs cs ss Q (F0 m tgt ls rest)) (kf : (x ≠ none) → W p l e R s m args below meth c H locs cs ss Q (F0 m (pc + 3) ls rest)) : W p l e R s m args below meth c H locs cs ss Q (F0 m pc ls (.int (-1) :: .int (oI x) :: rest)) :=
  lv_icmp_eq hx hb hd ht (fun h => kt ((oI_m1 hX).mp h)) (fun h => kf (fun q => h ((oI_m1 hX).mpr q)))
theorem bo_ne (hx : p.tables.exec = Jvm.exec) (hb : c.code = cc) {x : Option Nat} (hX : ∀ j, x = some j → j < 2 ^ 31) {off : Int} {tgt : Nat} (hd : decode cc pc = .ok (.if_icmp .ne off, 3)) (ht : (pc : Int) + off = (tgt : Int)) (kt : (x ≠ none) → W p l e R s m args below meth c H locs cs ss Q (F0 m tgt ls rest)) (kf : (x = none) → W p l e R s m args below meth c H locs cs ss Q (F0 m (pc + 3) ls rest)) : W p l e R s m args below meth c H locs cs ss Q (F0 m pc ls (.int (-1) :: .int (oI x) :: rest)) :=
  lv_icmp_ne hx hb hd ht (fun h => kt (fun q => h ((oI_m1 hX).mpr q))) (fun h => kf ((oI_m1 hX).mp h))
theorem bno_gt (hx : p.tables.exec = Jvm.exec) (hb : c.code = cc) {x : Option Nat} {d : Nat} (hD : d < 2 ^ 31) (hX : ∀ j, x = some j → j < 2 ^ 31) {off : Int} {tgt : Nat} (hd : decode cc pc = .ok (.if_icmp .gt off, 3)) (ht : (pc : Int) + off = (tgt : Int)) (kt : (∀ j, x = some j → j < d) → W p l e R s m args below meth c H locs cs ss Q (F0 m tgt ls rest)) (kf : (∃ j, x = some j ∧ d ≤ j) → W p l e R s m args below meth c H locs cs ss Q (F0 m (pc + 3) ls rest)) : W p l e R s m args below meth c H locs cs ss Q (F0 m pc ls (.int (oI x) :: .int (nI d) :: rest)) :=
  lv_icmp_gt hx hb hd ht (fun h => kt (fun j ej => Nat.lt_of_not_le (fun q => absurd ((oI_le hD hX).mpr ⟨j, ej, q⟩) (Int32.not_le.mpr h)))) (fun h => kf ((oI_le hD hX).mp (Int32.not_lt.mp h)))
theorem bno_le (hx : p.tables.exec = Jvm.exec) (hb : c.code = cc) {x : Option Nat} {d : Nat} (hD : d < 2 ^ 31) (hX : ∀ j, x = some j → j < 2 ^ 31) {off : Int} {tgt : Nat} (hd : decode cc pc = .ok (.if_icmp .le off, 3)) (ht : (pc : Int) + off = (tgt : Int)) (kt : (∃ j, x = some j ∧ d ≤ j) → W p l e R s m args below meth c H locs cs ss Q (F0 m tgt ls rest)) (kf : (∀ j, x = some j → j < d) → W p l e R s m args below meth c H locs cs ss Q (F0 m (pc + 3) ls rest)) : W p l e R s m args below meth c H locs cs ss Q (F0 m pc ls (.int (oI x) :: .int (nI d) :: rest)) :=
  lv_icmp_le hx hb hd ht (fun h => kt ((oI_le hD hX).mp h)) (fun h => kf (fun j ej => Nat.lt_of_not_le (fun q => h ((oI_le hD hX).mpr ⟨j, ej, q⟩))))
theorem ar_iadd (hx : p.tables.exec = Jvm.exec) (hb : c.code = cc) {x y : Nat} (hd : decode cc pc = .ok (.iadd, 1)) (kk : W p l e R s m args below meth c H locs cs ss Q (F0 m (pc + 1) ls (.int (nI (x + y)) :: rest))) : W p l e R s m args below meth c H locs cs ss Q (F0 m pc ls (.int (nI y) :: .int (nI x) :: rest)) :=
  lv_iadd hx hb hd (by rw [nI_add]; exact kk)
theorem ar_isub (hx : p.tables.exec = Jvm.exec) (hb : c.code = cc) {x y : Nat} (h : y ≤ x) (hd : decode cc pc = .ok (.isub, 1)) (kk : W p l e R s m args below meth c H locs cs ss Q (F0 m (pc + 1) ls (.int (nI (x - y)) :: rest))) : W p l e R s m args below meth c H locs cs ss Q (F0 m pc ls (.int (nI y) :: .int (nI x) :: rest)) :=
  lv_isub hx hb hd (by rw [pk_sub h]; exact kk)
theorem bm_lt (hx : p.tables.exec = Jvm.exec) (hb : c.code = cc) {k : Nat} (hX : k < 2 ^ 31) {off : Int} {tgt : Nat} (hd : decode cc pc = .ok (.ifCond .lt off, 3)) (ht : (pc : Int) + off = (tgt : Int)) (kt : k = 0 → W p l e R s m args below meth c H locs cs ss Q (F0 m tgt ls rest)) (kf : ∀ j, k = j + 1 → W p l e R s m args below meth c H locs cs ss Q (F0 m (pc + 3) ls rest)) : W p l e R s m args below meth c H locs cs ss Q (F0 m pc ls (.int (nI k - 1) :: rest)) :=
  lv_if_lt hx hb hd ht (fun h => kt (by cases k with
    | zero => rfl
    | succ j => rw [nI_pred] at h; exact absurd h (nI_pos (by omega)))) (fun h => by cases k with
    | zero => exact absurd (show nI 0 - 1 < 0 by decide) h
    | succ j => exact kf j rfl)
theorem absd_eq {x y : Nat} (hX : x < 2 ^ 30) (hY : y < 2 ^ 30) : (if 0 ≤ nI x - nI y then nI x - nI y else 0 - (nI x - nI y)) = nI (if y ≤ x then x - y else y - x) := by
  have h0 := pk_sub_toInt hX hY
  by_cases h : y ≤ x
  · rw [if_pos (by rw [Int32.le_iff_toInt_le, h0]; show (0 : Int32).toInt ≤ _; rw [show (0 : Int32).toInt = 0 by decide]; omega), if_pos h, pk_sub h]
  · have h1 : nI x - nI y < 0 := pk_sneg hY (by omega)
    rw [if_neg (Int32.not_le.mpr h1), if_neg h, ← pk_sub (by omega : x ≤ y)]
    show 0 - (nI x - nI y) = nI y - nI x
    rw [Int32.zero_sub, Int32.neg_sub]
theorem nI_mm (j : Nat) : nI j + Int32.ofInt (-1) = nI j - 1 := (Int32.sub_eq_add_neg (nI j) 1).symm
theorem bl_eq (hx : p.tables.exec = Jvm.exec) (hb : c.code = cc) {x y : Int64} {off : Int} {tgt : Nat} (hd : decode cc pc = .ok (.lcmp, 1)) (hd2 : decode cc (pc + 1) = .ok (.ifCond .eq off, 3)) (ht : ((pc + 1 : Nat) : Int) + off = (tgt : Int)) (kt : x = y → W p l e R s m args below meth c H locs cs ss Q (F0 m tgt ls rest)) (kf : ¬ x = y → W p l e R s m args below meth c H locs cs ss Q (F0 m (pc + 1 + 3) ls rest)) : W p l e R s m args below meth c H locs cs ss Q (F0 m pc ls (.long y :: .long x :: rest)) :=
  W.lcmp hx hb hd (lv_if_eq hx hb hd2 ht (fun h => kt ((lg_cmp_eq x y).mp h)) (fun h => kf (fun q => h ((lg_cmp_eq x y).mpr q))))
theorem bl_lt (hx : p.tables.exec = Jvm.exec) (hb : c.code = cc) {x y : Int64} {off : Int} {tgt : Nat} (hd : decode cc pc = .ok (.lcmp, 1)) (hd2 : decode cc (pc + 1) = .ok (.ifCond .lt off, 3)) (ht : ((pc + 1 : Nat) : Int) + off = (tgt : Int)) (kt : x < y → W p l e R s m args below meth c H locs cs ss Q (F0 m tgt ls rest)) (kf : ¬ x < y → W p l e R s m args below meth c H locs cs ss Q (F0 m (pc + 1 + 3) ls rest)) : W p l e R s m args below meth c H locs cs ss Q (F0 m pc ls (.long y :: .long x :: rest)) :=
  W.lcmp hx hb hd (lv_if_lt hx hb hd2 ht (fun h => kt ((lg_cmp_lt x y).mp h)) (fun h => kf (fun q => h ((lg_cmp_lt x y).mpr q))))
theorem bl_ge (hx : p.tables.exec = Jvm.exec) (hb : c.code = cc) {x y : Int64} {off : Int} {tgt : Nat} (hd : decode cc pc = .ok (.lcmp, 1)) (hd2 : decode cc (pc + 1) = .ok (.ifCond .ge off, 3)) (ht : ((pc + 1 : Nat) : Int) + off = (tgt : Int)) (kt : y ≤ x → W p l e R s m args below meth c H locs cs ss Q (F0 m tgt ls rest)) (kf : ¬ y ≤ x → W p l e R s m args below meth c H locs cs ss Q (F0 m (pc + 1 + 3) ls rest)) : W p l e R s m args below meth c H locs cs ss Q (F0 m pc ls (.long y :: .long x :: rest)) :=
  W.lcmp hx hb hd (lv_if_ge hx hb hd2 ht (fun h => kt ((lg_cmp_ge x y).mp h)) (fun h => kf (fun q => h ((lg_cmp_ge x y).mpr q))))
theorem bl_gt (hx : p.tables.exec = Jvm.exec) (hb : c.code = cc) {x y : Int64} {off : Int} {tgt : Nat} (hd : decode cc pc = .ok (.lcmp, 1)) (hd2 : decode cc (pc + 1) = .ok (.ifCond .gt off, 3)) (ht : ((pc + 1 : Nat) : Int) + off = (tgt : Int)) (kt : y < x → W p l e R s m args below meth c H locs cs ss Q (F0 m tgt ls rest)) (kf : ¬ y < x → W p l e R s m args below meth c H locs cs ss Q (F0 m (pc + 1 + 3) ls rest)) : W p l e R s m args below meth c H locs cs ss Q (F0 m pc ls (.long y :: .long x :: rest)) :=
  W.lcmp hx hb hd (lv_if_gt hx hb hd2 ht (fun h => kt ((lg_cmp_gt x y).mp h)) (fun h => kf (fun q => h ((lg_cmp_gt x y).mpr q))))
theorem bl_le (hx : p.tables.exec = Jvm.exec) (hb : c.code = cc) {x y : Int64} {off : Int} {tgt : Nat} (hd : decode cc pc = .ok (.lcmp, 1)) (hd2 : decode cc (pc + 1) = .ok (.ifCond .le off, 3)) (ht : ((pc + 1 : Nat) : Int) + off = (tgt : Int)) (kt : x ≤ y → W p l e R s m args below meth c H locs cs ss Q (F0 m tgt ls rest)) (kf : ¬ x ≤ y → W p l e R s m args below meth c H locs cs ss Q (F0 m (pc + 1 + 3) ls rest)) : W p l e R s m args below meth c H locs cs ss Q (F0 m pc ls (.long y :: .long x :: rest)) :=
  W.lcmp hx hb hd (lv_if_le hx hb hd2 ht (fun h => kt ((lg_cmp_le x y).mp h)) (fun h => kf (fun q => h ((lg_cmp_le x y).mpr q))))
theorem bl_ne (hx : p.tables.exec = Jvm.exec) (hb : c.code = cc) {x y : Int64} {off : Int} {tgt : Nat} (hd : decode cc pc = .ok (.lcmp, 1)) (hd2 : decode cc (pc + 1) = .ok (.ifCond .ne off, 3)) (ht : ((pc + 1 : Nat) : Int) + off = (tgt : Int)) (kt : ¬ x = y → W p l e R s m args below meth c H locs cs ss Q (F0 m tgt ls rest)) (kf : x = y → W p l e R s m args below meth c H locs cs ss Q (F0 m (pc + 1 + 3) ls rest)) : W p l e R s m args below meth c H locs cs ss Q (F0 m pc ls (.long y :: .long x :: rest)) :=
  W.lcmp hx hb hd (lv_if_ne hx hb hd2 ht (fun h => kt (fun q => h ((lg_cmp_eq x y).mpr q))) (fun h => kf ((lg_cmp_eq x y).mp h)))
end Ops
end
section
/-! WHAT HOLDS OF EVERY STATE between calls: numbers in their ranges -/
def OK (u : TS) : Prop :=
  (J_legCount u ≤ 600 ∧ J_count u ≤ 60 ∧ LI_count u ≤ 40 ∧ AC_count u ≤ 10 ∧ L0_count u ≤ 6 ∧ L1_count u ≤ 10 ∧ HO_count u = 0 ∧ T_today u ≤ 364 ∧ DR_day u ≤ 364 ∧ DR_note u ≤ 999) ∧
  (∀ g, g < J_legCount u → J_entryOf u g < J_count u ∧ J_account u g < AC_count u) ∧
  (∀ e, e < J_count u → J_firstLeg u e + J_legsOf u e ≤ J_legCount u ∧ J_day u e ≤ 364 ∧ J_note u e ≤ 999) ∧
  (∀ x, x < LI_count u → LI_account u x < AC_count u ∧ LI_day u x ≤ 364 ∧ LI_byDay u x < LI_count u) ∧
  (∀ i, i < L0_count u → L0_account u i < AC_count u) ∧ (∀ i, i < L1_count u → L1_account u i < AC_count u) ∧
  (∀ k, k < AC_count u → AC_kind u k < 5 ∧ AC_currency u k < 4) ∧ (∀ k, T_exchangeAccount u = some k → k < AC_count u) ∧
  (∀ k, AC_hasFloor u k = false) ∧
  ((∀ g x, M0_lineOfLeg u g = some x → x < LI_count u) ∧ (∀ x g, M0_firstOfLine u x = some g → g < J_legCount u) ∧ (∀ x g, M0_secondOfLine u x = some g → g < J_legCount u)) ∧
  ((∀ g x, M1_lineOfLeg u g = some x → x < LI_count u) ∧ (∀ x g, M1_firstOfLine u x = some g → g < J_legCount u) ∧ (∀ x g, M1_secondOfLine u x = some g → g < J_legCount u))
theorem OK.n {u : TS} (h : OK u) : J_legCount u ≤ 600 ∧ J_count u ≤ 60 ∧ LI_count u ≤ 40 ∧ AC_count u ≤ 10 ∧ L0_count u ≤ 6 ∧ L1_count u ≤ 10 ∧ HO_count u = 0 ∧ T_today u ≤ 364 ∧ DR_day u ≤ 364 ∧ DR_note u ≤ 999 := h.1
theorem OK.leg {u : TS} (h : OK u) {g : Nat} (hg : g < J_legCount u) : J_entryOf u g < J_count u ∧ J_account u g < AC_count u := h.2.1 g hg
theorem OK.ent {u : TS} (h : OK u) {e : Nat} (he : e < J_count u) : J_firstLeg u e + J_legsOf u e ≤ J_legCount u ∧ J_day u e ≤ 364 ∧ J_note u e ≤ 999 := h.2.2.1 e he
theorem OK.line {u : TS} (h : OK u) {x : Nat} (hx : x < LI_count u) : LI_account u x < AC_count u ∧ LI_day u x ≤ 364 ∧ LI_byDay u x < LI_count u := h.2.2.2.1 x hx
theorem OK.dr {u : TS} (h : OK u) {i : Nat} (hi : i < L0_count u) : L0_account u i < AC_count u := h.2.2.2.2.1 i hi
theorem OK.pl {u : TS} (h : OK u) {i : Nat} (hi : i < L1_count u) : L1_account u i < AC_count u := h.2.2.2.2.2.1 i hi
theorem OK.acc {u : TS} (h : OK u) {k : Nat} (hk : k < AC_count u) : AC_kind u k < 5 ∧ AC_currency u k < 4 := h.2.2.2.2.2.2.1 k hk
theorem OK.ex {u : TS} (h : OK u) {k : Nat} (hk : T_exchangeAccount u = some k) : k < AC_count u := h.2.2.2.2.2.2.2.1 k hk
theorem OK.nf {u : TS} (h : OK u) (k : Nat) : AC_hasFloor u k = false := h.2.2.2.2.2.2.2.2.1 k
theorem OK.m0 {u : TS} (h : OK u) : (∀ g x, M0_lineOfLeg u g = some x → x < LI_count u) ∧ (∀ x g, M0_firstOfLine u x = some g → g < J_legCount u) ∧ (∀ x g, M0_secondOfLine u x = some g → g < J_legCount u) := h.2.2.2.2.2.2.2.2.2.1
theorem OK.m1 {u : TS} (h : OK u) : (∀ g x, M1_lineOfLeg u g = some x → x < LI_count u) ∧ (∀ x g, M1_firstOfLine u x = some g → g < J_legCount u) ∧ (∀ x g, M1_secondOfLine u x = some g → g < J_legCount u) := h.2.2.2.2.2.2.2.2.2.2

/-! THE JOURNAL, read -/
def fCounts (u : TS) (g : Nat) : Bool := !(J_gone u (J_entryOf u g))
def fDayOf (u : TS) (g : Nat) : Nat := J_day u (J_entryOf u g)
def fLastC (u : TS) : Nat → Option Nat
  | 0 => none
  | k + 1 => if J_isClosing u k = true ∧ J_gone u k = false then some k else fLastC u k
theorem fLastC_lt (u : TS) : ∀ n k, fLastC u n = some k → k < n
  | 0, _, h => by cases h
  | n + 1, k, h => by
    unfold fLastC at h
    split at h
    · cases h; omega
    · have := fLastC_lt u n k h
      omega
def fLock (u : TS) : Option Nat := (fLastC u (J_count u)).map (J_day u)
def fStand (u : TS) : Nat → Nat
  | 0 => 0
  | k + 1 => if J_gone u k = true then fStand u k else fStand u k + 1
theorem fStand_le (u : TS) : ∀ n, fStand u n ≤ n
  | 0 => Nat.le_refl _
  | n + 1 => by
    have := fStand_le u n
    unfold fStand
    split <;> omega
def fAmt (u : TS) (w d : Nat) : Nat → Int64
  | 0 => 0
  | g + 1 => if J_account u g = w ∧ fCounts u g = true ∧ fDayOf u g ≤ d then fAmt u w d g + J_amount u g else fAmt u w d g
def fWor (u : TS) (w : Nat) : Nat → Int64
  | 0 => 0
  | g + 1 => if J_account u g = w ∧ fCounts u g = true then fWor u w g + J_worth u g else fWor u w g
def fWorB (u : TS) (w f t : Nat) : Nat → Int64
  | 0 => 0
  | g + 1 => if J_account u g = w ∧ fCounts u g = true ∧ J_isClosing u (J_entryOf u g) = false ∧ f ≤ fDayOf u g ∧ fDayOf u g ≤ t then fWorB u w f t g + J_worth u g else fWorB u w f t g
theorem dX3_has_0 : decode cX3_has 0 = .ok (.iload_n 1, 1) := by decide +kernel
theorem dX3_has_1 : decode cX3_has 1 = .ok (.ifCond .lt 15, 3) := by decide +kernel
theorem dX3_has_12 : decode cX3_has 12 = .ok (.iconst 1, 1) := by decide +kernel
theorem dX3_has_13 : decode cX3_has 13 = .ok (.goto 4, 3) := by decide +kernel
theorem dX3_has_16 : decode cX3_has 16 = .ok (.iconst 0, 1) := by decide +kernel
theorem dX3_has_17 : decode cX3_has 17 = .ok (.ireturn, 1) := by decide +kernel
theorem dX3_has_4 : decode cX3_has 4 = .ok (.iload_n 1, 1) := by decide +kernel
theorem dX3_has_5 : decode cX3_has 5 = .ok (.aload_n 0, 1) := by decide +kernel
theorem dX3_has_6 : decode cX3_has 6 = .ok (.getfield 31, 3) := by decide +kernel
theorem dX3_has_9 : decode cX3_has 9 = .ok (.if_icmp .ge 7, 3) := by decide +kernel
set_option maxHeartbeats 4000000 in
set_option maxRecDepth 100000 in
theorem c_J_has (l : Launch) (D : va_G) (κ : ClassId × ClassId × ClassId) (a : Nat → Nat) (sz : Nat) (u : TS) (en : Nat) (q1 : en < 2 ^ 31) (q2 : OK u) : TM l yX3_has cX3_has 2 (some .boolean) 0 0 D κ a u sz [.ref (a 5), .int (nI en)] (QI D κ a sz (fun r u' => r = (bI (decide (en < J_count u))) ∧ u' = u)) := by
  refine TM.of (by decide +kernel) (Nat.le_of_ble_eq_true rfl) ?_
  intro p e s m below meth c ls hC hr hk hsz H locs hG hl
  have hx := hC.1
  have hb := hC.2.1
  have hl : lv_has ls 2 [(0, .ref (a 5)), (1, .int (nI en))] := hl
  have qok := q2
  have ⟨n1, n2, n3, n4, n5, n6, n7, n8, n9, n10⟩ := qok.n
  refine lv_iload_n hx hb dX3_has_0 rfl (lv_at hl 1 rfl) ?_
  refine bz_lt_f (tgt := 16) hx hb (by omega) dX3_has_1 (by decide) ?_
  refine lv_iload_n hx hb dX3_has_4 rfl (lv_at hl 1 rfl) ?_
  refine lv_aload_n hx hb dX3_has_5 rfl (lv_at hl 0 rfl) ?_
  refine gf_J_count hC hG (hC.2.2.2.2 _ w80) dX3_has_6 ?_
  refine bn_ge (tgt := 16) hx hb (by omega) (by omega) dX3_has_9 (by decide) (fun h9 => ?_) (fun h9 => ?_)
  · refine lv_iconst (v := nI 0) hx hb dX3_has_16 (by decide) ?_
    exact te_z (v := false) hC hG hr hk ⟨(congrArg bI (show false = decide (en < J_count u) from by simp; omega)), rfl⟩ dX3_has_17
  · refine lv_iconst (v := nI 1) hx hb dX3_has_12 (by decide) ?_
    refine lv_goto (tgt := 17) hx hb dX3_has_13 (by decide) ?_
    exact te_z (v := true) hC hG hr hk ⟨(congrArg bI (show true = decide (en < J_count u) from by simp; omega)), rfl⟩ dX3_has_17
theorem k_J_has {p : Program} {l : Launch} {e : Env} {R : Room} {s : State} {m : MethodId} {args : Array Value} {below : List Frame} {meth : Method} {c : Code} {H : Heap} {locs : List Loc} {cs ss : Nat} {Q : State → Prop} {cc : ByteArray} {nL pc : Nat} {ls : Array Slot} {rest : List Value} {own : String} {idx : Nat} {D : va_G} {κ : ClassId × ClassId × ClassId} {a : Nat → Nat} {u : TS} {A : Nat → Prop} (hC : CallFix p m c cc nL s args WALL own) (hG : GW D κ a u A s H locs) (en : Nat) (q1 : en < 2 ^ 31) (q2 : OK u) (wl : Cond.methodLink own idx yX3_has ∈ WALL) (hR : 0 + 1 ≤ R.frames ∧ 8 + (2 + 11) + 0 ≤ R.locals) (hls : ls.size = nL) (h8 : (rest.map fun v => v.category).sum ≤ 8) (hd : decode cc pc = .ok (.invokevirtual idx, 3)) (hcs : cs ≤ R.cells ∧ ss ≤ R.slots) (kk : ∀ (H1 : Heap) (locs1 : List Loc), GW D κ a u A s H1 locs1 → W p l e R s m args below meth c H1 locs1 cs ss Q (F0 m (pc + 3) ls (.int (bI (decide (en < J_count u))) :: rest))) : W p l e R s m args below meth c H locs cs ss Q (F0 m pc ls (.int (nI en) :: .ref (a 5) :: rest)) :=
  tc_i hG (tr_V (n := 1) (k := 5) (ci := 3) (As := [.int (nI en)]) hC hG (c_J_has l D κ a H.size u en q1 q2) rfl rfl wl w23 w267 w265 w266 (by decide +kernel) hR rfl hls rfl h8 hd hcs) (fun r u' H1 locs1 hq hG1 => by obtain ⟨rfl, rfl⟩ := hq; exact kk H1 locs1 hG1)

theorem dX3_isFull_0 : decode cX3_isFull 0 = .ok (.aload_n 0, 1) := by decide +kernel
theorem dX3_isFull_1 : decode cX3_isFull 1 = .ok (.getfield 31, 3) := by decide +kernel
theorem dX3_isFull_10 : decode cX3_isFull 10 = .ok (.goto 4, 3) := by decide +kernel
theorem dX3_isFull_13 : decode cX3_isFull 13 = .ok (.iconst 0, 1) := by decide +kernel
theorem dX3_isFull_14 : decode cX3_isFull 14 = .ok (.ireturn, 1) := by decide +kernel
theorem dX3_isFull_4 : decode cX3_isFull 4 = .ok (.bipush 60, 2) := by decide +kernel
theorem dX3_isFull_6 : decode cX3_isFull 6 = .ok (.if_icmp .lt 7, 3) := by decide +kernel
theorem dX3_isFull_9 : decode cX3_isFull 9 = .ok (.iconst 1, 1) := by decide +kernel
set_option maxHeartbeats 4000000 in
set_option maxRecDepth 100000 in
theorem c_J_isFull (l : Launch) (D : va_G) (κ : ClassId × ClassId × ClassId) (a : Nat → Nat) (sz : Nat) (u : TS)  (q1 : OK u) : TM l yX3_isFull cX3_isFull 1 (some .boolean) 0 0 D κ a u sz [.ref (a 5)] (QI D κ a sz (fun r u' => r = (bI (decide (60 ≤ J_count u))) ∧ u' = u)) := by
  refine TM.of (by decide +kernel) (Nat.le_of_ble_eq_true rfl) ?_
  intro p e s m below meth c ls hC hr hk hsz H locs hG hl
  have hx := hC.1
  have hb := hC.2.1
  have hl : lv_has ls 1 [(0, .ref (a 5))] := hl
  have qok := q1
  have ⟨n1, n2, n3, n4, n5, n6, n7, n8, n9, n10⟩ := qok.n
  refine lv_aload_n hx hb dX3_isFull_0 rfl (lv_at hl 0 rfl) ?_
  refine gf_J_count hC hG (hC.2.2.2.2 _ w80) dX3_isFull_1 ?_
  refine lv_bipush (v := nI 60) hx hb dX3_isFull_4 (by decide) ?_
  refine bn_lt (tgt := 13) hx hb (by omega) (by omega) dX3_isFull_6 (by decide) (fun h6 => ?_) (fun h6 => ?_)
  · refine lv_iconst (v := nI 0) hx hb dX3_isFull_13 (by decide) ?_
    exact te_z (v := false) hC hG hr hk ⟨(congrArg bI (show false = decide (60 ≤ J_count u) from by simp; omega)), rfl⟩ dX3_isFull_14
  · refine lv_iconst (v := nI 1) hx hb dX3_isFull_9 (by decide) ?_
    refine lv_goto (tgt := 14) hx hb dX3_isFull_10 (by decide) ?_
    exact te_z (v := true) hC hG hr hk ⟨(congrArg bI (show true = decide (60 ≤ J_count u) from by simp; omega)), rfl⟩ dX3_isFull_14
theorem k_J_isFull {p : Program} {l : Launch} {e : Env} {R : Room} {s : State} {m : MethodId} {args : Array Value} {below : List Frame} {meth : Method} {c : Code} {H : Heap} {locs : List Loc} {cs ss : Nat} {Q : State → Prop} {cc : ByteArray} {nL pc : Nat} {ls : Array Slot} {rest : List Value} {own : String} {idx : Nat} {D : va_G} {κ : ClassId × ClassId × ClassId} {a : Nat → Nat} {u : TS} {A : Nat → Prop} (hC : CallFix p m c cc nL s args WALL own) (hG : GW D κ a u A s H locs)  (q1 : OK u) (wl : Cond.methodLink own idx yX3_isFull ∈ WALL) (hR : 0 + 1 ≤ R.frames ∧ 8 + (1 + 11) + 0 ≤ R.locals) (hls : ls.size = nL) (h8 : (rest.map fun v => v.category).sum ≤ 8) (hd : decode cc pc = .ok (.invokevirtual idx, 3)) (hcs : cs ≤ R.cells ∧ ss ≤ R.slots) (kk : ∀ (H1 : Heap) (locs1 : List Loc), GW D κ a u A s H1 locs1 → W p l e R s m args below meth c H1 locs1 cs ss Q (F0 m (pc + 3) ls (.int (bI (decide (60 ≤ J_count u))) :: rest))) : W p l e R s m args below meth c H locs cs ss Q (F0 m pc ls (.ref (a 5) :: rest)) :=
  tc_i hG (tr_V (n := 0) (k := 5) (ci := 3) (As := []) hC hG (c_J_isFull l D κ a H.size u  q1) rfl rfl wl w23 w238 w236 w237 (by decide +kernel) hR rfl hls rfl h8 hd hcs) (fun r u' H1 locs1 hq hG1 => by obtain ⟨rfl, rfl⟩ := hq; exact kk H1 locs1 hG1)

theorem dX3_counts_0 : decode cX3_counts 0 = .ok (.aload_n 0, 1) := by decide +kernel
theorem dX3_counts_1 : decode cX3_counts 1 = .ok (.getfield 24, 3) := by decide +kernel
theorem dX3_counts_10 : decode cX3_counts 10 = .ok (.baload, 1) := by decide +kernel
theorem dX3_counts_11 : decode cX3_counts 11 = .ok (.ifCond .ne 7, 3) := by decide +kernel
theorem dX3_counts_14 : decode cX3_counts 14 = .ok (.iconst 1, 1) := by decide +kernel
theorem dX3_counts_15 : decode cX3_counts 15 = .ok (.goto 4, 3) := by decide +kernel
theorem dX3_counts_18 : decode cX3_counts 18 = .ok (.iconst 0, 1) := by decide +kernel
theorem dX3_counts_19 : decode cX3_counts 19 = .ok (.ireturn, 1) := by decide +kernel
theorem dX3_counts_4 : decode cX3_counts 4 = .ok (.aload_n 0, 1) := by decide +kernel
theorem dX3_counts_5 : decode cX3_counts 5 = .ok (.getfield 35, 3) := by decide +kernel
theorem dX3_counts_8 : decode cX3_counts 8 = .ok (.iload_n 1, 1) := by decide +kernel
theorem dX3_counts_9 : decode cX3_counts 9 = .ok (.iaload, 1) := by decide +kernel
set_option maxHeartbeats 4000000 in
set_option maxRecDepth 100000 in
theorem c_J_counts (l : Launch) (D : va_G) (κ : ClassId × ClassId × ClassId) (a : Nat → Nat) (sz : Nat) (u : TS) (g : Nat) (q1 : g < 600) (q2 : J_entryOf u g < 60) : TM l yX3_counts cX3_counts 2 (some .boolean) 0 0 D κ a u sz [.ref (a 5), .int (nI g)] (QI D κ a sz (fun r u' => r = (bI (fCounts u g)) ∧ u' = u)) := by
  refine TM.of (by decide +kernel) (Nat.le_of_ble_eq_true rfl) ?_
  intro p e s m below meth c ls hC hr hk hsz H locs hG hl
  have hx := hC.1
  have hb := hC.2.1
  have hl : lv_has ls 2 [(0, .ref (a 5)), (1, .int (nI g))] := hl
  refine lv_aload_n hx hb dX3_counts_0 rfl (lv_at hl 0 rfl) ?_
  refine gf_J_gone hC hG (hC.2.2.2.2 _ w78) dX3_counts_1 ?_
  refine lv_aload_n hx hb dX3_counts_4 rfl (lv_at hl 0 rfl) ?_
  refine gf_J_entryOf hC hG (hC.2.2.2.2 _ w81) dX3_counts_5 ?_
  refine lv_iload_n hx hb dX3_counts_8 rfl (lv_at hl 1 rfl) ?_
  refine al_J_entryOf hC hG (by omega) dX3_counts_9 ?_
  refine al_J_gone hC hG (by omega) dX3_counts_10 ?_
  refine bb_ne (tgt := 18) hx hb dX3_counts_11 (by decide) (fun h11 => ?_) (fun h11 => ?_)
  · refine lv_iconst (v := nI 0) hx hb dX3_counts_18 (by decide) ?_
    exact te_z (v := false) hC hG hr hk ⟨(congrArg bI (show false = fCounts u g from by simp [fCounts, h11])), rfl⟩ dX3_counts_19
  · refine lv_iconst (v := nI 1) hx hb dX3_counts_14 (by decide) ?_
    refine lv_goto (tgt := 19) hx hb dX3_counts_15 (by decide) ?_
    exact te_z (v := true) hC hG hr hk ⟨(congrArg bI (show true = fCounts u g from by simp [fCounts, h11])), rfl⟩ dX3_counts_19
theorem k_J_counts {p : Program} {l : Launch} {e : Env} {R : Room} {s : State} {m : MethodId} {args : Array Value} {below : List Frame} {meth : Method} {c : Code} {H : Heap} {locs : List Loc} {cs ss : Nat} {Q : State → Prop} {cc : ByteArray} {nL pc : Nat} {ls : Array Slot} {rest : List Value} {own : String} {idx : Nat} {D : va_G} {κ : ClassId × ClassId × ClassId} {a : Nat → Nat} {u : TS} {A : Nat → Prop} (hC : CallFix p m c cc nL s args WALL own) (hG : GW D κ a u A s H locs) (g : Nat) (q1 : g < 600) (q2 : J_entryOf u g < 60) (wl : Cond.methodLink own idx yX3_counts ∈ WALL) (hR : 0 + 1 ≤ R.frames ∧ 8 + (2 + 11) + 0 ≤ R.locals) (hls : ls.size = nL) (h8 : (rest.map fun v => v.category).sum ≤ 8) (hd : decode cc pc = .ok (.invokevirtual idx, 3)) (hcs : cs ≤ R.cells ∧ ss ≤ R.slots) (kk : ∀ (H1 : Heap) (locs1 : List Loc), GW D κ a u A s H1 locs1 → W p l e R s m args below meth c H1 locs1 cs ss Q (F0 m (pc + 3) ls (.int (bI (fCounts u g)) :: rest))) : W p l e R s m args below meth c H locs cs ss Q (F0 m pc ls (.int (nI g) :: .ref (a 5) :: rest)) :=
  tc_i hG (tr_V (n := 1) (k := 5) (ci := 3) (As := [.int (nI g)]) hC hG (c_J_counts l D κ a H.size u g q1 q2) rfl rfl wl w23 w206 w204 w205 (by decide +kernel) hR rfl hls rfl h8 hd hcs) (fun r u' H1 locs1 hq hG1 => by obtain ⟨rfl, rfl⟩ := hq; exact kk H1 locs1 hG1)

theorem dX3_dayOf_0 : decode cX3_dayOf 0 = .ok (.aload_n 0, 1) := by decide +kernel
theorem dX3_dayOf_1 : decode cX3_dayOf 1 = .ok (.getfield 9, 3) := by decide +kernel
theorem dX3_dayOf_10 : decode cX3_dayOf 10 = .ok (.iaload, 1) := by decide +kernel
theorem dX3_dayOf_11 : decode cX3_dayOf 11 = .ok (.ireturn, 1) := by decide +kernel
theorem dX3_dayOf_4 : decode cX3_dayOf 4 = .ok (.aload_n 0, 1) := by decide +kernel
theorem dX3_dayOf_5 : decode cX3_dayOf 5 = .ok (.getfield 35, 3) := by decide +kernel
theorem dX3_dayOf_8 : decode cX3_dayOf 8 = .ok (.iload_n 1, 1) := by decide +kernel
theorem dX3_dayOf_9 : decode cX3_dayOf 9 = .ok (.iaload, 1) := by decide +kernel
set_option maxHeartbeats 4000000 in
set_option maxRecDepth 100000 in
theorem c_J_dayOf (l : Launch) (D : va_G) (κ : ClassId × ClassId × ClassId) (a : Nat → Nat) (sz : Nat) (u : TS) (g : Nat) (q1 : g < 600) (q2 : J_entryOf u g < 60) : TM l yX3_dayOf cX3_dayOf 2 (some .int) 0 0 D κ a u sz [.ref (a 5), .int (nI g)] (QI D κ a sz (fun r u' => r = (nI (fDayOf u g)) ∧ u' = u)) := by
  refine TM.of (by decide +kernel) (Nat.le_of_ble_eq_true rfl) ?_
  intro p e s m below meth c ls hC hr hk hsz H locs hG hl
  have hx := hC.1
  have hb := hC.2.1
  have hl : lv_has ls 2 [(0, .ref (a 5)), (1, .int (nI g))] := hl
  refine lv_aload_n hx hb dX3_dayOf_0 rfl (lv_at hl 0 rfl) ?_
  refine gf_J_day hC hG (hC.2.2.2.2 _ w74) dX3_dayOf_1 ?_
  refine lv_aload_n hx hb dX3_dayOf_4 rfl (lv_at hl 0 rfl) ?_
  refine gf_J_entryOf hC hG (hC.2.2.2.2 _ w81) dX3_dayOf_5 ?_
  refine lv_iload_n hx hb dX3_dayOf_8 rfl (lv_at hl 1 rfl) ?_
  refine al_J_entryOf hC hG (by omega) dX3_dayOf_9 ?_
  refine al_J_day hC hG (by omega) dX3_dayOf_10 ?_
  exact te_i (v := (nI (J_day u (J_entryOf u g)))) hC hG hr hk ⟨(congrArg nI (show (J_day u (J_entryOf u g)) = fDayOf u g from by rfl)), rfl⟩ dX3_dayOf_11
theorem k_J_dayOf {p : Program} {l : Launch} {e : Env} {R : Room} {s : State} {m : MethodId} {args : Array Value} {below : List Frame} {meth : Method} {c : Code} {H : Heap} {locs : List Loc} {cs ss : Nat} {Q : State → Prop} {cc : ByteArray} {nL pc : Nat} {ls : Array Slot} {rest : List Value} {own : String} {idx : Nat} {D : va_G} {κ : ClassId × ClassId × ClassId} {a : Nat → Nat} {u : TS} {A : Nat → Prop} (hC : CallFix p m c cc nL s args WALL own) (hG : GW D κ a u A s H locs) (g : Nat) (q1 : g < 600) (q2 : J_entryOf u g < 60) (wl : Cond.methodLink own idx yX3_dayOf ∈ WALL) (hR : 0 + 1 ≤ R.frames ∧ 8 + (2 + 11) + 0 ≤ R.locals) (hls : ls.size = nL) (h8 : (rest.map fun v => v.category).sum ≤ 8) (hd : decode cc pc = .ok (.invokevirtual idx, 3)) (hcs : cs ≤ R.cells ∧ ss ≤ R.slots) (kk : ∀ (H1 : Heap) (locs1 : List Loc), GW D κ a u A s H1 locs1 → W p l e R s m args below meth c H1 locs1 cs ss Q (F0 m (pc + 3) ls (.int (nI (fDayOf u g)) :: rest))) : W p l e R s m args below meth c H locs cs ss Q (F0 m pc ls (.int (nI g) :: .ref (a 5) :: rest)) :=
  tc_i hG (tr_V (n := 1) (k := 5) (ci := 3) (As := [.int (nI g)]) hC hG (c_J_dayOf l D κ a H.size u g q1 q2) rfl rfl wl w23 w210 w208 w209 (by decide +kernel) hR rfl hls rfl h8 hd hcs) (fun r u' H1 locs1 hq hG1 => by obtain ⟨rfl, rfl⟩ := hq; exact kk H1 locs1 hG1)

theorem dX3_lastClosing_0 : decode cX3_lastClosing 0 = .ok (.aload_n 0, 1) := by decide +kernel
theorem dX3_lastClosing_1 : decode cX3_lastClosing 1 = .ok (.getfield 31, 3) := by decide +kernel
theorem dX3_lastClosing_11 : decode cX3_lastClosing 11 = .ok (.aload_n 0, 1) := by decide +kernel
theorem dX3_lastClosing_12 : decode cX3_lastClosing 12 = .ok (.getfield 28, 3) := by decide +kernel
theorem dX3_lastClosing_15 : decode cX3_lastClosing 15 = .ok (.iload_n 1, 1) := by decide +kernel
theorem dX3_lastClosing_16 : decode cX3_lastClosing 16 = .ok (.baload, 1) := by decide +kernel
theorem dX3_lastClosing_17 : decode cX3_lastClosing 17 = .ok (.ifCond .eq 14, 3) := by decide +kernel
theorem dX3_lastClosing_20 : decode cX3_lastClosing 20 = .ok (.aload_n 0, 1) := by decide +kernel
theorem dX3_lastClosing_21 : decode cX3_lastClosing 21 = .ok (.getfield 24, 3) := by decide +kernel
theorem dX3_lastClosing_24 : decode cX3_lastClosing 24 = .ok (.iload_n 1, 1) := by decide +kernel
theorem dX3_lastClosing_25 : decode cX3_lastClosing 25 = .ok (.baload, 1) := by decide +kernel
theorem dX3_lastClosing_26 : decode cX3_lastClosing 26 = .ok (.ifCond .ne 5, 3) := by decide +kernel
theorem dX3_lastClosing_29 : decode cX3_lastClosing 29 = .ok (.iload_n 1, 1) := by decide +kernel
theorem dX3_lastClosing_30 : decode cX3_lastClosing 30 = .ok (.ireturn, 1) := by decide +kernel
theorem dX3_lastClosing_31 : decode cX3_lastClosing 31 = .ok (.iinc 1 (-1), 3) := by decide +kernel
theorem dX3_lastClosing_34 : decode cX3_lastClosing 34 = .ok (.goto (-27), 3) := by decide +kernel
theorem dX3_lastClosing_37 : decode cX3_lastClosing 37 = .ok (.iconst (-1), 1) := by decide +kernel
theorem dX3_lastClosing_38 : decode cX3_lastClosing 38 = .ok (.ireturn, 1) := by decide +kernel
theorem dX3_lastClosing_4 : decode cX3_lastClosing 4 = .ok (.iconst 1, 1) := by decide +kernel
theorem dX3_lastClosing_5 : decode cX3_lastClosing 5 = .ok (.isub, 1) := by decide +kernel
theorem dX3_lastClosing_6 : decode cX3_lastClosing 6 = .ok (.istore_n 1, 1) := by decide +kernel
theorem dX3_lastClosing_7 : decode cX3_lastClosing 7 = .ok (.iload_n 1, 1) := by decide +kernel
theorem dX3_lastClosing_8 : decode cX3_lastClosing 8 = .ok (.ifCond .lt 29, 3) := by decide +kernel
set_option maxHeartbeats 4000000 in
set_option maxRecDepth 100000 in
theorem c_J_lastClosing (l : Launch) (D : va_G) (κ : ClassId × ClassId × ClassId) (a : Nat → Nat) (sz : Nat) (u : TS)  (q1 : OK u) : TM l yX3_lastClosing cX3_lastClosing 2 (some .int) 0 0 D κ a u sz [.ref (a 5)] (QI D κ a sz (fun r u' => r = (oI (fLastC u (J_count u))) ∧ u' = u)) := by
  refine TM.of (by decide +kernel) (Nat.le_of_ble_eq_true rfl) ?_
  intro p e s m below meth c ls hC hr hk hsz H locs hG hl
  have hx := hC.1
  have hb := hC.2.1
  have hl : lv_has ls 2 [(0, .ref (a 5))] := hl
  have qok := q1
  have ⟨n1, n2, n3, n4, n5, n6, n7, n8, n9, n10⟩ := qok.n
  refine lv_aload_n hx hb dX3_lastClosing_0 rfl (lv_at hl 0 rfl) ?_
  refine gf_J_count hC hG (hC.2.2.2.2 _ w80) dX3_lastClosing_1 ?_
  refine lv_iconst (v := nI 1) hx hb dX3_lastClosing_4 (by decide) ?_
  refine lv_isub hx hb dX3_lastClosing_5 ?_
  refine W.eq (g2 := F0 m 6 ls [.int (nI (J_count u) - 1)]) rfl ?_
  refine lv_istore_n (lv' := [(1, .int (nI (J_count u) - 1)), (0, .ref (a 5))]) hx hb dX3_lastClosing_6 rfl hl (by decide) rfl (fun ls hl => ?_)
  have lp7 : ∀ (n : Nat) (k : Nat), k < n → (k ≤ J_count u) → (fLastC u (J_count u) = fLastC u k) → ∀ (H : Heap) (locs : List Loc), GW D κ a u (AA a sz) s H locs → ∀ ls : Array Slot, lv_has ls 2 [(1, .int (nI k - 1)), (0, .ref (a 5))] → W p l e { frames := 0, cells := 0, slots := 0, locals := 0 } s m [.ref (a 5)].toArray below meth c H locs 0 0 (MQ below (QI D κ a sz (fun r u' => r = (oI (fLastC u (J_count u))) ∧ u' = u)) [.ref (a 5)].toArray s 0 0 (AA a sz)) (F0 m 7 ls []) := by
    intro n
    induction n with
    | zero =>
      intro k hm
      exact absurd hm (Nat.not_lt_zero _)
    | succ n ih7 =>
      intro k hm7 c7_1 c7_2 H locs hG ls hl
      refine lv_iload_n hx hb dX3_lastClosing_7 rfl (lv_at hl 0 rfl) ?_
      refine bm_lt (tgt := 37) hx hb (by omega) dX3_lastClosing_8 (by decide) (fun h8 => ?_) (fun j8 h8 => ?_)
      · refine lv_iconst (v := -1) hx hb dX3_lastClosing_37 (by decide) ?_
        exact te_i (v := (oI none)) hC hG hr hk ⟨(congrArg oI (show none = fLastC u (J_count u) from by rw [c7_2]; simp [fLastC, h8])), rfl⟩ dX3_lastClosing_38
      subst h8
      have hl : lv_has ls 2 [(1, .int (nI j8)), (0, .ref (a 5))] := by rw [nI_pred] at hl; exact hl
      refine lv_aload_n hx hb dX3_lastClosing_11 rfl (lv_at hl 1 rfl) ?_
      refine gf_J_isClosing hC hG (hC.2.2.2.2 _ w79) dX3_lastClosing_12 ?_
      refine lv_iload_n hx hb dX3_lastClosing_15 rfl (lv_at hl 0 rfl) ?_
      refine al_J_isClosing hC hG (by omega) dX3_lastClosing_16 ?_
      refine bb_eq (tgt := 31) hx hb dX3_lastClosing_17 (by decide) (fun h17 => ?_) (fun h17 => ?_)
      · refine lv_iinc (v := nI j8 - 1) (lv' := [(1, .int (nI j8 - 1)), (0, .ref (a 5))]) hx hb dX3_lastClosing_31 hl (k := 0) rfl (nI_mm _) (by decide) rfl (fun ls hl => ?_)
        refine lv_goto (tgt := 7) hx hb dX3_lastClosing_34 (by decide) ?_
        exact ih7  j8 (by omega) (by omega) (by rw [c7_2, fLastC, if_neg]; simp [h17]) H locs hG ls (lv_sub hl [0, 1] rfl)
      · refine lv_aload_n hx hb dX3_lastClosing_20 rfl (lv_at hl 1 rfl) ?_
        refine gf_J_gone hC hG (hC.2.2.2.2 _ w78) dX3_lastClosing_21 ?_
        refine lv_iload_n hx hb dX3_lastClosing_24 rfl (lv_at hl 0 rfl) ?_
        refine al_J_gone hC hG (by omega) dX3_lastClosing_25 ?_
        refine bb_ne (tgt := 31) hx hb dX3_lastClosing_26 (by decide) (fun h26 => ?_) (fun h26 => ?_)
        · refine lv_iinc (v := nI j8 - 1) (lv' := [(1, .int (nI j8 - 1)), (0, .ref (a 5))]) hx hb dX3_lastClosing_31 hl (k := 0) rfl (nI_mm _) (by decide) rfl (fun ls hl => ?_)
          refine lv_goto (tgt := 7) hx hb dX3_lastClosing_34 (by decide) ?_
          exact ih7  j8 (by omega) (by omega) (by rw [c7_2, fLastC, if_neg]; simp [h17, h26]) H locs hG ls (lv_sub hl [0, 1] rfl)
        · refine lv_iload_n hx hb dX3_lastClosing_29 rfl (lv_at hl 0 rfl) ?_
          exact te_i (v := (oI (some j8))) hC hG hr hk ⟨(congrArg oI (show (some j8) = fLastC u (J_count u) from by rw [c7_2, fLastC, if_pos ⟨by assumption, by assumption⟩])), rfl⟩ dX3_lastClosing_30
  exact lp7 _ (J_count u) (Nat.lt_succ_self _) (Nat.le_refl _) (rfl) H locs hG ls (lv_sub hl [0, 1] rfl)
theorem k_J_lastClosing {p : Program} {l : Launch} {e : Env} {R : Room} {s : State} {m : MethodId} {args : Array Value} {below : List Frame} {meth : Method} {c : Code} {H : Heap} {locs : List Loc} {cs ss : Nat} {Q : State → Prop} {cc : ByteArray} {nL pc : Nat} {ls : Array Slot} {rest : List Value} {own : String} {idx : Nat} {D : va_G} {κ : ClassId × ClassId × ClassId} {a : Nat → Nat} {u : TS} {A : Nat → Prop} (hC : CallFix p m c cc nL s args WALL own) (hG : GW D κ a u A s H locs)  (q1 : OK u) (wl : Cond.methodLink own idx yX3_lastClosing ∈ WALL) (hR : 0 + 1 ≤ R.frames ∧ 8 + (2 + 11) + 0 ≤ R.locals) (hls : ls.size = nL) (h8 : (rest.map fun v => v.category).sum ≤ 8) (hd : decode cc pc = .ok (.invokevirtual idx, 3)) (hcs : cs ≤ R.cells ∧ ss ≤ R.slots) (kk : ∀ (H1 : Heap) (locs1 : List Loc), GW D κ a u A s H1 locs1 → W p l e R s m args below meth c H1 locs1 cs ss Q (F0 m (pc + 3) ls (.int (oI (fLastC u (J_count u))) :: rest))) : W p l e R s m args below meth c H locs cs ss Q (F0 m pc ls (.ref (a 5) :: rest)) :=
  tc_i hG (tr_V (n := 0) (k := 5) (ci := 3) (As := []) hC hG (c_J_lastClosing l D κ a H.size u  q1) rfl rfl wl w23 w182 w180 w181 (by decide +kernel) hR rfl hls rfl h8 hd hcs) (fun r u' H1 locs1 hq hG1 => by obtain ⟨rfl, rfl⟩ := hq; exact kk H1 locs1 hG1)

theorem dX3_lastLocked_0 : decode cX3_lastLocked 0 = .ok (.aload_n 0, 1) := by decide +kernel
theorem dX3_lastLocked_1 : decode cX3_lastLocked 1 = .ok (.invokevirtual 65, 3) := by decide +kernel
theorem dX3_lastLocked_10 : decode cX3_lastLocked 10 = .ok (.iconst (-1), 1) := by decide +kernel
theorem dX3_lastLocked_11 : decode cX3_lastLocked 11 = .ok (.goto 9, 3) := by decide +kernel
theorem dX3_lastLocked_14 : decode cX3_lastLocked 14 = .ok (.aload_n 0, 1) := by decide +kernel
theorem dX3_lastLocked_15 : decode cX3_lastLocked 15 = .ok (.getfield 9, 3) := by decide +kernel
theorem dX3_lastLocked_18 : decode cX3_lastLocked 18 = .ok (.iload_n 1, 1) := by decide +kernel
theorem dX3_lastLocked_19 : decode cX3_lastLocked 19 = .ok (.iaload, 1) := by decide +kernel
theorem dX3_lastLocked_20 : decode cX3_lastLocked 20 = .ok (.ireturn, 1) := by decide +kernel
theorem dX3_lastLocked_4 : decode cX3_lastLocked 4 = .ok (.istore_n 1, 1) := by decide +kernel
theorem dX3_lastLocked_5 : decode cX3_lastLocked 5 = .ok (.iload_n 1, 1) := by decide +kernel
theorem dX3_lastLocked_6 : decode cX3_lastLocked 6 = .ok (.iconst (-1), 1) := by decide +kernel
theorem dX3_lastLocked_7 : decode cX3_lastLocked 7 = .ok (.if_icmp .ne 7, 3) := by decide +kernel
set_option maxHeartbeats 4000000 in
set_option maxRecDepth 100000 in
theorem c_J_lastLocked (l : Launch) (D : va_G) (κ : ClassId × ClassId × ClassId) (a : Nat → Nat) (sz : Nat) (u : TS)  (q1 : OK u) : TM l yX3_lastLocked cX3_lastLocked 2 (some .int) 1 21 D κ a u sz [.ref (a 5)] (QI D κ a sz (fun r u' => r = (oI (fLock u)) ∧ u' = u)) := by
  refine TM.of (by decide +kernel) (Nat.le_of_ble_eq_true rfl) ?_
  intro p e s m below meth c ls hC hr hk hsz H locs hG hl
  have hx := hC.1
  have hb := hC.2.1
  have hl : lv_has ls 2 [(0, .ref (a 5))] := hl
  have qok := q1
  have ⟨n1, n2, n3, n4, n5, n6, n7, n8, n9, n10⟩ := qok.n
  have hlt := fLastC_lt u (J_count u)
  refine lv_aload_n hx hb dX3_lastLocked_0 rfl (lv_at hl 0 rfl) ?_
  refine k_J_lastClosing hC hG  (q1) w179 ⟨by decide, by decide⟩ hl.1 (by decide) dX3_lastLocked_1 ⟨Nat.zero_le _, Nat.zero_le _⟩ (fun H locs hG => ?_)
  refine lv_istore_n (lv' := [(1, .int (oI (fLastC u (J_count u)))), (0, .ref (a 5))]) hx hb dX3_lastLocked_4 rfl hl (by decide) rfl (fun ls hl => ?_)
  refine lv_iload_n hx hb dX3_lastLocked_5 rfl (lv_at hl 0 rfl) ?_
  refine lv_iconst (v := -1) hx hb dX3_lastLocked_6 (by decide) ?_
  refine bo_ne (tgt := 14) hx hb (by intro j9 e9; have := hlt j9 e9; omega) dX3_lastLocked_7 (by decide) (fun h7 => ?_) (fun h7 => ?_)
  · obtain ⟨j, ej⟩ := Option.ne_none_iff_exists'.mp h7
    have hj := hlt j ej
    have hl : lv_has ls 2 [(1, .int (nI j)), (0, .ref (a 5))] := by rw [ej] at hl; exact hl
    refine lv_aload_n hx hb dX3_lastLocked_14 rfl (lv_at hl 1 rfl) ?_
    refine gf_J_day hC hG (hC.2.2.2.2 _ w74) dX3_lastLocked_15 ?_
    refine lv_iload_n hx hb dX3_lastLocked_18 rfl (lv_at hl 0 rfl) ?_
    refine al_J_day hC hG (by omega) dX3_lastLocked_19 ?_
    exact te_i (v := (oI (some (J_day u j)))) hC hG hr hk ⟨(congrArg oI (show (some (J_day u j)) = fLock u from by unfold fLock; rw [ej]; rfl)), rfl⟩ dX3_lastLocked_20
  · refine lv_iconst (v := -1) hx hb dX3_lastLocked_10 (by decide) ?_
    refine lv_goto (tgt := 20) hx hb dX3_lastLocked_11 (by decide) ?_
    exact te_i (v := (oI none)) hC hG hr hk ⟨(congrArg oI (show none = fLock u from by unfold fLock; rw [h7]; rfl)), rfl⟩ dX3_lastLocked_20
theorem k_J_lastLocked {p : Program} {l : Launch} {e : Env} {R : Room} {s : State} {m : MethodId} {args : Array Value} {below : List Frame} {meth : Method} {c : Code} {H : Heap} {locs : List Loc} {cs ss : Nat} {Q : State → Prop} {cc : ByteArray} {nL pc : Nat} {ls : Array Slot} {rest : List Value} {own : String} {idx : Nat} {D : va_G} {κ : ClassId × ClassId × ClassId} {a : Nat → Nat} {u : TS} {A : Nat → Prop} (hC : CallFix p m c cc nL s args WALL own) (hG : GW D κ a u A s H locs)  (q1 : OK u) (wl : Cond.methodLink own idx yX3_lastLocked ∈ WALL) (hR : 1 + 1 ≤ R.frames ∧ 8 + (2 + 11) + 21 ≤ R.locals) (hls : ls.size = nL) (h8 : (rest.map fun v => v.category).sum ≤ 8) (hd : decode cc pc = .ok (.invokevirtual idx, 3)) (hcs : cs ≤ R.cells ∧ ss ≤ R.slots) (kk : ∀ (H1 : Heap) (locs1 : List Loc), GW D κ a u A s H1 locs1 → W p l e R s m args below meth c H1 locs1 cs ss Q (F0 m (pc + 3) ls (.int (oI (fLock u)) :: rest))) : W p l e R s m args below meth c H locs cs ss Q (F0 m pc ls (.ref (a 5) :: rest)) :=
  tc_i hG (tr_V (n := 0) (k := 5) (ci := 3) (As := []) hC hG (c_J_lastLocked l D κ a H.size u  q1) rfl rfl wl w23 w178 w176 w177 (by decide +kernel) hR rfl hls rfl h8 hd hcs) (fun r u' H1 locs1 hq hG1 => by obtain ⟨rfl, rfl⟩ := hq; exact kk H1 locs1 hG1)

theorem dX3_countStanding_0 : decode cX3_countStanding 0 = .ok (.iconst 0, 1) := by decide +kernel
theorem dX3_countStanding_1 : decode cX3_countStanding 1 = .ok (.istore_n 1, 1) := by decide +kernel
theorem dX3_countStanding_12 : decode cX3_countStanding 12 = .ok (.aload_n 0, 1) := by decide +kernel
theorem dX3_countStanding_13 : decode cX3_countStanding 13 = .ok (.getfield 24, 3) := by decide +kernel
theorem dX3_countStanding_16 : decode cX3_countStanding 16 = .ok (.iload_n 2, 1) := by decide +kernel
theorem dX3_countStanding_17 : decode cX3_countStanding 17 = .ok (.baload, 1) := by decide +kernel
theorem dX3_countStanding_18 : decode cX3_countStanding 18 = .ok (.ifCond .ne 6, 3) := by decide +kernel
theorem dX3_countStanding_2 : decode cX3_countStanding 2 = .ok (.iconst 0, 1) := by decide +kernel
theorem dX3_countStanding_21 : decode cX3_countStanding 21 = .ok (.iinc 1 1, 3) := by decide +kernel
theorem dX3_countStanding_24 : decode cX3_countStanding 24 = .ok (.iinc 2 1, 3) := by decide +kernel
theorem dX3_countStanding_27 : decode cX3_countStanding 27 = .ok (.goto (-23), 3) := by decide +kernel
theorem dX3_countStanding_3 : decode cX3_countStanding 3 = .ok (.istore_n 2, 1) := by decide +kernel
theorem dX3_countStanding_30 : decode cX3_countStanding 30 = .ok (.iload_n 1, 1) := by decide +kernel
theorem dX3_countStanding_31 : decode cX3_countStanding 31 = .ok (.ireturn, 1) := by decide +kernel
theorem dX3_countStanding_4 : decode cX3_countStanding 4 = .ok (.iload_n 2, 1) := by decide +kernel
theorem dX3_countStanding_5 : decode cX3_countStanding 5 = .ok (.aload_n 0, 1) := by decide +kernel
theorem dX3_countStanding_6 : decode cX3_countStanding 6 = .ok (.getfield 31, 3) := by decide +kernel
theorem dX3_countStanding_9 : decode cX3_countStanding 9 = .ok (.if_icmp .ge 21, 3) := by decide +kernel
set_option maxHeartbeats 4000000 in
set_option maxRecDepth 100000 in
theorem c_J_countStanding (l : Launch) (D : va_G) (κ : ClassId × ClassId × ClassId) (a : Nat → Nat) (sz : Nat) (u : TS)  (q1 : OK u) : TM l yX3_countStanding cX3_countStanding 3 (some .int) 0 0 D κ a u sz [.ref (a 5)] (QI D κ a sz (fun r u' => r = (nI (fStand u (J_count u))) ∧ u' = u)) := by
  refine TM.of (by decide +kernel) (Nat.le_of_ble_eq_true rfl) ?_
  intro p e s m below meth c ls hC hr hk hsz H locs hG hl
  have hx := hC.1
  have hb := hC.2.1
  have hl : lv_has ls 3 [(0, .ref (a 5))] := hl
  have qok := q1
  have ⟨n1, n2, n3, n4, n5, n6, n7, n8, n9, n10⟩ := qok.n
  refine lv_iconst (v := nI 0) hx hb dX3_countStanding_0 (by decide) ?_
  refine lv_istore_n (lv' := [(1, .int (nI 0)), (0, .ref (a 5))]) hx hb dX3_countStanding_1 rfl hl (by decide) rfl (fun ls hl => ?_)
  refine lv_iconst (v := nI 0) hx hb dX3_countStanding_2 (by decide) ?_
  refine lv_istore_n (lv' := [(2, .int (nI 0)), (1, .int (nI 0)), (0, .ref (a 5))]) hx hb dX3_countStanding_3 rfl hl (by decide) rfl (fun ls hl => ?_)
  have lp4 : ∀ (n : Nat) (i : Nat), J_count u - i < n → (i ≤ J_count u) → ∀ (H : Heap) (locs : List Loc), GW D κ a u (AA a sz) s H locs → ∀ ls : Array Slot, lv_has ls 3 [(2, .int (nI i)), (1, .int (nI (fStand u i))), (0, .ref (a 5))] → W p l e { frames := 0, cells := 0, slots := 0, locals := 0 } s m [.ref (a 5)].toArray below meth c H locs 0 0 (MQ below (QI D κ a sz (fun r u' => r = (nI (fStand u (J_count u))) ∧ u' = u)) [.ref (a 5)].toArray s 0 0 (AA a sz)) (F0 m 4 ls []) := by
    intro n
    induction n with
    | zero =>
      intro i hm
      exact absurd hm (Nat.not_lt_zero _)
    | succ n ih4 =>
      intro i hm4 c4_1 H locs hG ls hl
      have f1 := fStand_le u i
      refine lv_iload_n hx hb dX3_countStanding_4 rfl (lv_at hl 0 rfl) ?_
      refine lv_aload_n hx hb dX3_countStanding_5 rfl (lv_at hl 2 rfl) ?_
      refine gf_J_count hC hG (hC.2.2.2.2 _ w80) dX3_countStanding_6 ?_
      refine bn_ge (tgt := 30) hx hb (by omega) (by omega) dX3_countStanding_9 (by decide) (fun h9 => ?_) (fun h9 => ?_)
      · refine lv_iload_n hx hb dX3_countStanding_30 rfl (lv_at hl 1 rfl) ?_
        have hi : i = J_count u := by omega
        exact te_i (v := (nI (fStand u i))) hC hG hr hk ⟨(congrArg nI (show fStand u i = fStand u (J_count u) from by rw [hi])), rfl⟩ dX3_countStanding_31
      · refine lv_aload_n hx hb dX3_countStanding_12 rfl (lv_at hl 2 rfl) ?_
        refine gf_J_gone hC hG (hC.2.2.2.2 _ w78) dX3_countStanding_13 ?_
        refine lv_iload_n hx hb dX3_countStanding_16 rfl (lv_at hl 0 rfl) ?_
        refine al_J_gone hC hG (by omega) dX3_countStanding_17 ?_
        refine bb_ne (tgt := 24) hx hb dX3_countStanding_18 (by decide) (fun h18 => ?_) (fun h18 => ?_)
        · refine lv_iinc (v := (nI (i + 1))) (lv' := [(2, .int (nI (i + 1))), (1, .int (nI (fStand u i))), (0, .ref (a 5))]) hx hb dX3_countStanding_24 hl (k := 0) rfl (nI_1 _) (by decide) rfl (fun ls hl => ?_)
          refine lv_goto (tgt := 4) hx hb dX3_countStanding_27 (by decide) ?_
          have e4_1 : fStand u (i + 1) = fStand u i := by simp [fStand, h9, h18]
          have hl : lv_has ls 3 [(2, .int (nI (i + 1))), (1, .int (nI (fStand u (i + 1)))), (0, .ref (a 5))] := by rw [e4_1]; exact hl
          exact ih4  (i + 1) (by omega) (by omega) H locs hG ls (lv_sub hl [0, 1, 2] rfl)
        · refine lv_iinc (v := (nI (fStand u i + 1))) (lv' := [(1, .int (nI (fStand u i + 1))), (2, .int (nI i)), (0, .ref (a 5))]) hx hb dX3_countStanding_21 hl (k := 1) rfl (nI_1 _) (by decide) rfl (fun ls hl => ?_)
          refine lv_iinc (v := (nI (i + 1))) (lv' := [(2, .int (nI (i + 1))), (1, .int (nI (fStand u i + 1))), (0, .ref (a 5))]) hx hb dX3_countStanding_24 hl (k := 1) rfl (nI_1 _) (by decide) rfl (fun ls hl => ?_)
          refine lv_goto (tgt := 4) hx hb dX3_countStanding_27 (by decide) ?_
          have e4_2 : fStand u (i + 1) = (fStand u i + 1) := by simp [fStand, h9, h18]
          have hl : lv_has ls 3 [(2, .int (nI (i + 1))), (1, .int (nI (fStand u (i + 1)))), (0, .ref (a 5))] := by rw [e4_2]; exact hl
          exact ih4  (i + 1) (by omega) (by omega) H locs hG ls (lv_sub hl [0, 1, 2] rfl)
  have e4_3 : fStand u 0 = 0 := by rfl
  have hl : lv_has ls 3 [(2, .int (nI 0)), (1, .int (nI (fStand u 0))), (0, .ref (a 5))] := by rw [e4_3]; exact hl
  exact lp4 _ 0 (Nat.lt_succ_self _) (by omega) H locs hG ls (lv_sub hl [0, 1, 2] rfl)
theorem k_J_countStanding {p : Program} {l : Launch} {e : Env} {R : Room} {s : State} {m : MethodId} {args : Array Value} {below : List Frame} {meth : Method} {c : Code} {H : Heap} {locs : List Loc} {cs ss : Nat} {Q : State → Prop} {cc : ByteArray} {nL pc : Nat} {ls : Array Slot} {rest : List Value} {own : String} {idx : Nat} {D : va_G} {κ : ClassId × ClassId × ClassId} {a : Nat → Nat} {u : TS} {A : Nat → Prop} (hC : CallFix p m c cc nL s args WALL own) (hG : GW D κ a u A s H locs)  (q1 : OK u) (wl : Cond.methodLink own idx yX3_countStanding ∈ WALL) (hR : 0 + 1 ≤ R.frames ∧ 8 + (3 + 11) + 0 ≤ R.locals) (hls : ls.size = nL) (h8 : (rest.map fun v => v.category).sum ≤ 8) (hd : decode cc pc = .ok (.invokevirtual idx, 3)) (hcs : cs ≤ R.cells ∧ ss ≤ R.slots) (kk : ∀ (H1 : Heap) (locs1 : List Loc), GW D κ a u A s H1 locs1 → W p l e R s m args below meth c H1 locs1 cs ss Q (F0 m (pc + 3) ls (.int (nI (fStand u (J_count u))) :: rest))) : W p l e R s m args below meth c H locs cs ss Q (F0 m pc ls (.ref (a 5) :: rest)) :=
  tc_i hG (tr_V (n := 0) (k := 5) (ci := 3) (As := []) hC hG (c_J_countStanding l D κ a H.size u  q1) rfl rfl wl w23 w166 w164 w165 (by decide +kernel) hR rfl hls rfl h8 hd hcs) (fun r u' H1 locs1 hq hG1 => by obtain ⟨rfl, rfl⟩ := hq; exact kk H1 locs1 hG1)

theorem dX3_amountUpTo_0 : decode cX3_amountUpTo 0 = .ok (.lconst 0, 1) := by decide +kernel
theorem dX3_amountUpTo_1 : decode cX3_amountUpTo 1 = .ok (.lstore_n 3, 1) := by decide +kernel
theorem dX3_amountUpTo_11 : decode cX3_amountUpTo 11 = .ok (.if_icmp .ge 49, 3) := by decide +kernel
theorem dX3_amountUpTo_14 : decode cX3_amountUpTo 14 = .ok (.aload_n 0, 1) := by decide +kernel
theorem dX3_amountUpTo_15 : decode cX3_amountUpTo 15 = .ok (.getfield 38, 3) := by decide +kernel
theorem dX3_amountUpTo_18 : decode cX3_amountUpTo 18 = .ok (.iload 5, 2) := by decide +kernel
theorem dX3_amountUpTo_2 : decode cX3_amountUpTo 2 = .ok (.iconst 0, 1) := by decide +kernel
theorem dX3_amountUpTo_20 : decode cX3_amountUpTo 20 = .ok (.iaload, 1) := by decide +kernel
theorem dX3_amountUpTo_21 : decode cX3_amountUpTo 21 = .ok (.iload_n 1, 1) := by decide +kernel
theorem dX3_amountUpTo_22 : decode cX3_amountUpTo 22 = .ok (.if_icmp .ne 32, 3) := by decide +kernel
theorem dX3_amountUpTo_25 : decode cX3_amountUpTo 25 = .ok (.aload_n 0, 1) := by decide +kernel
theorem dX3_amountUpTo_26 : decode cX3_amountUpTo 26 = .ok (.iload 5, 2) := by decide +kernel
theorem dX3_amountUpTo_28 : decode cX3_amountUpTo 28 = .ok (.invokevirtual 69, 3) := by decide +kernel
theorem dX3_amountUpTo_3 : decode cX3_amountUpTo 3 = .ok (.istore 5, 2) := by decide +kernel
theorem dX3_amountUpTo_31 : decode cX3_amountUpTo 31 = .ok (.ifCond .eq 23, 3) := by decide +kernel
theorem dX3_amountUpTo_34 : decode cX3_amountUpTo 34 = .ok (.aload_n 0, 1) := by decide +kernel
theorem dX3_amountUpTo_35 : decode cX3_amountUpTo 35 = .ok (.iload 5, 2) := by decide +kernel
theorem dX3_amountUpTo_37 : decode cX3_amountUpTo 37 = .ok (.invokevirtual 73, 3) := by decide +kernel
theorem dX3_amountUpTo_40 : decode cX3_amountUpTo 40 = .ok (.iload_n 2, 1) := by decide +kernel
theorem dX3_amountUpTo_41 : decode cX3_amountUpTo 41 = .ok (.if_icmp .gt 13, 3) := by decide +kernel
theorem dX3_amountUpTo_44 : decode cX3_amountUpTo 44 = .ok (.lload_n 3, 1) := by decide +kernel
theorem dX3_amountUpTo_45 : decode cX3_amountUpTo 45 = .ok (.aload_n 0, 1) := by decide +kernel
theorem dX3_amountUpTo_46 : decode cX3_amountUpTo 46 = .ok (.getfield 41, 3) := by decide +kernel
theorem dX3_amountUpTo_49 : decode cX3_amountUpTo 49 = .ok (.iload 5, 2) := by decide +kernel
theorem dX3_amountUpTo_5 : decode cX3_amountUpTo 5 = .ok (.iload 5, 2) := by decide +kernel
theorem dX3_amountUpTo_51 : decode cX3_amountUpTo 51 = .ok (.laload, 1) := by decide +kernel
theorem dX3_amountUpTo_52 : decode cX3_amountUpTo 52 = .ok (.ladd, 1) := by decide +kernel
theorem dX3_amountUpTo_53 : decode cX3_amountUpTo 53 = .ok (.lstore_n 3, 1) := by decide +kernel
theorem dX3_amountUpTo_54 : decode cX3_amountUpTo 54 = .ok (.iinc 5 1, 3) := by decide +kernel
theorem dX3_amountUpTo_57 : decode cX3_amountUpTo 57 = .ok (.goto (-52), 3) := by decide +kernel
theorem dX3_amountUpTo_60 : decode cX3_amountUpTo 60 = .ok (.lload_n 3, 1) := by decide +kernel
theorem dX3_amountUpTo_61 : decode cX3_amountUpTo 61 = .ok (.lreturn, 1) := by decide +kernel
theorem dX3_amountUpTo_7 : decode cX3_amountUpTo 7 = .ok (.aload_n 0, 1) := by decide +kernel
theorem dX3_amountUpTo_8 : decode cX3_amountUpTo 8 = .ok (.getfield 48, 3) := by decide +kernel
set_option maxHeartbeats 4000000 in
set_option maxRecDepth 100000 in
theorem c_J_amountUpTo (l : Launch) (D : va_G) (κ : ClassId × ClassId × ClassId) (a : Nat → Nat) (sz : Nat) (u : TS) (w : Nat) (d : Nat) (q1 : OK u) (q2 : w < 600 ∧ d < 600) : TM l yX3_amountUpTo cX3_amountUpTo 6 (some .long) 1 21 D κ a u sz [.ref (a 5), .int (nI w), .int (nI d)] (QL D κ a sz (fun r u' => r = (fAmt u w d (J_legCount u)) ∧ u' = u)) := by
  refine TM.of (by decide +kernel) (Nat.le_of_ble_eq_true rfl) ?_
  intro p e s m below meth c ls hC hr hk hsz H locs hG hl
  have hx := hC.1
  have hb := hC.2.1
  have hl : lv_has ls 6 [(0, .ref (a 5)), (1, .int (nI w)), (2, .int (nI d))] := hl
  have qok := q1
  have ⟨n1, n2, n3, n4, n5, n6, n7, n8, n9, n10⟩ := qok.n
  refine lv_lconst (v := 0) hx hb dX3_amountUpTo_0 (by decide) ?_
  refine lv_lstore_n (lv' := [(3, .long (0 : Int64)), (0, .ref (a 5)), (1, .int (nI w)), (2, .int (nI d))]) hx hb dX3_amountUpTo_1 rfl hl (by decide) rfl (fun ls hl => ?_)
  refine lv_iconst (v := nI 0) hx hb dX3_amountUpTo_2 (by decide) ?_
  refine lv_istore (lv' := [(5, .int (nI 0)), (3, .long (0 : Int64)), (0, .ref (a 5)), (1, .int (nI w)), (2, .int (nI d))]) hx hb dX3_amountUpTo_3 hl (by decide) rfl (fun ls hl => ?_)
  have lp5 : ∀ (n : Nat) (i : Nat), J_legCount u - i < n → (i ≤ J_legCount u) → ∀ (H : Heap) (locs : List Loc), GW D κ a u (AA a sz) s H locs → ∀ ls : Array Slot, lv_has ls 6 [(5, .int (nI i)), (3, .long (fAmt u w d i)), (0, .ref (a 5)), (1, .int (nI w)), (2, .int (nI d))] → W p l e { frames := 1, cells := 0, slots := 0, locals := 21 } s m [.ref (a 5), .int (nI w), .int (nI d)].toArray below meth c H locs 0 0 (MQ below (QL D κ a sz (fun r u' => r = (fAmt u w d (J_legCount u)) ∧ u' = u)) [.ref (a 5), .int (nI w), .int (nI d)].toArray s 0 0 (AA a sz)) (F0 m 5 ls []) := by
    intro n
    induction n with
    | zero =>
      intro i hm
      exact absurd hm (Nat.not_lt_zero _)
    | succ n ih5 =>
      intro i hm5 c5_1 H locs hG ls hl
      refine lv_iload hx hb dX3_amountUpTo_5 (lv_at hl 0 rfl) ?_
      refine lv_aload_n hx hb dX3_amountUpTo_7 rfl (lv_at hl 2 rfl) ?_
      refine gf_J_legCount hC hG (hC.2.2.2.2 _ w85) dX3_amountUpTo_8 ?_
      refine bn_ge (tgt := 60) hx hb (by omega) (by omega) dX3_amountUpTo_11 (by decide) (fun h11 => ?_) (fun h11 => ?_)
      · refine lv_lload_n hx hb dX3_amountUpTo_60 rfl (lv_at hl 1 rfl) ?_
        have hi : i = J_legCount u := by omega
        exact te_l hC hG hr hk ⟨(show fAmt u w d i = fAmt u w d (J_legCount u) from by rw [hi]), rfl⟩ dX3_amountUpTo_61
      · have k1 := q1.leg (g := i) (by omega)
        have k2 := q1.ent k1.1
        refine lv_aload_n hx hb dX3_amountUpTo_14 rfl (lv_at hl 2 rfl) ?_
        refine gf_J_account hC hG (hC.2.2.2.2 _ w82) dX3_amountUpTo_15 ?_
        refine lv_iload hx hb dX3_amountUpTo_18 (lv_at hl 0 rfl) ?_
        refine al_J_account hC hG (by omega) dX3_amountUpTo_20 ?_
        refine lv_iload_n hx hb dX3_amountUpTo_21 rfl (lv_at hl 3 rfl) ?_
        refine bn_ne (tgt := 54) hx hb (by omega) (by omega) dX3_amountUpTo_22 (by decide) (fun h22 => ?_) (fun h22 => ?_)
        · refine lv_iinc (v := (nI (i + 1))) (lv' := [(5, .int (nI (i + 1))), (3, .long (fAmt u w d i)), (0, .ref (a 5)), (1, .int (nI w)), (2, .int (nI d))]) hx hb dX3_amountUpTo_54 hl (k := 0) rfl (nI_1 _) (by decide) rfl (fun ls hl => ?_)
          refine lv_goto (tgt := 5) hx hb dX3_amountUpTo_57 (by decide) ?_
          have e5_1 : fAmt u w d (i + 1) = fAmt u w d i := by simp [fAmt, h11, h22]; try omega
          have hl : lv_has ls 6 [(5, .int (nI (i + 1))), (3, .long (fAmt u w d (i + 1))), (0, .ref (a 5)), (1, .int (nI w)), (2, .int (nI d))] := by rw [e5_1]; exact hl
          exact ih5  (i + 1) (by omega) (by omega) H locs hG ls (lv_sub hl [0, 1, 2, 3, 4] rfl)
        · refine lv_aload_n hx hb dX3_amountUpTo_25 rfl (lv_at hl 2 rfl) ?_
          refine lv_iload hx hb dX3_amountUpTo_26 (lv_at hl 0 rfl) ?_
          refine k_J_counts hC hG i (by omega) (by omega) w203 ⟨by decide, by decide⟩ hl.1 (by decide) dX3_amountUpTo_28 ⟨Nat.zero_le _, Nat.zero_le _⟩ (fun H locs hG => ?_)
          refine bb_eq (tgt := 54) hx hb dX3_amountUpTo_31 (by decide) (fun h31 => ?_) (fun h31 => ?_)
          · refine lv_iinc (v := (nI (i + 1))) (lv' := [(5, .int (nI (i + 1))), (3, .long (fAmt u w d i)), (0, .ref (a 5)), (1, .int (nI w)), (2, .int (nI d))]) hx hb dX3_amountUpTo_54 hl (k := 0) rfl (nI_1 _) (by decide) rfl (fun ls hl => ?_)
            refine lv_goto (tgt := 5) hx hb dX3_amountUpTo_57 (by decide) ?_
            have e5_2 : fAmt u w d (i + 1) = fAmt u w d i := by simp [fAmt, h11, h22, h31]; try omega
            have hl : lv_has ls 6 [(5, .int (nI (i + 1))), (3, .long (fAmt u w d (i + 1))), (0, .ref (a 5)), (1, .int (nI w)), (2, .int (nI d))] := by rw [e5_2]; exact hl
            exact ih5  (i + 1) (by omega) (by omega) H locs hG ls (lv_sub hl [0, 1, 2, 3, 4] rfl)
          · refine lv_aload_n hx hb dX3_amountUpTo_34 rfl (lv_at hl 2 rfl) ?_
            refine lv_iload hx hb dX3_amountUpTo_35 (lv_at hl 0 rfl) ?_
            refine k_J_dayOf hC hG i (by omega) (by omega) w207 ⟨by decide, by decide⟩ hl.1 (by decide) dX3_amountUpTo_37 ⟨Nat.zero_le _, Nat.zero_le _⟩ (fun H locs hG => ?_)
            refine lv_iload_n hx hb dX3_amountUpTo_40 rfl (lv_at hl 4 rfl) ?_
            have k3 : fDayOf u i ≤ 364 := k2.2.1
            refine bn_gt (tgt := 54) hx hb (by omega) (by omega) dX3_amountUpTo_41 (by decide) (fun h41 => ?_) (fun h41 => ?_)
            · refine lv_iinc (v := (nI (i + 1))) (lv' := [(5, .int (nI (i + 1))), (3, .long (fAmt u w d i)), (0, .ref (a 5)), (1, .int (nI w)), (2, .int (nI d))]) hx hb dX3_amountUpTo_54 hl (k := 0) rfl (nI_1 _) (by decide) rfl (fun ls hl => ?_)
              refine lv_goto (tgt := 5) hx hb dX3_amountUpTo_57 (by decide) ?_
              have e5_3 : fAmt u w d (i + 1) = fAmt u w d i := by simp [fAmt, h11, h22, h31, h41]; try omega
              have hl : lv_has ls 6 [(5, .int (nI (i + 1))), (3, .long (fAmt u w d (i + 1))), (0, .ref (a 5)), (1, .int (nI w)), (2, .int (nI d))] := by rw [e5_3]; exact hl
              exact ih5  (i + 1) (by omega) (by omega) H locs hG ls (lv_sub hl [0, 1, 2, 3, 4] rfl)
            · refine lv_lload_n hx hb dX3_amountUpTo_44 rfl (lv_at hl 1 rfl) ?_
              refine lv_aload_n hx hb dX3_amountUpTo_45 rfl (lv_at hl 2 rfl) ?_
              refine gf_J_amount hC hG (hC.2.2.2.2 _ w83) dX3_amountUpTo_46 ?_
              refine lv_iload hx hb dX3_amountUpTo_49 (lv_at hl 0 rfl) ?_
              refine al_J_amount hC hG (by omega) dX3_amountUpTo_51 ?_
              refine lv_ladd hx hb dX3_amountUpTo_52 ?_
              refine lv_lstore_n (lv' := [(3, .long (fAmt u w d i + (J_amount u i))), (5, .int (nI i)), (0, .ref (a 5)), (1, .int (nI w)), (2, .int (nI d))]) hx hb dX3_amountUpTo_53 rfl hl (by decide) rfl (fun ls hl => ?_)
              refine lv_iinc (v := (nI (i + 1))) (lv' := [(5, .int (nI (i + 1))), (3, .long (fAmt u w d i + (J_amount u i))), (0, .ref (a 5)), (1, .int (nI w)), (2, .int (nI d))]) hx hb dX3_amountUpTo_54 hl (k := 1) rfl (nI_1 _) (by decide) rfl (fun ls hl => ?_)
              refine lv_goto (tgt := 5) hx hb dX3_amountUpTo_57 (by decide) ?_
              have e5_4 : fAmt u w d (i + 1) = (fAmt u w d i + (J_amount u i)) := by simp [fAmt, h11, h22, h31, h41]; try omega
              have hl : lv_has ls 6 [(5, .int (nI (i + 1))), (3, .long (fAmt u w d (i + 1))), (0, .ref (a 5)), (1, .int (nI w)), (2, .int (nI d))] := by rw [e5_4]; exact hl
              exact ih5  (i + 1) (by omega) (by omega) H locs hG ls (lv_sub hl [0, 1, 2, 3, 4] rfl)
  have e5_5 : fAmt u w d 0 = (0 : Int64) := by rfl
  have hl : lv_has ls 6 [(5, .int (nI 0)), (3, .long (fAmt u w d 0)), (0, .ref (a 5)), (1, .int (nI w)), (2, .int (nI d))] := by rw [e5_5]; exact hl
  exact lp5 _ 0 (Nat.lt_succ_self _) (by omega) H locs hG ls (lv_sub hl [0, 1, 2, 3, 4] rfl)
theorem k_J_amountUpTo {p : Program} {l : Launch} {e : Env} {R : Room} {s : State} {m : MethodId} {args : Array Value} {below : List Frame} {meth : Method} {c : Code} {H : Heap} {locs : List Loc} {cs ss : Nat} {Q : State → Prop} {cc : ByteArray} {nL pc : Nat} {ls : Array Slot} {rest : List Value} {own : String} {idx : Nat} {D : va_G} {κ : ClassId × ClassId × ClassId} {a : Nat → Nat} {u : TS} {A : Nat → Prop} (hC : CallFix p m c cc nL s args WALL own) (hG : GW D κ a u A s H locs) (w : Nat) (d : Nat) (q1 : OK u) (q2 : w < 600 ∧ d < 600) (wl : Cond.methodLink own idx yX3_amountUpTo ∈ WALL) (hR : 1 + 1 ≤ R.frames ∧ 8 + (6 + 11) + 21 ≤ R.locals) (hls : ls.size = nL) (h8 : (rest.map fun v => v.category).sum ≤ 8) (hd : decode cc pc = .ok (.invokevirtual idx, 3)) (hcs : cs ≤ R.cells ∧ ss ≤ R.slots) (kk : ∀ (H1 : Heap) (locs1 : List Loc), GW D κ a u A s H1 locs1 → W p l e R s m args below meth c H1 locs1 cs ss Q (F0 m (pc + 3) ls (.long (fAmt u w d (J_legCount u)) :: rest))) : W p l e R s m args below meth c H locs cs ss Q (F0 m pc ls (.int (nI d) :: .int (nI w) :: .ref (a 5) :: rest)) :=
  tc_l hG (tr_V (n := 2) (k := 5) (ci := 3) (As := [.int (nI w), .int (nI d)]) hC hG (c_J_amountUpTo l D κ a H.size u w d q1 q2) rfl rfl wl w23 w202 w200 w201 (by decide +kernel) hR rfl hls rfl h8 hd hcs) (fun r u' H1 locs1 hq hG1 => by obtain ⟨rfl, rfl⟩ := hq; exact kk H1 locs1 hG1)

theorem dX3_worthOn_0 : decode cX3_worthOn 0 = .ok (.lconst 0, 1) := by decide +kernel
theorem dX3_worthOn_1 : decode cX3_worthOn 1 = .ok (.lstore_n 2, 1) := by decide +kernel
theorem dX3_worthOn_11 : decode cX3_worthOn 11 = .ok (.if_icmp .ge 39, 3) := by decide +kernel
theorem dX3_worthOn_14 : decode cX3_worthOn 14 = .ok (.aload_n 0, 1) := by decide +kernel
theorem dX3_worthOn_15 : decode cX3_worthOn 15 = .ok (.getfield 38, 3) := by decide +kernel
theorem dX3_worthOn_18 : decode cX3_worthOn 18 = .ok (.iload 4, 2) := by decide +kernel
theorem dX3_worthOn_2 : decode cX3_worthOn 2 = .ok (.iconst 0, 1) := by decide +kernel
theorem dX3_worthOn_20 : decode cX3_worthOn 20 = .ok (.iaload, 1) := by decide +kernel
theorem dX3_worthOn_21 : decode cX3_worthOn 21 = .ok (.iload_n 1, 1) := by decide +kernel
theorem dX3_worthOn_22 : decode cX3_worthOn 22 = .ok (.if_icmp .ne 22, 3) := by decide +kernel
theorem dX3_worthOn_25 : decode cX3_worthOn 25 = .ok (.aload_n 0, 1) := by decide +kernel
theorem dX3_worthOn_26 : decode cX3_worthOn 26 = .ok (.iload 4, 2) := by decide +kernel
theorem dX3_worthOn_28 : decode cX3_worthOn 28 = .ok (.invokevirtual 69, 3) := by decide +kernel
theorem dX3_worthOn_3 : decode cX3_worthOn 3 = .ok (.istore 4, 2) := by decide +kernel
theorem dX3_worthOn_31 : decode cX3_worthOn 31 = .ok (.ifCond .eq 13, 3) := by decide +kernel
theorem dX3_worthOn_34 : decode cX3_worthOn 34 = .ok (.lload_n 2, 1) := by decide +kernel
theorem dX3_worthOn_35 : decode cX3_worthOn 35 = .ok (.aload_n 0, 1) := by decide +kernel
theorem dX3_worthOn_36 : decode cX3_worthOn 36 = .ok (.getfield 45, 3) := by decide +kernel
theorem dX3_worthOn_39 : decode cX3_worthOn 39 = .ok (.iload 4, 2) := by decide +kernel
theorem dX3_worthOn_41 : decode cX3_worthOn 41 = .ok (.laload, 1) := by decide +kernel
theorem dX3_worthOn_42 : decode cX3_worthOn 42 = .ok (.ladd, 1) := by decide +kernel
theorem dX3_worthOn_43 : decode cX3_worthOn 43 = .ok (.lstore_n 2, 1) := by decide +kernel
theorem dX3_worthOn_44 : decode cX3_worthOn 44 = .ok (.iinc 4 1, 3) := by decide +kernel
theorem dX3_worthOn_47 : decode cX3_worthOn 47 = .ok (.goto (-42), 3) := by decide +kernel
theorem dX3_worthOn_5 : decode cX3_worthOn 5 = .ok (.iload 4, 2) := by decide +kernel
theorem dX3_worthOn_50 : decode cX3_worthOn 50 = .ok (.lload_n 2, 1) := by decide +kernel
theorem dX3_worthOn_51 : decode cX3_worthOn 51 = .ok (.lreturn, 1) := by decide +kernel
theorem dX3_worthOn_7 : decode cX3_worthOn 7 = .ok (.aload_n 0, 1) := by decide +kernel
theorem dX3_worthOn_8 : decode cX3_worthOn 8 = .ok (.getfield 48, 3) := by decide +kernel
set_option maxHeartbeats 4000000 in
set_option maxRecDepth 100000 in
theorem c_J_worthOn (l : Launch) (D : va_G) (κ : ClassId × ClassId × ClassId) (a : Nat → Nat) (sz : Nat) (u : TS) (w : Nat) (q1 : OK u) (q2 : w < 600) : TM l yX3_worthOn cX3_worthOn 5 (some .long) 1 21 D κ a u sz [.ref (a 5), .int (nI w)] (QL D κ a sz (fun r u' => r = (fWor u w (J_legCount u)) ∧ u' = u)) := by
  refine TM.of (by decide +kernel) (Nat.le_of_ble_eq_true rfl) ?_
  intro p e s m below meth c ls hC hr hk hsz H locs hG hl
  have hx := hC.1
  have hb := hC.2.1
  have hl : lv_has ls 5 [(0, .ref (a 5)), (1, .int (nI w))] := hl
  have qok := q1
  have ⟨n1, n2, n3, n4, n5, n6, n7, n8, n9, n10⟩ := qok.n
  refine lv_lconst (v := 0) hx hb dX3_worthOn_0 (by decide) ?_
  refine lv_lstore_n (lv' := [(2, .long (0 : Int64)), (0, .ref (a 5)), (1, .int (nI w))]) hx hb dX3_worthOn_1 rfl hl (by decide) rfl (fun ls hl => ?_)
  refine lv_iconst (v := nI 0) hx hb dX3_worthOn_2 (by decide) ?_
  refine lv_istore (lv' := [(4, .int (nI 0)), (2, .long (0 : Int64)), (0, .ref (a 5)), (1, .int (nI w))]) hx hb dX3_worthOn_3 hl (by decide) rfl (fun ls hl => ?_)
  have lp5 : ∀ (n : Nat) (i : Nat), J_legCount u - i < n → (i ≤ J_legCount u) → ∀ (H : Heap) (locs : List Loc), GW D κ a u (AA a sz) s H locs → ∀ ls : Array Slot, lv_has ls 5 [(4, .int (nI i)), (2, .long (fWor u w i)), (0, .ref (a 5)), (1, .int (nI w))] → W p l e { frames := 1, cells := 0, slots := 0, locals := 21 } s m [.ref (a 5), .int (nI w)].toArray below meth c H locs 0 0 (MQ below (QL D κ a sz (fun r u' => r = (fWor u w (J_legCount u)) ∧ u' = u)) [.ref (a 5), .int (nI w)].toArray s 0 0 (AA a sz)) (F0 m 5 ls []) := by
    intro n
    induction n with
    | zero =>
      intro i hm
      exact absurd hm (Nat.not_lt_zero _)
    | succ n ih5 =>
      intro i hm5 c5_1 H locs hG ls hl
      refine lv_iload hx hb dX3_worthOn_5 (lv_at hl 0 rfl) ?_
      refine lv_aload_n hx hb dX3_worthOn_7 rfl (lv_at hl 2 rfl) ?_
      refine gf_J_legCount hC hG (hC.2.2.2.2 _ w85) dX3_worthOn_8 ?_
      refine bn_ge (tgt := 50) hx hb (by omega) (by omega) dX3_worthOn_11 (by decide) (fun h11 => ?_) (fun h11 => ?_)
      · refine lv_lload_n hx hb dX3_worthOn_50 rfl (lv_at hl 1 rfl) ?_
        have hi : i = J_legCount u := by omega
        exact te_l hC hG hr hk ⟨(show fWor u w i = fWor u w (J_legCount u) from by rw [hi]), rfl⟩ dX3_worthOn_51
      · have k1 := q1.leg (g := i) (by omega)
        refine lv_aload_n hx hb dX3_worthOn_14 rfl (lv_at hl 2 rfl) ?_
        refine gf_J_account hC hG (hC.2.2.2.2 _ w82) dX3_worthOn_15 ?_
        refine lv_iload hx hb dX3_worthOn_18 (lv_at hl 0 rfl) ?_
        refine al_J_account hC hG (by omega) dX3_worthOn_20 ?_
        refine lv_iload_n hx hb dX3_worthOn_21 rfl (lv_at hl 3 rfl) ?_
        refine bn_ne (tgt := 44) hx hb (by omega) (by omega) dX3_worthOn_22 (by decide) (fun h22 => ?_) (fun h22 => ?_)
        · refine lv_iinc (v := (nI (i + 1))) (lv' := [(4, .int (nI (i + 1))), (2, .long (fWor u w i)), (0, .ref (a 5)), (1, .int (nI w))]) hx hb dX3_worthOn_44 hl (k := 0) rfl (nI_1 _) (by decide) rfl (fun ls hl => ?_)
          refine lv_goto (tgt := 5) hx hb dX3_worthOn_47 (by decide) ?_
          have e5_1 : fWor u w (i + 1) = fWor u w i := by simp [fWor, h11, h22]; try omega
          have hl : lv_has ls 5 [(4, .int (nI (i + 1))), (2, .long (fWor u w (i + 1))), (0, .ref (a 5)), (1, .int (nI w))] := by rw [e5_1]; exact hl
          exact ih5  (i + 1) (by omega) (by omega) H locs hG ls (lv_sub hl [0, 1, 2, 3] rfl)
        · refine lv_aload_n hx hb dX3_worthOn_25 rfl (lv_at hl 2 rfl) ?_
          refine lv_iload hx hb dX3_worthOn_26 (lv_at hl 0 rfl) ?_
          refine k_J_counts hC hG i (by omega) (by omega) w203 ⟨by decide, by decide⟩ hl.1 (by decide) dX3_worthOn_28 ⟨Nat.zero_le _, Nat.zero_le _⟩ (fun H locs hG => ?_)
          refine bb_eq (tgt := 44) hx hb dX3_worthOn_31 (by decide) (fun h31 => ?_) (fun h31 => ?_)
          · refine lv_iinc (v := (nI (i + 1))) (lv' := [(4, .int (nI (i + 1))), (2, .long (fWor u w i)), (0, .ref (a 5)), (1, .int (nI w))]) hx hb dX3_worthOn_44 hl (k := 0) rfl (nI_1 _) (by decide) rfl (fun ls hl => ?_)
            refine lv_goto (tgt := 5) hx hb dX3_worthOn_47 (by decide) ?_
            have e5_2 : fWor u w (i + 1) = fWor u w i := by simp [fWor, h11, h22, h31]; try omega
            have hl : lv_has ls 5 [(4, .int (nI (i + 1))), (2, .long (fWor u w (i + 1))), (0, .ref (a 5)), (1, .int (nI w))] := by rw [e5_2]; exact hl
            exact ih5  (i + 1) (by omega) (by omega) H locs hG ls (lv_sub hl [0, 1, 2, 3] rfl)
          · refine lv_lload_n hx hb dX3_worthOn_34 rfl (lv_at hl 1 rfl) ?_
            refine lv_aload_n hx hb dX3_worthOn_35 rfl (lv_at hl 2 rfl) ?_
            refine gf_J_worth hC hG (hC.2.2.2.2 _ w84) dX3_worthOn_36 ?_
            refine lv_iload hx hb dX3_worthOn_39 (lv_at hl 0 rfl) ?_
            refine al_J_worth hC hG (by omega) dX3_worthOn_41 ?_
            refine lv_ladd hx hb dX3_worthOn_42 ?_
            refine lv_lstore_n (lv' := [(2, .long (fWor u w i + (J_worth u i))), (4, .int (nI i)), (0, .ref (a 5)), (1, .int (nI w))]) hx hb dX3_worthOn_43 rfl hl (by decide) rfl (fun ls hl => ?_)
            refine lv_iinc (v := (nI (i + 1))) (lv' := [(4, .int (nI (i + 1))), (2, .long (fWor u w i + (J_worth u i))), (0, .ref (a 5)), (1, .int (nI w))]) hx hb dX3_worthOn_44 hl (k := 1) rfl (nI_1 _) (by decide) rfl (fun ls hl => ?_)
            refine lv_goto (tgt := 5) hx hb dX3_worthOn_47 (by decide) ?_
            have e5_3 : fWor u w (i + 1) = (fWor u w i + (J_worth u i)) := by simp [fWor, h11, h22, h31]; try omega
            have hl : lv_has ls 5 [(4, .int (nI (i + 1))), (2, .long (fWor u w (i + 1))), (0, .ref (a 5)), (1, .int (nI w))] := by rw [e5_3]; exact hl
            exact ih5  (i + 1) (by omega) (by omega) H locs hG ls (lv_sub hl [0, 1, 2, 3] rfl)
  have e5_4 : fWor u w 0 = (0 : Int64) := by rfl
  have hl : lv_has ls 5 [(4, .int (nI 0)), (2, .long (fWor u w 0)), (0, .ref (a 5)), (1, .int (nI w))] := by rw [e5_4]; exact hl
  exact lp5 _ 0 (Nat.lt_succ_self _) (by omega) H locs hG ls (lv_sub hl [0, 1, 2, 3] rfl)
theorem k_J_worthOn {p : Program} {l : Launch} {e : Env} {R : Room} {s : State} {m : MethodId} {args : Array Value} {below : List Frame} {meth : Method} {c : Code} {H : Heap} {locs : List Loc} {cs ss : Nat} {Q : State → Prop} {cc : ByteArray} {nL pc : Nat} {ls : Array Slot} {rest : List Value} {own : String} {idx : Nat} {D : va_G} {κ : ClassId × ClassId × ClassId} {a : Nat → Nat} {u : TS} {A : Nat → Prop} (hC : CallFix p m c cc nL s args WALL own) (hG : GW D κ a u A s H locs) (w : Nat) (q1 : OK u) (q2 : w < 600) (wl : Cond.methodLink own idx yX3_worthOn ∈ WALL) (hR : 1 + 1 ≤ R.frames ∧ 8 + (5 + 11) + 21 ≤ R.locals) (hls : ls.size = nL) (h8 : (rest.map fun v => v.category).sum ≤ 8) (hd : decode cc pc = .ok (.invokevirtual idx, 3)) (hcs : cs ≤ R.cells ∧ ss ≤ R.slots) (kk : ∀ (H1 : Heap) (locs1 : List Loc), GW D κ a u A s H1 locs1 → W p l e R s m args below meth c H1 locs1 cs ss Q (F0 m (pc + 3) ls (.long (fWor u w (J_legCount u)) :: rest))) : W p l e R s m args below meth c H locs cs ss Q (F0 m pc ls (.int (nI w) :: .ref (a 5) :: rest)) :=
  tc_l hG (tr_V (n := 1) (k := 5) (ci := 3) (As := [.int (nI w)]) hC hG (c_J_worthOn l D κ a H.size u w q1 q2) rfl rfl wl w23 w469 w467 w468 (by decide +kernel) hR rfl hls rfl h8 hd hcs) (fun r u' H1 locs1 hq hG1 => by obtain ⟨rfl, rfl⟩ := hq; exact kk H1 locs1 hG1)

theorem dX3_worthBetween_0 : decode cX3_worthBetween 0 = .ok (.lconst 0, 1) := by decide +kernel
theorem dX3_worthBetween_1 : decode cX3_worthBetween 1 = .ok (.lstore 4, 2) := by decide +kernel
theorem dX3_worthBetween_12 : decode cX3_worthBetween 12 = .ok (.if_icmp .ge 76, 3) := by decide +kernel
theorem dX3_worthBetween_15 : decode cX3_worthBetween 15 = .ok (.aload_n 0, 1) := by decide +kernel
theorem dX3_worthBetween_16 : decode cX3_worthBetween 16 = .ok (.getfield 38, 3) := by decide +kernel
theorem dX3_worthBetween_19 : decode cX3_worthBetween 19 = .ok (.iload 6, 2) := by decide +kernel
theorem dX3_worthBetween_21 : decode cX3_worthBetween 21 = .ok (.iaload, 1) := by decide +kernel
theorem dX3_worthBetween_22 : decode cX3_worthBetween 22 = .ok (.iload_n 1, 1) := by decide +kernel
theorem dX3_worthBetween_23 : decode cX3_worthBetween 23 = .ok (.if_icmp .ne 59, 3) := by decide +kernel
theorem dX3_worthBetween_26 : decode cX3_worthBetween 26 = .ok (.aload_n 0, 1) := by decide +kernel
theorem dX3_worthBetween_27 : decode cX3_worthBetween 27 = .ok (.iload 6, 2) := by decide +kernel
theorem dX3_worthBetween_29 : decode cX3_worthBetween 29 = .ok (.invokevirtual 69, 3) := by decide +kernel
theorem dX3_worthBetween_3 : decode cX3_worthBetween 3 = .ok (.iconst 0, 1) := by decide +kernel
theorem dX3_worthBetween_32 : decode cX3_worthBetween 32 = .ok (.ifCond .eq 50, 3) := by decide +kernel
theorem dX3_worthBetween_35 : decode cX3_worthBetween 35 = .ok (.aload_n 0, 1) := by decide +kernel
theorem dX3_worthBetween_36 : decode cX3_worthBetween 36 = .ok (.getfield 28, 3) := by decide +kernel
theorem dX3_worthBetween_39 : decode cX3_worthBetween 39 = .ok (.aload_n 0, 1) := by decide +kernel
theorem dX3_worthBetween_4 : decode cX3_worthBetween 4 = .ok (.istore 6, 2) := by decide +kernel
theorem dX3_worthBetween_40 : decode cX3_worthBetween 40 = .ok (.getfield 35, 3) := by decide +kernel
theorem dX3_worthBetween_43 : decode cX3_worthBetween 43 = .ok (.iload 6, 2) := by decide +kernel
theorem dX3_worthBetween_45 : decode cX3_worthBetween 45 = .ok (.iaload, 1) := by decide +kernel
theorem dX3_worthBetween_46 : decode cX3_worthBetween 46 = .ok (.baload, 1) := by decide +kernel
theorem dX3_worthBetween_47 : decode cX3_worthBetween 47 = .ok (.ifCond .ne 35, 3) := by decide +kernel
theorem dX3_worthBetween_50 : decode cX3_worthBetween 50 = .ok (.aload_n 0, 1) := by decide +kernel
theorem dX3_worthBetween_51 : decode cX3_worthBetween 51 = .ok (.iload 6, 2) := by decide +kernel
theorem dX3_worthBetween_53 : decode cX3_worthBetween 53 = .ok (.invokevirtual 73, 3) := by decide +kernel
theorem dX3_worthBetween_56 : decode cX3_worthBetween 56 = .ok (.iload_n 2, 1) := by decide +kernel
theorem dX3_worthBetween_57 : decode cX3_worthBetween 57 = .ok (.if_icmp .lt 25, 3) := by decide +kernel
theorem dX3_worthBetween_6 : decode cX3_worthBetween 6 = .ok (.iload 6, 2) := by decide +kernel
theorem dX3_worthBetween_60 : decode cX3_worthBetween 60 = .ok (.aload_n 0, 1) := by decide +kernel
theorem dX3_worthBetween_61 : decode cX3_worthBetween 61 = .ok (.iload 6, 2) := by decide +kernel
theorem dX3_worthBetween_63 : decode cX3_worthBetween 63 = .ok (.invokevirtual 73, 3) := by decide +kernel
theorem dX3_worthBetween_66 : decode cX3_worthBetween 66 = .ok (.iload_n 3, 1) := by decide +kernel
theorem dX3_worthBetween_67 : decode cX3_worthBetween 67 = .ok (.if_icmp .gt 15, 3) := by decide +kernel
theorem dX3_worthBetween_70 : decode cX3_worthBetween 70 = .ok (.lload 4, 2) := by decide +kernel
theorem dX3_worthBetween_72 : decode cX3_worthBetween 72 = .ok (.aload_n 0, 1) := by decide +kernel
theorem dX3_worthBetween_73 : decode cX3_worthBetween 73 = .ok (.getfield 45, 3) := by decide +kernel
theorem dX3_worthBetween_76 : decode cX3_worthBetween 76 = .ok (.iload 6, 2) := by decide +kernel
theorem dX3_worthBetween_78 : decode cX3_worthBetween 78 = .ok (.laload, 1) := by decide +kernel
theorem dX3_worthBetween_79 : decode cX3_worthBetween 79 = .ok (.ladd, 1) := by decide +kernel
theorem dX3_worthBetween_8 : decode cX3_worthBetween 8 = .ok (.aload_n 0, 1) := by decide +kernel
theorem dX3_worthBetween_80 : decode cX3_worthBetween 80 = .ok (.lstore 4, 2) := by decide +kernel
theorem dX3_worthBetween_82 : decode cX3_worthBetween 82 = .ok (.iinc 6 1, 3) := by decide +kernel
theorem dX3_worthBetween_85 : decode cX3_worthBetween 85 = .ok (.goto (-79), 3) := by decide +kernel
theorem dX3_worthBetween_88 : decode cX3_worthBetween 88 = .ok (.lload 4, 2) := by decide +kernel
theorem dX3_worthBetween_9 : decode cX3_worthBetween 9 = .ok (.getfield 48, 3) := by decide +kernel
theorem dX3_worthBetween_90 : decode cX3_worthBetween 90 = .ok (.lreturn, 1) := by decide +kernel
set_option maxHeartbeats 4000000 in
set_option maxRecDepth 100000 in
theorem c_J_worthBetween (l : Launch) (D : va_G) (κ : ClassId × ClassId × ClassId) (a : Nat → Nat) (sz : Nat) (u : TS) (w : Nat) (f : Nat) (t : Nat) (q1 : OK u) (q2 : w < 600 ∧ f < 600 ∧ t < 600) : TM l yX3_worthBetween cX3_worthBetween 7 (some .long) 1 21 D κ a u sz [.ref (a 5), .int (nI w), .int (nI f), .int (nI t)] (QL D κ a sz (fun r u' => r = (fWorB u w f t (J_legCount u)) ∧ u' = u)) := by
  refine TM.of (by decide +kernel) (Nat.le_of_ble_eq_true rfl) ?_
  intro p e s m below meth c ls hC hr hk hsz H locs hG hl
  have hx := hC.1
  have hb := hC.2.1
  have hl : lv_has ls 7 [(0, .ref (a 5)), (1, .int (nI w)), (2, .int (nI f)), (3, .int (nI t))] := hl
  have qok := q1
  have ⟨n1, n2, n3, n4, n5, n6, n7, n8, n9, n10⟩ := qok.n
  refine lv_lconst (v := 0) hx hb dX3_worthBetween_0 (by decide) ?_
  refine lv_lstore (lv' := [(4, .long (0 : Int64)), (0, .ref (a 5)), (1, .int (nI w)), (2, .int (nI f)), (3, .int (nI t))]) hx hb dX3_worthBetween_1 hl (by decide) rfl (fun ls hl => ?_)
  refine lv_iconst (v := nI 0) hx hb dX3_worthBetween_3 (by decide) ?_
  refine lv_istore (lv' := [(6, .int (nI 0)), (4, .long (0 : Int64)), (0, .ref (a 5)), (1, .int (nI w)), (2, .int (nI f)), (3, .int (nI t))]) hx hb dX3_worthBetween_4 hl (by decide) rfl (fun ls hl => ?_)
  have lp6 : ∀ (n : Nat) (i : Nat), J_legCount u - i < n → (i ≤ J_legCount u) → ∀ (H : Heap) (locs : List Loc), GW D κ a u (AA a sz) s H locs → ∀ ls : Array Slot, lv_has ls 7 [(6, .int (nI i)), (4, .long (fWorB u w f t i)), (0, .ref (a 5)), (1, .int (nI w)), (2, .int (nI f)), (3, .int (nI t))] → W p l e { frames := 1, cells := 0, slots := 0, locals := 21 } s m [.ref (a 5), .int (nI w), .int (nI f), .int (nI t)].toArray below meth c H locs 0 0 (MQ below (QL D κ a sz (fun r u' => r = (fWorB u w f t (J_legCount u)) ∧ u' = u)) [.ref (a 5), .int (nI w), .int (nI f), .int (nI t)].toArray s 0 0 (AA a sz)) (F0 m 6 ls []) := by
    intro n
    induction n with
    | zero =>
      intro i hm
      exact absurd hm (Nat.not_lt_zero _)
    | succ n ih6 =>
      intro i hm6 c6_1 H locs hG ls hl
      refine lv_iload hx hb dX3_worthBetween_6 (lv_at hl 0 rfl) ?_
      refine lv_aload_n hx hb dX3_worthBetween_8 rfl (lv_at hl 2 rfl) ?_
      refine gf_J_legCount hC hG (hC.2.2.2.2 _ w85) dX3_worthBetween_9 ?_
      refine bn_ge (tgt := 88) hx hb (by omega) (by omega) dX3_worthBetween_12 (by decide) (fun h12 => ?_) (fun h12 => ?_)
      · refine lv_lload hx hb dX3_worthBetween_88 (lv_at hl 1 rfl) ?_
        have hi : i = J_legCount u := by omega
        exact te_l hC hG hr hk ⟨(show fWorB u w f t i = fWorB u w f t (J_legCount u) from by rw [hi]), rfl⟩ dX3_worthBetween_90
      · have k1 := q1.leg (g := i) (by omega)
        have k2 := q1.ent k1.1
        refine lv_aload_n hx hb dX3_worthBetween_15 rfl (lv_at hl 2 rfl) ?_
        refine gf_J_account hC hG (hC.2.2.2.2 _ w82) dX3_worthBetween_16 ?_
        refine lv_iload hx hb dX3_worthBetween_19 (lv_at hl 0 rfl) ?_
        refine al_J_account hC hG (by omega) dX3_worthBetween_21 ?_
        refine lv_iload_n hx hb dX3_worthBetween_22 rfl (lv_at hl 3 rfl) ?_
        refine bn_ne (tgt := 82) hx hb (by omega) (by omega) dX3_worthBetween_23 (by decide) (fun h23 => ?_) (fun h23 => ?_)
        · refine lv_iinc (v := (nI (i + 1))) (lv' := [(6, .int (nI (i + 1))), (4, .long (fWorB u w f t i)), (0, .ref (a 5)), (1, .int (nI w)), (2, .int (nI f)), (3, .int (nI t))]) hx hb dX3_worthBetween_82 hl (k := 0) rfl (nI_1 _) (by decide) rfl (fun ls hl => ?_)
          refine lv_goto (tgt := 6) hx hb dX3_worthBetween_85 (by decide) ?_
          have e6_1 : fWorB u w f t (i + 1) = fWorB u w f t i := by simp [fWorB, h12, h23]; try omega
          have hl : lv_has ls 7 [(6, .int (nI (i + 1))), (4, .long (fWorB u w f t (i + 1))), (0, .ref (a 5)), (1, .int (nI w)), (2, .int (nI f)), (3, .int (nI t))] := by rw [e6_1]; exact hl
          exact ih6  (i + 1) (by omega) (by omega) H locs hG ls (lv_sub hl [0, 1, 2, 3, 4, 5] rfl)
        · refine lv_aload_n hx hb dX3_worthBetween_26 rfl (lv_at hl 2 rfl) ?_
          refine lv_iload hx hb dX3_worthBetween_27 (lv_at hl 0 rfl) ?_
          refine k_J_counts hC hG i (by omega) (by omega) w203 ⟨by decide, by decide⟩ hl.1 (by decide) dX3_worthBetween_29 ⟨Nat.zero_le _, Nat.zero_le _⟩ (fun H locs hG => ?_)
          refine bb_eq (tgt := 82) hx hb dX3_worthBetween_32 (by decide) (fun h32 => ?_) (fun h32 => ?_)
          · refine lv_iinc (v := (nI (i + 1))) (lv' := [(6, .int (nI (i + 1))), (4, .long (fWorB u w f t i)), (0, .ref (a 5)), (1, .int (nI w)), (2, .int (nI f)), (3, .int (nI t))]) hx hb dX3_worthBetween_82 hl (k := 0) rfl (nI_1 _) (by decide) rfl (fun ls hl => ?_)
            refine lv_goto (tgt := 6) hx hb dX3_worthBetween_85 (by decide) ?_
            have e6_2 : fWorB u w f t (i + 1) = fWorB u w f t i := by simp [fWorB, h12, h23, h32]; try omega
            have hl : lv_has ls 7 [(6, .int (nI (i + 1))), (4, .long (fWorB u w f t (i + 1))), (0, .ref (a 5)), (1, .int (nI w)), (2, .int (nI f)), (3, .int (nI t))] := by rw [e6_2]; exact hl
            exact ih6  (i + 1) (by omega) (by omega) H locs hG ls (lv_sub hl [0, 1, 2, 3, 4, 5] rfl)
          · refine lv_aload_n hx hb dX3_worthBetween_35 rfl (lv_at hl 2 rfl) ?_
            refine gf_J_isClosing hC hG (hC.2.2.2.2 _ w79) dX3_worthBetween_36 ?_
            refine lv_aload_n hx hb dX3_worthBetween_39 rfl (lv_at hl 2 rfl) ?_
            refine gf_J_entryOf hC hG (hC.2.2.2.2 _ w81) dX3_worthBetween_40 ?_
            refine lv_iload hx hb dX3_worthBetween_43 (lv_at hl 0 rfl) ?_
            refine al_J_entryOf hC hG (by omega) dX3_worthBetween_45 ?_
            refine al_J_isClosing hC hG (by omega) dX3_worthBetween_46 ?_
            refine bb_ne (tgt := 82) hx hb dX3_worthBetween_47 (by decide) (fun h47 => ?_) (fun h47 => ?_)
            · refine lv_iinc (v := (nI (i + 1))) (lv' := [(6, .int (nI (i + 1))), (4, .long (fWorB u w f t i)), (0, .ref (a 5)), (1, .int (nI w)), (2, .int (nI f)), (3, .int (nI t))]) hx hb dX3_worthBetween_82 hl (k := 0) rfl (nI_1 _) (by decide) rfl (fun ls hl => ?_)
              refine lv_goto (tgt := 6) hx hb dX3_worthBetween_85 (by decide) ?_
              have e6_3 : fWorB u w f t (i + 1) = fWorB u w f t i := by simp [fWorB, h12, h23, h32, h47]; try omega
              have hl : lv_has ls 7 [(6, .int (nI (i + 1))), (4, .long (fWorB u w f t (i + 1))), (0, .ref (a 5)), (1, .int (nI w)), (2, .int (nI f)), (3, .int (nI t))] := by rw [e6_3]; exact hl
              exact ih6  (i + 1) (by omega) (by omega) H locs hG ls (lv_sub hl [0, 1, 2, 3, 4, 5] rfl)
            · refine lv_aload_n hx hb dX3_worthBetween_50 rfl (lv_at hl 2 rfl) ?_
              refine lv_iload hx hb dX3_worthBetween_51 (lv_at hl 0 rfl) ?_
              refine k_J_dayOf hC hG i (by omega) (by omega) w207 ⟨by decide, by decide⟩ hl.1 (by decide) dX3_worthBetween_53 ⟨Nat.zero_le _, Nat.zero_le _⟩ (fun H locs hG => ?_)
              refine lv_iload_n hx hb dX3_worthBetween_56 rfl (lv_at hl 4 rfl) ?_
              have k3 : fDayOf u i ≤ 364 := k2.2.1
              refine bn_lt (tgt := 82) hx hb (by omega) (by omega) dX3_worthBetween_57 (by decide) (fun h57 => ?_) (fun h57 => ?_)
              · refine lv_iinc (v := (nI (i + 1))) (lv' := [(6, .int (nI (i + 1))), (4, .long (fWorB u w f t i)), (0, .ref (a 5)), (1, .int (nI w)), (2, .int (nI f)), (3, .int (nI t))]) hx hb dX3_worthBetween_82 hl (k := 0) rfl (nI_1 _) (by decide) rfl (fun ls hl => ?_)
                refine lv_goto (tgt := 6) hx hb dX3_worthBetween_85 (by decide) ?_
                have e6_4 : fWorB u w f t (i + 1) = fWorB u w f t i := by simp [fWorB, h12, h23, h32, h47, h57]; try omega
                have hl : lv_has ls 7 [(6, .int (nI (i + 1))), (4, .long (fWorB u w f t (i + 1))), (0, .ref (a 5)), (1, .int (nI w)), (2, .int (nI f)), (3, .int (nI t))] := by rw [e6_4]; exact hl
                exact ih6  (i + 1) (by omega) (by omega) H locs hG ls (lv_sub hl [0, 1, 2, 3, 4, 5] rfl)
              · refine lv_aload_n hx hb dX3_worthBetween_60 rfl (lv_at hl 2 rfl) ?_
                refine lv_iload hx hb dX3_worthBetween_61 (lv_at hl 0 rfl) ?_
                refine k_J_dayOf hC hG i (by omega) (by omega) w207 ⟨by decide, by decide⟩ hl.1 (by decide) dX3_worthBetween_63 ⟨Nat.zero_le _, Nat.zero_le _⟩ (fun H locs hG => ?_)
                refine lv_iload_n hx hb dX3_worthBetween_66 rfl (lv_at hl 5 rfl) ?_
                have k3 : fDayOf u i ≤ 364 := k2.2.1
                refine bn_gt (tgt := 82) hx hb (by omega) (by omega) dX3_worthBetween_67 (by decide) (fun h67 => ?_) (fun h67 => ?_)
                · refine lv_iinc (v := (nI (i + 1))) (lv' := [(6, .int (nI (i + 1))), (4, .long (fWorB u w f t i)), (0, .ref (a 5)), (1, .int (nI w)), (2, .int (nI f)), (3, .int (nI t))]) hx hb dX3_worthBetween_82 hl (k := 0) rfl (nI_1 _) (by decide) rfl (fun ls hl => ?_)
                  refine lv_goto (tgt := 6) hx hb dX3_worthBetween_85 (by decide) ?_
                  have e6_5 : fWorB u w f t (i + 1) = fWorB u w f t i := by simp [fWorB, h12, h23, h32, h47, h57, h67]; try omega
                  have hl : lv_has ls 7 [(6, .int (nI (i + 1))), (4, .long (fWorB u w f t (i + 1))), (0, .ref (a 5)), (1, .int (nI w)), (2, .int (nI f)), (3, .int (nI t))] := by rw [e6_5]; exact hl
                  exact ih6  (i + 1) (by omega) (by omega) H locs hG ls (lv_sub hl [0, 1, 2, 3, 4, 5] rfl)
                · refine lv_lload hx hb dX3_worthBetween_70 (lv_at hl 1 rfl) ?_
                  refine lv_aload_n hx hb dX3_worthBetween_72 rfl (lv_at hl 2 rfl) ?_
                  refine gf_J_worth hC hG (hC.2.2.2.2 _ w84) dX3_worthBetween_73 ?_
                  refine lv_iload hx hb dX3_worthBetween_76 (lv_at hl 0 rfl) ?_
                  refine al_J_worth hC hG (by omega) dX3_worthBetween_78 ?_
                  refine lv_ladd hx hb dX3_worthBetween_79 ?_
                  refine lv_lstore (lv' := [(4, .long (fWorB u w f t i + (J_worth u i))), (6, .int (nI i)), (0, .ref (a 5)), (1, .int (nI w)), (2, .int (nI f)), (3, .int (nI t))]) hx hb dX3_worthBetween_80 hl (by decide) rfl (fun ls hl => ?_)
                  refine lv_iinc (v := (nI (i + 1))) (lv' := [(6, .int (nI (i + 1))), (4, .long (fWorB u w f t i + (J_worth u i))), (0, .ref (a 5)), (1, .int (nI w)), (2, .int (nI f)), (3, .int (nI t))]) hx hb dX3_worthBetween_82 hl (k := 1) rfl (nI_1 _) (by decide) rfl (fun ls hl => ?_)
                  refine lv_goto (tgt := 6) hx hb dX3_worthBetween_85 (by decide) ?_
                  have e6_6 : fWorB u w f t (i + 1) = (fWorB u w f t i + (J_worth u i)) := by simp [fWorB, h12, h23, h32, h47, h57, h67]; try omega
                  have hl : lv_has ls 7 [(6, .int (nI (i + 1))), (4, .long (fWorB u w f t (i + 1))), (0, .ref (a 5)), (1, .int (nI w)), (2, .int (nI f)), (3, .int (nI t))] := by rw [e6_6]; exact hl
                  exact ih6  (i + 1) (by omega) (by omega) H locs hG ls (lv_sub hl [0, 1, 2, 3, 4, 5] rfl)
  have e6_7 : fWorB u w f t 0 = (0 : Int64) := by rfl
  have hl : lv_has ls 7 [(6, .int (nI 0)), (4, .long (fWorB u w f t 0)), (0, .ref (a 5)), (1, .int (nI w)), (2, .int (nI f)), (3, .int (nI t))] := by rw [e6_7]; exact hl
  exact lp6 _ 0 (Nat.lt_succ_self _) (by omega) H locs hG ls (lv_sub hl [0, 1, 2, 3, 4, 5] rfl)
theorem k_J_worthBetween {p : Program} {l : Launch} {e : Env} {R : Room} {s : State} {m : MethodId} {args : Array Value} {below : List Frame} {meth : Method} {c : Code} {H : Heap} {locs : List Loc} {cs ss : Nat} {Q : State → Prop} {cc : ByteArray} {nL pc : Nat} {ls : Array Slot} {rest : List Value} {own : String} {idx : Nat} {D : va_G} {κ : ClassId × ClassId × ClassId} {a : Nat → Nat} {u : TS} {A : Nat → Prop} (hC : CallFix p m c cc nL s args WALL own) (hG : GW D κ a u A s H locs) (w : Nat) (f : Nat) (t : Nat) (q1 : OK u) (q2 : w < 600 ∧ f < 600 ∧ t < 600) (wl : Cond.methodLink own idx yX3_worthBetween ∈ WALL) (hR : 1 + 1 ≤ R.frames ∧ 8 + (7 + 11) + 21 ≤ R.locals) (hls : ls.size = nL) (h8 : (rest.map fun v => v.category).sum ≤ 8) (hd : decode cc pc = .ok (.invokevirtual idx, 3)) (hcs : cs ≤ R.cells ∧ ss ≤ R.slots) (kk : ∀ (H1 : Heap) (locs1 : List Loc), GW D κ a u A s H1 locs1 → W p l e R s m args below meth c H1 locs1 cs ss Q (F0 m (pc + 3) ls (.long (fWorB u w f t (J_legCount u)) :: rest))) : W p l e R s m args below meth c H locs cs ss Q (F0 m pc ls (.int (nI t) :: .int (nI f) :: .int (nI w) :: .ref (a 5) :: rest)) :=
  tc_l hG (tr_V (n := 3) (k := 5) (ci := 3) (As := [.int (nI w), .int (nI f), .int (nI t)]) hC hG (c_J_worthBetween l D κ a H.size u w f t q1 q2) rfl rfl wl w23 w529 w527 w528 (by decide +kernel) hR rfl hls rfl h8 hd hcs) (fun r u' H1 locs1 hq hG1 => by obtain ⟨rfl, rfl⟩ := hq; exact kk H1 locs1 hG1)
end
section
/-! ACCOUNTS, ROWS OF LEGS, LINES, THE DRAFT; the journal, written -/
def fAccAdd (u : TS) (kd cu : Nat) : TS := sN (sAN (sAN u 0 (AC_count u) kd) 1 (AC_count u) cu) 1 (AC_count u + 1)
def fClosed (u : TS) (k : Nat) : Bool := decide (AC_kind u k = 2) || decide (AC_kind u k = 3)
def fStd (u : TS) (k : Nat) (b : Int64) : Int64 := if AC_kind u k = 0 ∨ AC_kind u k = 3 then b else -b
def fWorth (u : TS) (k : Nat) (x : Int64) : Int64 := (x * (AC_rates u (AC_currency u k)).toInt64 + (if x * (AC_rates u (AC_currency u k)).toInt64 < 0 then (-500) else 500)) / 1000
def fRow (o : Nat) (u : TS) (ac : Nat) (am wo : Int64) : TS := if o = 0 then sN (sAJ (sAJ (sAN u 2 (L0_count u) ac) 0 (L0_count u) am) 1 (L0_count u) wo) 4 (L0_count u + 1) else sN (sAJ (sAJ (sAN u 3 (L1_count u) ac) 2 (L1_count u) am) 3 (L1_count u) wo) 5 (L1_count u + 1)
def fSum (f : Nat → Int64) : Nat → Int64
  | 0 => 0
  | i + 1 => fSum f i + f i
def fSort (x : Nat) : Nat → TS → TS
  | 0, v => sAN v 14 0 x
  | pl + 1, v => if LI_day v x < LI_day v (LI_byDay v pl) then fSort x pl (sAN v 14 (pl + 1) (LI_byDay v pl)) else sAN v 14 (pl + 1) x
def fLine0 (u : TS) (ac d : Nat) (am : Int32) : TS := sAI (sAN (sAN u 12 (LI_count u) ac) 13 (LI_count u) d) 3 (LI_count u) am
theorem fSort_cnt (x : Nat) : ∀ (pl : Nat) (v : TS), LI_count (fSort x pl v) = LI_count v
  | 0, _ => rfl
  | pl + 1, v => by
    unfold fSort
    split
    · exact fSort_cnt x pl _
    · rfl
def fLine (u : TS) (ac d : Nat) (am : Int32) : TS := sN (fSort (LI_count u) (LI_count u) (fLine0 u ac d am)) 9 (LI_count u + 1)
def fLCnt (u : TS) (w : Nat) : Nat → Nat
  | 0 => 0
  | i + 1 => if LI_account u i = w then fLCnt u w i + 1 else fLCnt u w i
theorem fLCnt_le (u : TS) (w : Nat) : ∀ n, fLCnt u w n ≤ n
  | 0 => Nat.le_refl _
  | n + 1 => by
    have := fLCnt_le u w n
    unfold fLCnt
    split <;> omega
def fBegin (u : TS) (d nt : Nat) : TS := sN (sN (sB (sN u 4 0) 0 true) 2 d) 3 nt
def fForget (u : TS) : TS := sB (sN u 4 0) 0 false
def fLeg (u : TS) (en ac : Nat) (am wo : Int64) : TS := sN (sAJ (sAJ (sAN (sAN u 8 (J_legCount u) en) 9 (J_legCount u) ac) 4 (J_legCount u) am) 5 (J_legCount u) wo) 7 (J_legCount u + 1)
def fEnt0 (u : TS) (d nt : Nat) (cl : Bool) : TS := sAN (sAB (sAN (sAN u 4 (J_count u) d) 5 (J_count u) nt) 2 (J_count u) cl) 6 (J_count u) (J_legCount u)
def fEntL (u : TS) (d nt : Nat) (cl : Bool) : Nat → TS
  | 0 => fEnt0 u d nt cl
  | i + 1 => fLeg (fEntL u d nt cl i) (J_count u) (L1_account (fEntL u d nt cl i) i) (L1_amount (fEntL u d nt cl i) i) (L1_worth (fEntL u d nt cl i) i)
theorem fEntL_c (u : TS) (d nt : Nat) (cl : Bool) : ∀ i, J_legCount (fEntL u d nt cl i) = J_legCount u + i ∧ L1_count (fEntL u d nt cl i) = L1_count u ∧ J_count (fEntL u d nt cl i) = J_count u ∧ J_firstLeg (fEntL u d nt cl i) (J_count u) = J_legCount u
  | 0 => by
    refine ⟨rfl, rfl, rfl, ?_⟩
    show va_up (J_firstLeg u) (J_count u) (J_legCount u) (J_count u) = _
    unfold va_up
    rw [if_pos rfl]
  | i + 1 => by
    obtain ⟨h1, h2, h3, h4⟩ := fEntL_c u d nt cl i
    refine ⟨?_, h2, h3, h4⟩
    show J_legCount (fEntL u d nt cl i) + 1 = _
    omega
def fEnter (u : TS) (d nt : Nat) (cl : Bool) : TS := sN (sAN (fEntL u d nt cl (L1_count u)) 7 (J_count u) (L1_count u)) 6 (J_count u + 1)

theorem dX0_add_0 : decode cX0_add 0 = .ok (.aload_n 0, 1) := by decide +kernel
theorem dX0_add_1 : decode cX0_add 1 = .ok (.getfield 28, 3) := by decide +kernel
theorem dX0_add_11 : decode cX0_add 11 = .ok (.aload_n 0, 1) := by decide +kernel
theorem dX0_add_12 : decode cX0_add 12 = .ok (.getfield 15, 3) := by decide +kernel
theorem dX0_add_15 : decode cX0_add 15 = .ok (.aload_n 0, 1) := by decide +kernel
theorem dX0_add_16 : decode cX0_add 16 = .ok (.getfield 28, 3) := by decide +kernel
theorem dX0_add_19 : decode cX0_add 19 = .ok (.iload_n 1, 1) := by decide +kernel
theorem dX0_add_20 : decode cX0_add 20 = .ok (.iastore, 1) := by decide +kernel
theorem dX0_add_21 : decode cX0_add 21 = .ok (.aload_n 0, 1) := by decide +kernel
theorem dX0_add_22 : decode cX0_add 22 = .ok (.getfield 18, 3) := by decide +kernel
theorem dX0_add_25 : decode cX0_add 25 = .ok (.aload_n 0, 1) := by decide +kernel
theorem dX0_add_26 : decode cX0_add 26 = .ok (.getfield 28, 3) := by decide +kernel
theorem dX0_add_29 : decode cX0_add 29 = .ok (.iload_n 2, 1) := by decide +kernel
theorem dX0_add_30 : decode cX0_add 30 = .ok (.iastore, 1) := by decide +kernel
theorem dX0_add_31 : decode cX0_add 31 = .ok (.aload_n 0, 1) := by decide +kernel
theorem dX0_add_32 : decode cX0_add 32 = .ok (.dup, 1) := by decide +kernel
theorem dX0_add_33 : decode cX0_add 33 = .ok (.getfield 28, 3) := by decide +kernel
theorem dX0_add_36 : decode cX0_add 36 = .ok (.dup_x1, 1) := by decide +kernel
theorem dX0_add_37 : decode cX0_add 37 = .ok (.iconst 1, 1) := by decide +kernel
theorem dX0_add_38 : decode cX0_add 38 = .ok (.iadd, 1) := by decide +kernel
theorem dX0_add_39 : decode cX0_add 39 = .ok (.putfield 28, 3) := by decide +kernel
theorem dX0_add_4 : decode cX0_add 4 = .ok (.bipush 10, 2) := by decide +kernel
theorem dX0_add_42 : decode cX0_add 42 = .ok (.ireturn, 1) := by decide +kernel
theorem dX0_add_6 : decode cX0_add 6 = .ok (.if_icmp .lt 5, 3) := by decide +kernel
set_option maxHeartbeats 4000000 in
set_option maxRecDepth 100000 in
theorem c_AC_add (l : Launch) (D : va_G) (κ : ClassId × ClassId × ClassId) (a : Nat → Nat) (sz : Nat) (u : TS) (kd : Nat) (cu : Nat) (q1 : AC_count u < 10) : TM l yX0_add cX0_add 3 (some .int) 0 0 D κ a u sz [.ref (a 1), .int (nI kd), .int (nI cu)] (QI D κ a sz (fun r u' => r = (nI (AC_count u)) ∧ u' = fAccAdd u kd cu)) := by
  refine TM.of (by decide +kernel) (Nat.le_of_ble_eq_true rfl) ?_
  intro p e s m below meth c ls hC hr hk hsz H locs hG hl
  have hx := hC.1
  have hb := hC.2.1
  have hl : lv_has ls 3 [(0, .ref (a 1)), (1, .int (nI kd)), (2, .int (nI cu))] := hl
  refine lv_aload_n hx hb dX0_add_0 rfl (lv_at hl 0 rfl) ?_
  refine gf_AC_count hC hG (hC.2.2.2.2 _ w54) dX0_add_1 ?_
  refine lv_bipush (v := nI 10) hx hb dX0_add_4 (by decide) ?_
  refine bn_lt_t (tgt := 11) hx hb (by omega) (by omega) dX0_add_6 (by decide) (by omega) ?_
  refine lv_aload_n hx hb dX0_add_11 rfl (lv_at hl 0 rfl) ?_
  refine gf_AC_kind hC hG (hC.2.2.2.2 _ w49) dX0_add_12 ?_
  refine lv_aload_n hx hb dX0_add_15 rfl (lv_at hl 0 rfl) ?_
  refine gf_AC_count hC hG (hC.2.2.2.2 _ w54) dX0_add_16 ?_
  refine lv_iload_n hx hb dX0_add_19 rfl (lv_at hl 1 rfl) ?_
  refine as_AC_kind hC hG (by omega) dX0_add_20 (fun H locs hG => ?_)
  refine lv_aload_n hx hb dX0_add_21 rfl (lv_at hl 0 rfl) ?_
  refine gf_AC_currency hC hG (hC.2.2.2.2 _ w50) dX0_add_22 ?_
  refine lv_aload_n hx hb dX0_add_25 rfl (lv_at hl 0 rfl) ?_
  refine gf_AC_count hC hG (hC.2.2.2.2 _ w54) dX0_add_26 ?_
  refine W.eq (g2 := F0 m 29 ls [.int (nI (AC_count u)), .ref (a 12)]) rfl ?_
  refine lv_iload_n hx hb dX0_add_29 rfl (lv_at hl 2 rfl) ?_
  refine as_AC_currency hC hG (by omega) dX0_add_30 (fun H locs hG => ?_)
  refine lv_aload_n hx hb dX0_add_31 rfl (lv_at hl 0 rfl) ?_
  refine lv_dup hx hb dX0_add_32 rfl ?_
  refine gf_AC_count hC hG (hC.2.2.2.2 _ w54) dX0_add_33 ?_
  refine W.eq (g2 := F0 m 36 ls [.int (nI (AC_count u)), .ref (a 1)]) rfl ?_
  refine lv_dup_x1 hx hb dX0_add_36 rfl rfl ?_
  refine lv_iconst (v := nI 1) hx hb dX0_add_37 (by decide) ?_
  refine ar_iadd hx hb dX0_add_38 ?_
  refine pf_AC_count hC hG (hC.2.2.2.2 _ w54) dX0_add_39 (fun H locs hG => ?_)
  exact te_i (v := (nI (AC_count u))) hC hG hr hk ⟨rfl, (by rfl)⟩ dX0_add_42
theorem k_AC_add {p : Program} {l : Launch} {e : Env} {R : Room} {s : State} {m : MethodId} {args : Array Value} {below : List Frame} {meth : Method} {c : Code} {H : Heap} {locs : List Loc} {cs ss : Nat} {Q : State → Prop} {cc : ByteArray} {nL pc : Nat} {ls : Array Slot} {rest : List Value} {own : String} {idx : Nat} {D : va_G} {κ : ClassId × ClassId × ClassId} {a : Nat → Nat} {u : TS} {A : Nat → Prop} (hC : CallFix p m c cc nL s args WALL own) (hG : GW D κ a u A s H locs) (kd : Nat) (cu : Nat) (q1 : AC_count u < 10) (wl : Cond.methodLink own idx yX0_add ∈ WALL) (hR : 0 + 1 ≤ R.frames ∧ 8 + (3 + 11) + 0 ≤ R.locals) (hls : ls.size = nL) (h8 : (rest.map fun v => v.category).sum ≤ 8) (hd : decode cc pc = .ok (.invokevirtual idx, 3)) (hcs : cs ≤ R.cells ∧ ss ≤ R.slots) (kk : ∀ (H1 : Heap) (locs1 : List Loc), GW D κ a (fAccAdd u kd cu) A s H1 locs1 → W p l e R s m args below meth c H1 locs1 cs ss Q (F0 m (pc + 3) ls (.int (nI (AC_count u)) :: rest))) : W p l e R s m args below meth c H locs cs ss Q (F0 m pc ls (.int (nI cu) :: .int (nI kd) :: .ref (a 1) :: rest)) :=
  tc_i hG (tr_V (n := 2) (k := 1) (ci := 0) (As := [.int (nI kd), .int (nI cu)]) hC hG (c_AC_add l D κ a H.size u kd cu q1) rfl rfl wl w15 w142 w140 w141 (by decide +kernel) hR rfl hls rfl h8 hd hcs) (fun r u' H1 locs1 hq hG1 => by obtain ⟨rfl, rfl⟩ := hq; exact kk H1 locs1 hG1)

theorem dX0_anyIn_0 : decode cX0_anyIn 0 = .ok (.iconst 0, 1) := by decide +kernel
theorem dX0_anyIn_1 : decode cX0_anyIn 1 = .ok (.istore_n 2, 1) := by decide +kernel
theorem dX0_anyIn_2 : decode cX0_anyIn 2 = .ok (.iload_n 2, 1) := by decide +kernel
theorem dX0_anyIn_28 : decode cX0_anyIn 28 = .ok (.iconst 0, 1) := by decide +kernel
theorem dX0_anyIn_29 : decode cX0_anyIn 29 = .ok (.ireturn, 1) := by decide +kernel
theorem dX0_anyIn_3 : decode cX0_anyIn 3 = .ok (.aload_n 0, 1) := by decide +kernel
theorem dX0_anyIn_4 : decode cX0_anyIn 4 = .ok (.getfield 28, 3) := by decide +kernel
theorem dX0_anyIn_7 : decode cX0_anyIn 7 = .ok (.if_icmp .ge 21, 3) := by decide +kernel
set_option maxHeartbeats 4000000 in
set_option maxRecDepth 100000 in
theorem c_AC_anyIn (l : Launch) (D : va_G) (κ : ClassId × ClassId × ClassId) (a : Nat → Nat) (sz : Nat) (u : TS) (w : Nat) (q1 : AC_count u = 0) : TM l yX0_anyIn cX0_anyIn 3 (some .boolean) 0 0 D κ a u sz [.ref (a 1), .int (nI w)] (QI D κ a sz (fun r u' => r = (bI false) ∧ u' = u)) := by
  refine TM.of (by decide +kernel) (Nat.le_of_ble_eq_true rfl) ?_
  intro p e s m below meth c ls hC hr hk hsz H locs hG hl
  have hx := hC.1
  have hb := hC.2.1
  have hl : lv_has ls 3 [(0, .ref (a 1)), (1, .int (nI w))] := hl
  refine lv_iconst (v := nI 0) hx hb dX0_anyIn_0 (by decide) ?_
  refine lv_istore_n (lv' := [(2, .int (nI 0)), (0, .ref (a 1)), (1, .int (nI w))]) hx hb dX0_anyIn_1 rfl hl (by decide) rfl (fun ls hl => ?_)
  refine lv_iload_n hx hb dX0_anyIn_2 rfl (lv_at hl 0 rfl) ?_
  refine lv_aload_n hx hb dX0_anyIn_3 rfl (lv_at hl 1 rfl) ?_
  refine gf_AC_count hC hG (hC.2.2.2.2 _ w54) dX0_anyIn_4 ?_
  refine bn_ge_t (tgt := 28) hx hb (by omega) (by omega) dX0_anyIn_7 (by decide) (by omega) ?_
  refine lv_iconst (v := nI 0) hx hb dX0_anyIn_28 (by decide) ?_
  exact te_z (v := false) hC hG hr hk ⟨rfl, rfl⟩ dX0_anyIn_29
theorem k_AC_anyIn {p : Program} {l : Launch} {e : Env} {R : Room} {s : State} {m : MethodId} {args : Array Value} {below : List Frame} {meth : Method} {c : Code} {H : Heap} {locs : List Loc} {cs ss : Nat} {Q : State → Prop} {cc : ByteArray} {nL pc : Nat} {ls : Array Slot} {rest : List Value} {own : String} {idx : Nat} {D : va_G} {κ : ClassId × ClassId × ClassId} {a : Nat → Nat} {u : TS} {A : Nat → Prop} (hC : CallFix p m c cc nL s args WALL own) (hG : GW D κ a u A s H locs) (w : Nat) (q1 : AC_count u = 0) (wl : Cond.methodLink own idx yX0_anyIn ∈ WALL) (hR : 0 + 1 ≤ R.frames ∧ 8 + (3 + 11) + 0 ≤ R.locals) (hls : ls.size = nL) (h8 : (rest.map fun v => v.category).sum ≤ 8) (hd : decode cc pc = .ok (.invokevirtual idx, 3)) (hcs : cs ≤ R.cells ∧ ss ≤ R.slots) (kk : ∀ (H1 : Heap) (locs1 : List Loc), GW D κ a u A s H1 locs1 → W p l e R s m args below meth c H1 locs1 cs ss Q (F0 m (pc + 3) ls (.int (bI false) :: rest))) : W p l e R s m args below meth c H locs cs ss Q (F0 m pc ls (.int (nI w) :: .ref (a 1) :: rest)) :=
  tc_i hG (tr_V (n := 1) (k := 1) (ci := 0) (As := [.int (nI w)]) hC hG (c_AC_anyIn l D κ a H.size u w q1) rfl rfl wl w15 w133 w131 w132 (by decide +kernel) hR rfl hls rfl h8 hd hcs) (fun r u' H1 locs1 hq hG1 => by obtain ⟨rfl, rfl⟩ := hq; exact kk H1 locs1 hG1)

theorem dX0_isClosed_0 : decode cX0_isClosed 0 = .ok (.aload_n 0, 1) := by decide +kernel
theorem dX0_isClosed_1 : decode cX0_isClosed 1 = .ok (.getfield 15, 3) := by decide +kernel
theorem dX0_isClosed_10 : decode cX0_isClosed 10 = .ok (.aload_n 0, 1) := by decide +kernel
theorem dX0_isClosed_11 : decode cX0_isClosed 11 = .ok (.getfield 15, 3) := by decide +kernel
theorem dX0_isClosed_14 : decode cX0_isClosed 14 = .ok (.iload_n 1, 1) := by decide +kernel
theorem dX0_isClosed_15 : decode cX0_isClosed 15 = .ok (.iaload, 1) := by decide +kernel
theorem dX0_isClosed_16 : decode cX0_isClosed 16 = .ok (.iconst 3, 1) := by decide +kernel
theorem dX0_isClosed_17 : decode cX0_isClosed 17 = .ok (.if_icmp .ne 7, 3) := by decide +kernel
theorem dX0_isClosed_20 : decode cX0_isClosed 20 = .ok (.iconst 1, 1) := by decide +kernel
theorem dX0_isClosed_21 : decode cX0_isClosed 21 = .ok (.goto 4, 3) := by decide +kernel
theorem dX0_isClosed_24 : decode cX0_isClosed 24 = .ok (.iconst 0, 1) := by decide +kernel
theorem dX0_isClosed_25 : decode cX0_isClosed 25 = .ok (.ireturn, 1) := by decide +kernel
theorem dX0_isClosed_4 : decode cX0_isClosed 4 = .ok (.iload_n 1, 1) := by decide +kernel
theorem dX0_isClosed_5 : decode cX0_isClosed 5 = .ok (.iaload, 1) := by decide +kernel
theorem dX0_isClosed_6 : decode cX0_isClosed 6 = .ok (.iconst 2, 1) := by decide +kernel
theorem dX0_isClosed_7 : decode cX0_isClosed 7 = .ok (.if_icmp .eq 13, 3) := by decide +kernel
set_option maxHeartbeats 4000000 in
set_option maxRecDepth 100000 in
theorem c_AC_isClosed (l : Launch) (D : va_G) (κ : ClassId × ClassId × ClassId) (a : Nat → Nat) (sz : Nat) (u : TS) (k : Nat) (q1 : k < AC_count u) (q2 : OK u) : TM l yX0_isClosed cX0_isClosed 2 (some .boolean) 0 0 D κ a u sz [.ref (a 1), .int (nI k)] (QI D κ a sz (fun r u' => r = (bI (fClosed u k)) ∧ u' = u)) := by
  refine TM.of (by decide +kernel) (Nat.le_of_ble_eq_true rfl) ?_
  intro p e s m below meth c ls hC hr hk hsz H locs hG hl
  have hx := hC.1
  have hb := hC.2.1
  have hl : lv_has ls 2 [(0, .ref (a 1)), (1, .int (nI k))] := hl
  have qok := q2
  have ⟨n1, n2, n3, n4, n5, n6, n7, n8, n9, n10⟩ := qok.n
  have k1 := qok.acc q1
  refine lv_aload_n hx hb dX0_isClosed_0 rfl (lv_at hl 0 rfl) ?_
  refine gf_AC_kind hC hG (hC.2.2.2.2 _ w49) dX0_isClosed_1 ?_
  refine lv_iload_n hx hb dX0_isClosed_4 rfl (lv_at hl 1 rfl) ?_
  refine al_AC_kind hC hG (by omega) dX0_isClosed_5 ?_
  refine lv_iconst (v := nI 2) hx hb dX0_isClosed_6 (by decide) ?_
  refine bn_eq (tgt := 20) hx hb (by omega) (by omega) dX0_isClosed_7 (by decide) (fun h7 => ?_) (fun h7 => ?_)
  · refine lv_iconst (v := nI 1) hx hb dX0_isClosed_20 (by decide) ?_
    refine lv_goto (tgt := 25) hx hb dX0_isClosed_21 (by decide) ?_
    exact te_z (v := true) hC hG hr hk ⟨(congrArg bI (show true = fClosed u k from by simp [fClosed, h7])), rfl⟩ dX0_isClosed_25
  · refine lv_aload_n hx hb dX0_isClosed_10 rfl (lv_at hl 0 rfl) ?_
    refine gf_AC_kind hC hG (hC.2.2.2.2 _ w49) dX0_isClosed_11 ?_
    refine lv_iload_n hx hb dX0_isClosed_14 rfl (lv_at hl 1 rfl) ?_
    refine al_AC_kind hC hG (by omega) dX0_isClosed_15 ?_
    refine lv_iconst (v := nI 3) hx hb dX0_isClosed_16 (by decide) ?_
    refine bn_ne (tgt := 24) hx hb (by omega) (by omega) dX0_isClosed_17 (by decide) (fun h17 => ?_) (fun h17 => ?_)
    · refine lv_iconst (v := nI 0) hx hb dX0_isClosed_24 (by decide) ?_
      exact te_z (v := false) hC hG hr hk ⟨(congrArg bI (show false = fClosed u k from by simp [fClosed, h7, h17])), rfl⟩ dX0_isClosed_25
    · refine lv_iconst (v := nI 1) hx hb dX0_isClosed_20 (by decide) ?_
      refine lv_goto (tgt := 25) hx hb dX0_isClosed_21 (by decide) ?_
      exact te_z (v := true) hC hG hr hk ⟨(congrArg bI (show true = fClosed u k from by simp [fClosed, h7, h17])), rfl⟩ dX0_isClosed_25
theorem k_AC_isClosed {p : Program} {l : Launch} {e : Env} {R : Room} {s : State} {m : MethodId} {args : Array Value} {below : List Frame} {meth : Method} {c : Code} {H : Heap} {locs : List Loc} {cs ss : Nat} {Q : State → Prop} {cc : ByteArray} {nL pc : Nat} {ls : Array Slot} {rest : List Value} {own : String} {idx : Nat} {D : va_G} {κ : ClassId × ClassId × ClassId} {a : Nat → Nat} {u : TS} {A : Nat → Prop} (hC : CallFix p m c cc nL s args WALL own) (hG : GW D κ a u A s H locs) (k : Nat) (q1 : k < AC_count u) (q2 : OK u) (wl : Cond.methodLink own idx yX0_isClosed ∈ WALL) (hR : 0 + 1 ≤ R.frames ∧ 8 + (2 + 11) + 0 ≤ R.locals) (hls : ls.size = nL) (h8 : (rest.map fun v => v.category).sum ≤ 8) (hd : decode cc pc = .ok (.invokevirtual idx, 3)) (hcs : cs ≤ R.cells ∧ ss ≤ R.slots) (kk : ∀ (H1 : Heap) (locs1 : List Loc), GW D κ a u A s H1 locs1 → W p l e R s m args below meth c H1 locs1 cs ss Q (F0 m (pc + 3) ls (.int (bI (fClosed u k)) :: rest))) : W p l e R s m args below meth c H locs cs ss Q (F0 m pc ls (.int (nI k) :: .ref (a 1) :: rest)) :=
  tc_i hG (tr_V (n := 1) (k := 1) (ci := 0) (As := [.int (nI k)]) hC hG (c_AC_isClosed l D κ a H.size u k q1 q2) rfl rfl wl w15 w198 w196 w197 (by decide +kernel) hR rfl hls rfl h8 hd hcs) (fun r u' H1 locs1 hq hG1 => by obtain ⟨rfl, rfl⟩ := hq; exact kk H1 locs1 hG1)

theorem dX0_stand_0 : decode cX0_stand 0 = .ok (.aload_n 0, 1) := by decide +kernel
theorem dX0_stand_1 : decode cX0_stand 1 = .ok (.getfield 15, 3) := by decide +kernel
theorem dX0_stand_10 : decode cX0_stand 10 = .ok (.getfield 15, 3) := by decide +kernel
theorem dX0_stand_13 : decode cX0_stand 13 = .ok (.iload_n 1, 1) := by decide +kernel
theorem dX0_stand_14 : decode cX0_stand 14 = .ok (.iaload, 1) := by decide +kernel
theorem dX0_stand_15 : decode cX0_stand 15 = .ok (.iconst 3, 1) := by decide +kernel
theorem dX0_stand_16 : decode cX0_stand 16 = .ok (.if_icmp .ne 7, 3) := by decide +kernel
theorem dX0_stand_19 : decode cX0_stand 19 = .ok (.lload_n 2, 1) := by decide +kernel
theorem dX0_stand_20 : decode cX0_stand 20 = .ok (.goto 5, 3) := by decide +kernel
theorem dX0_stand_23 : decode cX0_stand 23 = .ok (.lload_n 2, 1) := by decide +kernel
theorem dX0_stand_24 : decode cX0_stand 24 = .ok (.lneg, 1) := by decide +kernel
theorem dX0_stand_25 : decode cX0_stand 25 = .ok (.lreturn, 1) := by decide +kernel
theorem dX0_stand_4 : decode cX0_stand 4 = .ok (.iload_n 1, 1) := by decide +kernel
theorem dX0_stand_5 : decode cX0_stand 5 = .ok (.iaload, 1) := by decide +kernel
theorem dX0_stand_6 : decode cX0_stand 6 = .ok (.ifCond .eq 13, 3) := by decide +kernel
theorem dX0_stand_9 : decode cX0_stand 9 = .ok (.aload_n 0, 1) := by decide +kernel
set_option maxHeartbeats 4000000 in
set_option maxRecDepth 100000 in
theorem c_AC_stand (l : Launch) (D : va_G) (κ : ClassId × ClassId × ClassId) (a : Nat → Nat) (sz : Nat) (u : TS) (k : Nat) (b : Int64) (q1 : k < AC_count u) (q2 : OK u) : TM l yX0_stand cX0_stand 4 (some .long) 0 0 D κ a u sz [.ref (a 1), .int (nI k), .long b] (QL D κ a sz (fun r u' => r = (fStd u k b) ∧ u' = u)) := by
  refine TM.of (by decide +kernel) (Nat.le_of_ble_eq_true rfl) ?_
  intro p e s m below meth c ls hC hr hk hsz H locs hG hl
  have hx := hC.1
  have hb := hC.2.1
  have hl : lv_has ls 4 [(0, .ref (a 1)), (1, .int (nI k)), (2, .long b)] := hl
  have qok := q2
  have ⟨n1, n2, n3, n4, n5, n6, n7, n8, n9, n10⟩ := qok.n
  have k1 := qok.acc q1
  refine lv_aload_n hx hb dX0_stand_0 rfl (lv_at hl 0 rfl) ?_
  refine gf_AC_kind hC hG (hC.2.2.2.2 _ w49) dX0_stand_1 ?_
  refine lv_iload_n hx hb dX0_stand_4 rfl (lv_at hl 1 rfl) ?_
  refine al_AC_kind hC hG (by omega) dX0_stand_5 ?_
  refine bz_eq (tgt := 19) hx hb (by omega) dX0_stand_6 (by decide) (fun h6 => ?_) (fun h6 => ?_)
  · refine lv_lload_n hx hb dX0_stand_19 rfl (lv_at hl 2 rfl) ?_
    refine lv_goto (tgt := 25) hx hb dX0_stand_20 (by decide) ?_
    exact te_l hC hG hr hk ⟨(show b = fStd u k b from by simp [fStd, h6]), rfl⟩ dX0_stand_25
  · refine lv_aload_n hx hb dX0_stand_9 rfl (lv_at hl 0 rfl) ?_
    refine gf_AC_kind hC hG (hC.2.2.2.2 _ w49) dX0_stand_10 ?_
    refine lv_iload_n hx hb dX0_stand_13 rfl (lv_at hl 1 rfl) ?_
    refine al_AC_kind hC hG (by omega) dX0_stand_14 ?_
    refine lv_iconst (v := nI 3) hx hb dX0_stand_15 (by decide) ?_
    refine bn_ne (tgt := 23) hx hb (by omega) (by omega) dX0_stand_16 (by decide) (fun h16 => ?_) (fun h16 => ?_)
    · refine lv_lload_n hx hb dX0_stand_23 rfl (lv_at hl 2 rfl) ?_
      refine lv_lneg hx hb dX0_stand_24 ?_
      exact te_l hC hG hr hk ⟨(show (-b) = fStd u k b from by simp [fStd, h6, h16]), rfl⟩ dX0_stand_25
    · refine lv_lload_n hx hb dX0_stand_19 rfl (lv_at hl 2 rfl) ?_
      refine lv_goto (tgt := 25) hx hb dX0_stand_20 (by decide) ?_
      exact te_l hC hG hr hk ⟨(show b = fStd u k b from by simp [fStd, h6, h16]), rfl⟩ dX0_stand_25
theorem k_AC_stand {p : Program} {l : Launch} {e : Env} {R : Room} {s : State} {m : MethodId} {args : Array Value} {below : List Frame} {meth : Method} {c : Code} {H : Heap} {locs : List Loc} {cs ss : Nat} {Q : State → Prop} {cc : ByteArray} {nL pc : Nat} {ls : Array Slot} {rest : List Value} {own : String} {idx : Nat} {D : va_G} {κ : ClassId × ClassId × ClassId} {a : Nat → Nat} {u : TS} {A : Nat → Prop} (hC : CallFix p m c cc nL s args WALL own) (hG : GW D κ a u A s H locs) (k : Nat) (b : Int64) (q1 : k < AC_count u) (q2 : OK u) (wl : Cond.methodLink own idx yX0_stand ∈ WALL) (hR : 0 + 1 ≤ R.frames ∧ 8 + (4 + 11) + 0 ≤ R.locals) (hls : ls.size = nL) (h8 : (rest.map fun v => v.category).sum ≤ 8) (hd : decode cc pc = .ok (.invokevirtual idx, 3)) (hcs : cs ≤ R.cells ∧ ss ≤ R.slots) (kk : ∀ (H1 : Heap) (locs1 : List Loc), GW D κ a u A s H1 locs1 → W p l e R s m args below meth c H1 locs1 cs ss Q (F0 m (pc + 3) ls (.long (fStd u k b) :: rest))) : W p l e R s m args below meth c H locs cs ss Q (F0 m pc ls (.long b :: .int (nI k) :: .ref (a 1) :: rest)) :=
  tc_l hG (tr_V (n := 2) (k := 1) (ci := 0) (As := [.int (nI k), .long b]) hC hG (c_AC_stand l D κ a H.size u k b q1 q2) rfl rfl wl w15 w448 w446 w447 (by decide +kernel) hR rfl hls rfl h8 hd hcs) (fun r u' H1 locs1 hq hG1 => by obtain ⟨rfl, rfl⟩ := hq; exact kk H1 locs1 hG1)

theorem dX0_worth_0 : decode cX0_worth 0 = .ok (.lload_n 2, 1) := by decide +kernel
theorem dX0_worth_1 : decode cX0_worth 1 = .ok (.aload_n 0, 1) := by decide +kernel
theorem dX0_worth_10 : decode cX0_worth 10 = .ok (.iaload, 1) := by decide +kernel
theorem dX0_worth_11 : decode cX0_worth 11 = .ok (.iaload, 1) := by decide +kernel
theorem dX0_worth_12 : decode cX0_worth 12 = .ok (.i2l, 1) := by decide +kernel
theorem dX0_worth_13 : decode cX0_worth 13 = .ok (.lmul, 1) := by decide +kernel
theorem dX0_worth_14 : decode cX0_worth 14 = .ok (.lstore 4, 2) := by decide +kernel
theorem dX0_worth_16 : decode cX0_worth 16 = .ok (.lload 4, 2) := by decide +kernel
theorem dX0_worth_18 : decode cX0_worth 18 = .ok (.lconst 0, 1) := by decide +kernel
theorem dX0_worth_19 : decode cX0_worth 19 = .ok (.lcmp, 1) := by decide +kernel
theorem dX0_worth_2 : decode cX0_worth 2 = .ok (.getfield 9, 3) := by decide +kernel
theorem dX0_worth_20 : decode cX0_worth 20 = .ok (.ifCond .ge 9, 3) := by decide +kernel
theorem dX0_worth_23 : decode cX0_worth 23 = .ok (.ldc2_w 32, 3) := by decide +kernel
theorem dX0_worth_26 : decode cX0_worth 26 = .ok (.goto 6, 3) := by decide +kernel
theorem dX0_worth_29 : decode cX0_worth 29 = .ok (.ldc2_w 34, 3) := by decide +kernel
theorem dX0_worth_32 : decode cX0_worth 32 = .ok (.lstore 6, 2) := by decide +kernel
theorem dX0_worth_34 : decode cX0_worth 34 = .ok (.lload 4, 2) := by decide +kernel
theorem dX0_worth_36 : decode cX0_worth 36 = .ok (.lload 6, 2) := by decide +kernel
theorem dX0_worth_38 : decode cX0_worth 38 = .ok (.ladd, 1) := by decide +kernel
theorem dX0_worth_39 : decode cX0_worth 39 = .ok (.ldc2_w 36, 3) := by decide +kernel
theorem dX0_worth_42 : decode cX0_worth 42 = .ok (.ldiv, 1) := by decide +kernel
theorem dX0_worth_43 : decode cX0_worth 43 = .ok (.lreturn, 1) := by decide +kernel
theorem dX0_worth_5 : decode cX0_worth 5 = .ok (.aload_n 0, 1) := by decide +kernel
theorem dX0_worth_6 : decode cX0_worth 6 = .ok (.getfield 18, 3) := by decide +kernel
theorem dX0_worth_9 : decode cX0_worth 9 = .ok (.iload_n 1, 1) := by decide +kernel
set_option maxHeartbeats 4000000 in
set_option maxRecDepth 100000 in
theorem c_AC_worth (l : Launch) (D : va_G) (κ : ClassId × ClassId × ClassId) (a : Nat → Nat) (sz : Nat) (u : TS) (k : Nat) (x : Int64) (q1 : k < AC_count u) (q2 : OK u) : TM l yX0_worth cX0_worth 8 (some .long) 0 0 D κ a u sz [.ref (a 1), .int (nI k), .long x] (QL D κ a sz (fun r u' => r = (fWorth u k x) ∧ u' = u)) := by
  refine TM.of (by decide +kernel) (Nat.le_of_ble_eq_true rfl) ?_
  intro p e s m below meth c ls hC hr hk hsz H locs hG hl
  have hx := hC.1
  have hb := hC.2.1
  have hl : lv_has ls 8 [(0, .ref (a 1)), (1, .int (nI k)), (2, .long x)] := hl
  have qok := q2
  have ⟨n1, n2, n3, n4, n5, n6, n7, n8, n9, n10⟩ := qok.n
  have k1 := qok.acc q1
  refine lv_lload_n hx hb dX0_worth_0 rfl (lv_at hl 2 rfl) ?_
  refine lv_aload_n hx hb dX0_worth_1 rfl (lv_at hl 0 rfl) ?_
  refine gf_AC_rates hC hG (hC.2.2.2.2 _ w48) dX0_worth_2 ?_
  refine lv_aload_n hx hb dX0_worth_5 rfl (lv_at hl 0 rfl) ?_
  refine gf_AC_currency hC hG (hC.2.2.2.2 _ w50) dX0_worth_6 ?_
  refine lv_iload_n hx hb dX0_worth_9 rfl (lv_at hl 1 rfl) ?_
  refine al_AC_currency hC hG (by omega) dX0_worth_10 ?_
  refine al_AC_rates hC hG (by omega) dX0_worth_11 ?_
  refine lv_i2l hx hb dX0_worth_12 rfl ?_
  refine lv_lmul hx hb dX0_worth_13 ?_
  refine lv_lstore (lv' := [(4, .long (x * ((AC_rates u (AC_currency u k)).toInt64))), (0, .ref (a 1)), (1, .int (nI k)), (2, .long x)]) hx hb dX0_worth_14 hl (by decide) rfl (fun ls hl => ?_)
  refine lv_lload hx hb dX0_worth_16 (lv_at hl 0 rfl) ?_
  refine lv_lconst (v := 0) hx hb dX0_worth_18 (by decide) ?_
  refine bl_ge (tgt := 29) hx hb dX0_worth_19 dX0_worth_20 (by decide) (fun h19 => ?_) (fun h19 => ?_)
  · refine lv_ldc2 hx hb hC.2.2.2.1 (hC.2.2.2.2 _ w220) dX0_worth_29 ?_
    refine lv_lstore (lv' := [(6, .long (500 : Int64)), (4, .long (x * ((AC_rates u (AC_currency u k)).toInt64))), (0, .ref (a 1)), (1, .int (nI k)), (2, .long x)]) hx hb dX0_worth_32 hl (by decide) rfl (fun ls hl => ?_)
    refine lv_lload hx hb dX0_worth_34 (lv_at hl 1 rfl) ?_
    refine lv_lload hx hb dX0_worth_36 (lv_at hl 0 rfl) ?_
    refine lv_ladd hx hb dX0_worth_38 ?_
    refine lv_ldc2 hx hb hC.2.2.2.1 (hC.2.2.2.2 _ w221) dX0_worth_39 ?_
    refine lv_ldiv hx hb dX0_worth_42 (by decide) ?_
    exact te_l hC hG hr hk ⟨(show (((x * ((AC_rates u (AC_currency u k)).toInt64)) + (500 : Int64)) / (1000 : Int64)) = fWorth u k x from by rw [fWorth, if_neg (Int64.not_lt.mpr h19)]), rfl⟩ dX0_worth_43
  · refine lv_ldc2 hx hb hC.2.2.2.1 (hC.2.2.2.2 _ w219) dX0_worth_23 ?_
    refine lv_goto (tgt := 32) hx hb dX0_worth_26 (by decide) ?_
    refine lv_lstore (lv' := [(6, .long (-500 : Int64)), (4, .long (x * ((AC_rates u (AC_currency u k)).toInt64))), (0, .ref (a 1)), (1, .int (nI k)), (2, .long x)]) hx hb dX0_worth_32 hl (by decide) rfl (fun ls hl => ?_)
    refine lv_lload hx hb dX0_worth_34 (lv_at hl 1 rfl) ?_
    refine lv_lload hx hb dX0_worth_36 (lv_at hl 0 rfl) ?_
    refine lv_ladd hx hb dX0_worth_38 ?_
    refine lv_ldc2 hx hb hC.2.2.2.1 (hC.2.2.2.2 _ w221) dX0_worth_39 ?_
    refine lv_ldiv hx hb dX0_worth_42 (by decide) ?_
    exact te_l hC hG hr hk ⟨(show (((x * ((AC_rates u (AC_currency u k)).toInt64)) + (-500 : Int64)) / (1000 : Int64)) = fWorth u k x from by rw [fWorth, if_pos (Int64.not_le.mp h19)]), rfl⟩ dX0_worth_43
theorem k_AC_worth {p : Program} {l : Launch} {e : Env} {R : Room} {s : State} {m : MethodId} {args : Array Value} {below : List Frame} {meth : Method} {c : Code} {H : Heap} {locs : List Loc} {cs ss : Nat} {Q : State → Prop} {cc : ByteArray} {nL pc : Nat} {ls : Array Slot} {rest : List Value} {own : String} {idx : Nat} {D : va_G} {κ : ClassId × ClassId × ClassId} {a : Nat → Nat} {u : TS} {A : Nat → Prop} (hC : CallFix p m c cc nL s args WALL own) (hG : GW D κ a u A s H locs) (k : Nat) (x : Int64) (q1 : k < AC_count u) (q2 : OK u) (wl : Cond.methodLink own idx yX0_worth ∈ WALL) (hR : 0 + 1 ≤ R.frames ∧ 8 + (8 + 11) + 0 ≤ R.locals) (hls : ls.size = nL) (h8 : (rest.map fun v => v.category).sum ≤ 8) (hd : decode cc pc = .ok (.invokevirtual idx, 3)) (hcs : cs ≤ R.cells ∧ ss ≤ R.slots) (kk : ∀ (H1 : Heap) (locs1 : List Loc), GW D κ a u A s H1 locs1 → W p l e R s m args below meth c H1 locs1 cs ss Q (F0 m (pc + 3) ls (.long (fWorth u k x) :: rest))) : W p l e R s m args below meth c H locs cs ss Q (F0 m pc ls (.long x :: .int (nI k) :: .ref (a 1) :: rest)) :=
  tc_l hG (tr_V (n := 2) (k := 1) (ci := 0) (As := [.int (nI k), .long x]) hC hG (c_AC_worth l D κ a H.size u k x q1 q2) rfl rfl wl w15 w218 w216 w217 (by decide +kernel) hR rfl hls rfl h8 hd hcs) (fun r u' H1 locs1 hq hG1 => by obtain ⟨rfl, rfl⟩ := hq; exact kk H1 locs1 hG1)

theorem dX4_add_0 : decode cX4_add 0 = .ok (.aload_n 0, 1) := by decide +kernel
theorem dX4_add_1 : decode cX4_add 1 = .ok (.getfield 22, 3) := by decide +kernel
theorem dX4_add_10 : decode cX4_add 10 = .ok (.aload_n 0, 1) := by decide +kernel
theorem dX4_add_11 : decode cX4_add 11 = .ok (.getfield 9, 3) := by decide +kernel
theorem dX4_add_14 : decode cX4_add 14 = .ok (.aload_n 0, 1) := by decide +kernel
theorem dX4_add_15 : decode cX4_add 15 = .ok (.getfield 22, 3) := by decide +kernel
theorem dX4_add_18 : decode cX4_add 18 = .ok (.iload_n 1, 1) := by decide +kernel
theorem dX4_add_19 : decode cX4_add 19 = .ok (.iastore, 1) := by decide +kernel
theorem dX4_add_20 : decode cX4_add 20 = .ok (.aload_n 0, 1) := by decide +kernel
theorem dX4_add_21 : decode cX4_add 21 = .ok (.getfield 15, 3) := by decide +kernel
theorem dX4_add_24 : decode cX4_add 24 = .ok (.aload_n 0, 1) := by decide +kernel
theorem dX4_add_25 : decode cX4_add 25 = .ok (.getfield 22, 3) := by decide +kernel
theorem dX4_add_28 : decode cX4_add 28 = .ok (.lload_n 2, 1) := by decide +kernel
theorem dX4_add_29 : decode cX4_add 29 = .ok (.lastore, 1) := by decide +kernel
theorem dX4_add_30 : decode cX4_add 30 = .ok (.aload_n 0, 1) := by decide +kernel
theorem dX4_add_31 : decode cX4_add 31 = .ok (.getfield 19, 3) := by decide +kernel
theorem dX4_add_34 : decode cX4_add 34 = .ok (.aload_n 0, 1) := by decide +kernel
theorem dX4_add_35 : decode cX4_add 35 = .ok (.getfield 22, 3) := by decide +kernel
theorem dX4_add_38 : decode cX4_add 38 = .ok (.lload 4, 2) := by decide +kernel
theorem dX4_add_4 : decode cX4_add 4 = .ok (.bipush 10, 2) := by decide +kernel
theorem dX4_add_40 : decode cX4_add 40 = .ok (.lastore, 1) := by decide +kernel
theorem dX4_add_41 : decode cX4_add 41 = .ok (.aload_n 0, 1) := by decide +kernel
theorem dX4_add_42 : decode cX4_add 42 = .ok (.dup, 1) := by decide +kernel
theorem dX4_add_43 : decode cX4_add 43 = .ok (.getfield 22, 3) := by decide +kernel
theorem dX4_add_46 : decode cX4_add 46 = .ok (.iconst 1, 1) := by decide +kernel
theorem dX4_add_47 : decode cX4_add 47 = .ok (.iadd, 1) := by decide +kernel
theorem dX4_add_48 : decode cX4_add 48 = .ok (.putfield 22, 3) := by decide +kernel
theorem dX4_add_51 : decode cX4_add 51 = .ok (.return_, 1) := by decide +kernel
theorem dX4_add_6 : decode cX4_add 6 = .ok (.if_icmp .lt 4, 3) := by decide +kernel
set_option maxHeartbeats 4000000 in
set_option maxRecDepth 100000 in
theorem c_L0_add (l : Launch) (D : va_G) (κ : ClassId × ClassId × ClassId) (a : Nat → Nat) (sz : Nat) (u : TS) (ac : Nat) (am : Int64) (wo : Int64) (q1 : L0_count u < 10) : TM l yX4_add cX4_add 6 none 0 0 D κ a u sz [.ref (a 3), .int (nI ac), .long am, .long wo] (QV D κ a sz (fun u' => u' = fRow 0 u ac am wo)) := by
  refine TM.of (by decide +kernel) (Nat.le_of_ble_eq_true rfl) ?_
  intro p e s m below meth c ls hC hr hk hsz H locs hG hl
  have hx := hC.1
  have hb := hC.2.1
  have hl : lv_has ls 6 [(0, .ref (a 3)), (1, .int (nI ac)), (2, .long am), (4, .long wo)] := hl
  refine lv_aload_n hx hb dX4_add_0 rfl (lv_at hl 0 rfl) ?_
  refine gf_L0_count hC hG (hC.2.2.2.2 _ w70) dX4_add_1 ?_
  refine lv_bipush (v := nI 10) hx hb dX4_add_4 (by decide) ?_
  refine bn_lt_t (tgt := 10) hx hb (by omega) (by omega) dX4_add_6 (by decide) (by omega) ?_
  refine lv_aload_n hx hb dX4_add_10 rfl (lv_at hl 0 rfl) ?_
  refine gf_L0_account hC hG (hC.2.2.2.2 _ w66) dX4_add_11 ?_
  refine lv_aload_n hx hb dX4_add_14 rfl (lv_at hl 0 rfl) ?_
  refine gf_L0_count hC hG (hC.2.2.2.2 _ w70) dX4_add_15 ?_
  refine lv_iload_n hx hb dX4_add_18 rfl (lv_at hl 1 rfl) ?_
  refine as_L0_account hC hG (by omega) dX4_add_19 (fun H locs hG => ?_)
  refine lv_aload_n hx hb dX4_add_20 rfl (lv_at hl 0 rfl) ?_
  refine gf_L0_amount hC hG (hC.2.2.2.2 _ w68) dX4_add_21 ?_
  refine lv_aload_n hx hb dX4_add_24 rfl (lv_at hl 0 rfl) ?_
  refine gf_L0_count hC hG (hC.2.2.2.2 _ w70) dX4_add_25 ?_
  refine W.eq (g2 := F0 m 28 ls [.int (nI (L0_count u)), .ref (a 16)]) rfl ?_
  refine lv_lload_n hx hb dX4_add_28 rfl (lv_at hl 2 rfl) ?_
  refine as_L0_amount hC hG (by omega) dX4_add_29 (fun H locs hG => ?_)
  refine lv_aload_n hx hb dX4_add_30 rfl (lv_at hl 0 rfl) ?_
  refine gf_L0_worth hC hG (hC.2.2.2.2 _ w69) dX4_add_31 ?_
  refine lv_aload_n hx hb dX4_add_34 rfl (lv_at hl 0 rfl) ?_
  refine gf_L0_count hC hG (hC.2.2.2.2 _ w70) dX4_add_35 ?_
  refine W.eq (g2 := F0 m 38 ls [.int (nI (L0_count u)), .ref (a 17)]) rfl ?_
  refine lv_lload hx hb dX4_add_38 (lv_at hl 3 rfl) ?_
  refine as_L0_worth hC hG (by omega) dX4_add_40 (fun H locs hG => ?_)
  refine lv_aload_n hx hb dX4_add_41 rfl (lv_at hl 0 rfl) ?_
  refine lv_dup hx hb dX4_add_42 rfl ?_
  refine gf_L0_count hC hG (hC.2.2.2.2 _ w70) dX4_add_43 ?_
  refine W.eq (g2 := F0 m 46 ls [.int (nI (L0_count u)), .ref (a 3)]) rfl ?_
  refine lv_iconst (v := nI 1) hx hb dX4_add_46 (by decide) ?_
  refine ar_iadd hx hb dX4_add_47 ?_
  refine pf_L0_count hC hG (hC.2.2.2.2 _ w70) dX4_add_48 (fun H locs hG => ?_)
  exact te_v hC hG hr hk (by rfl) dX4_add_51
theorem k_L0_add {p : Program} {l : Launch} {e : Env} {R : Room} {s : State} {m : MethodId} {args : Array Value} {below : List Frame} {meth : Method} {c : Code} {H : Heap} {locs : List Loc} {cs ss : Nat} {Q : State → Prop} {cc : ByteArray} {nL pc : Nat} {ls : Array Slot} {rest : List Value} {own : String} {idx : Nat} {D : va_G} {κ : ClassId × ClassId × ClassId} {a : Nat → Nat} {u : TS} {A : Nat → Prop} (hC : CallFix p m c cc nL s args WALL own) (hG : GW D κ a u A s H locs) (ac : Nat) (am : Int64) (wo : Int64) (q1 : L0_count u < 10) (wl : Cond.methodLink own idx yX4_add ∈ WALL) (hR : 0 + 1 ≤ R.frames ∧ 8 + (6 + 11) + 0 ≤ R.locals) (hls : ls.size = nL) (h8 : (rest.map fun v => v.category).sum ≤ 8) (hd : decode cc pc = .ok (.invokevirtual idx, 3)) (hcs : cs ≤ R.cells ∧ ss ≤ R.slots) (kk : ∀ (H1 : Heap) (locs1 : List Loc), GW D κ a (fRow 0 u ac am wo) A s H1 locs1 → W p l e R s m args below meth c H1 locs1 cs ss Q (F0 m (pc + 3) ls (rest))) : W p l e R s m args below meth c H locs cs ss Q (F0 m pc ls (.long wo :: .long am :: .int (nI ac) :: .ref (a 3) :: rest)) :=
  tc_v hG (tr_V (n := 3) (k := 3) (ci := 4) (As := [.int (nI ac), .long am, .long wo]) hC hG (c_L0_add l D κ a H.size u ac am wo q1) rfl rfl wl w40 w225 w223 w224 (by decide +kernel) hR rfl hls rfl h8 hd hcs) (fun u' H1 locs1 hq hG1 => by subst hq; exact kk H1 locs1 hG1)

theorem dX4_worthSum_0 : decode cX4_worthSum 0 = .ok (.lconst 0, 1) := by decide +kernel
theorem dX4_worthSum_1 : decode cX4_worthSum 1 = .ok (.lstore_n 1, 1) := by decide +kernel
theorem dX4_worthSum_12 : decode cX4_worthSum 12 = .ok (.lload_n 1, 1) := by decide +kernel
theorem dX4_worthSum_13 : decode cX4_worthSum 13 = .ok (.aload_n 0, 1) := by decide +kernel
theorem dX4_worthSum_14 : decode cX4_worthSum 14 = .ok (.getfield 19, 3) := by decide +kernel
theorem dX4_worthSum_17 : decode cX4_worthSum 17 = .ok (.iload_n 3, 1) := by decide +kernel
theorem dX4_worthSum_18 : decode cX4_worthSum 18 = .ok (.laload, 1) := by decide +kernel
theorem dX4_worthSum_19 : decode cX4_worthSum 19 = .ok (.ladd, 1) := by decide +kernel
theorem dX4_worthSum_2 : decode cX4_worthSum 2 = .ok (.iconst 0, 1) := by decide +kernel
theorem dX4_worthSum_20 : decode cX4_worthSum 20 = .ok (.lstore_n 1, 1) := by decide +kernel
theorem dX4_worthSum_21 : decode cX4_worthSum 21 = .ok (.iinc 3 1, 3) := by decide +kernel
theorem dX4_worthSum_24 : decode cX4_worthSum 24 = .ok (.goto (-20), 3) := by decide +kernel
theorem dX4_worthSum_27 : decode cX4_worthSum 27 = .ok (.lload_n 1, 1) := by decide +kernel
theorem dX4_worthSum_28 : decode cX4_worthSum 28 = .ok (.lreturn, 1) := by decide +kernel
theorem dX4_worthSum_3 : decode cX4_worthSum 3 = .ok (.istore_n 3, 1) := by decide +kernel
theorem dX4_worthSum_4 : decode cX4_worthSum 4 = .ok (.iload_n 3, 1) := by decide +kernel
theorem dX4_worthSum_5 : decode cX4_worthSum 5 = .ok (.aload_n 0, 1) := by decide +kernel
theorem dX4_worthSum_6 : decode cX4_worthSum 6 = .ok (.getfield 22, 3) := by decide +kernel
theorem dX4_worthSum_9 : decode cX4_worthSum 9 = .ok (.if_icmp .ge 18, 3) := by decide +kernel
set_option maxHeartbeats 4000000 in
set_option maxRecDepth 100000 in
theorem c_L0_worthSum (l : Launch) (D : va_G) (κ : ClassId × ClassId × ClassId) (a : Nat → Nat) (sz : Nat) (u : TS)  (q1 : L0_count u ≤ 10) : TM l yX4_worthSum cX4_worthSum 4 (some .long) 0 0 D κ a u sz [.ref (a 3)] (QL D κ a sz (fun r u' => r = (fSum (L0_worth u) (L0_count u)) ∧ u' = u)) := by
  refine TM.of (by decide +kernel) (Nat.le_of_ble_eq_true rfl) ?_
  intro p e s m below meth c ls hC hr hk hsz H locs hG hl
  have hx := hC.1
  have hb := hC.2.1
  have hl : lv_has ls 4 [(0, .ref (a 3))] := hl
  refine lv_lconst (v := 0) hx hb dX4_worthSum_0 (by decide) ?_
  refine lv_lstore_n (lv' := [(1, .long (0 : Int64)), (0, .ref (a 3))]) hx hb dX4_worthSum_1 rfl hl (by decide) rfl (fun ls hl => ?_)
  refine lv_iconst (v := nI 0) hx hb dX4_worthSum_2 (by decide) ?_
  refine lv_istore_n (lv' := [(3, .int (nI 0)), (1, .long (0 : Int64)), (0, .ref (a 3))]) hx hb dX4_worthSum_3 rfl hl (by decide) rfl (fun ls hl => ?_)
  have lp4 : ∀ (n : Nat) (i : Nat), L0_count u - i < n → (i ≤ L0_count u) → ∀ (H : Heap) (locs : List Loc), GW D κ a u (AA a sz) s H locs → ∀ ls : Array Slot, lv_has ls 4 [(3, .int (nI i)), (1, .long (fSum (L0_worth u) i)), (0, .ref (a 3))] → W p l e { frames := 0, cells := 0, slots := 0, locals := 0 } s m [.ref (a 3)].toArray below meth c H locs 0 0 (MQ below (QL D κ a sz (fun r u' => r = (fSum (L0_worth u) (L0_count u)) ∧ u' = u)) [.ref (a 3)].toArray s 0 0 (AA a sz)) (F0 m 4 ls []) := by
    intro n
    induction n with
    | zero =>
      intro i hm
      exact absurd hm (Nat.not_lt_zero _)
    | succ n ih4 =>
      intro i hm4 c4_1 H locs hG ls hl
      refine lv_iload_n hx hb dX4_worthSum_4 rfl (lv_at hl 0 rfl) ?_
      refine lv_aload_n hx hb dX4_worthSum_5 rfl (lv_at hl 2 rfl) ?_
      refine gf_L0_count hC hG (hC.2.2.2.2 _ w70) dX4_worthSum_6 ?_
      refine bn_ge (tgt := 27) hx hb (by omega) (by omega) dX4_worthSum_9 (by decide) (fun h9 => ?_) (fun h9 => ?_)
      · refine lv_lload_n hx hb dX4_worthSum_27 rfl (lv_at hl 1 rfl) ?_
        have hi : i = L0_count u := by omega
        exact te_l hC hG hr hk ⟨(show fSum (L0_worth u) i = fSum (L0_worth u) (L0_count u) from by rw [hi]), rfl⟩ dX4_worthSum_28
      · refine lv_lload_n hx hb dX4_worthSum_12 rfl (lv_at hl 1 rfl) ?_
        refine lv_aload_n hx hb dX4_worthSum_13 rfl (lv_at hl 2 rfl) ?_
        refine gf_L0_worth hC hG (hC.2.2.2.2 _ w69) dX4_worthSum_14 ?_
        refine lv_iload_n hx hb dX4_worthSum_17 rfl (lv_at hl 0 rfl) ?_
        refine al_L0_worth hC hG (by omega) dX4_worthSum_18 ?_
        refine lv_ladd hx hb dX4_worthSum_19 ?_
        refine lv_lstore_n (lv' := [(1, .long (fSum (L0_worth u) i + (L0_worth u i))), (3, .int (nI i)), (0, .ref (a 3))]) hx hb dX4_worthSum_20 rfl hl (by decide) rfl (fun ls hl => ?_)
        refine lv_iinc (v := (nI (i + 1))) (lv' := [(3, .int (nI (i + 1))), (1, .long (fSum (L0_worth u) i + (L0_worth u i))), (0, .ref (a 3))]) hx hb dX4_worthSum_21 hl (k := 1) rfl (nI_1 _) (by decide) rfl (fun ls hl => ?_)
        refine lv_goto (tgt := 4) hx hb dX4_worthSum_24 (by decide) ?_
        have e4_1 : fSum (L0_worth u) (i + 1) = (fSum (L0_worth u) i + (L0_worth u i)) := by rfl
        have hl : lv_has ls 4 [(3, .int (nI (i + 1))), (1, .long (fSum (L0_worth u) (i + 1))), (0, .ref (a 3))] := by rw [e4_1]; exact hl
        exact ih4  (i + 1) (by omega) (by omega) H locs hG ls (lv_sub hl [0, 1, 2] rfl)
  have e4_2 : fSum (L0_worth u) 0 = (0 : Int64) := by rfl
  have hl : lv_has ls 4 [(3, .int (nI 0)), (1, .long (fSum (L0_worth u) 0)), (0, .ref (a 3))] := by rw [e4_2]; exact hl
  exact lp4 _ 0 (Nat.lt_succ_self _) (by omega) H locs hG ls (lv_sub hl [0, 1, 2] rfl)
theorem k_L0_worthSum {p : Program} {l : Launch} {e : Env} {R : Room} {s : State} {m : MethodId} {args : Array Value} {below : List Frame} {meth : Method} {c : Code} {H : Heap} {locs : List Loc} {cs ss : Nat} {Q : State → Prop} {cc : ByteArray} {nL pc : Nat} {ls : Array Slot} {rest : List Value} {own : String} {idx : Nat} {D : va_G} {κ : ClassId × ClassId × ClassId} {a : Nat → Nat} {u : TS} {A : Nat → Prop} (hC : CallFix p m c cc nL s args WALL own) (hG : GW D κ a u A s H locs)  (q1 : L0_count u ≤ 10) (wl : Cond.methodLink own idx yX4_worthSum ∈ WALL) (hR : 0 + 1 ≤ R.frames ∧ 8 + (4 + 11) + 0 ≤ R.locals) (hls : ls.size = nL) (h8 : (rest.map fun v => v.category).sum ≤ 8) (hd : decode cc pc = .ok (.invokevirtual idx, 3)) (hcs : cs ≤ R.cells ∧ ss ≤ R.slots) (kk : ∀ (H1 : Heap) (locs1 : List Loc), GW D κ a u A s H1 locs1 → W p l e R s m args below meth c H1 locs1 cs ss Q (F0 m (pc + 3) ls (.long (fSum (L0_worth u) (L0_count u)) :: rest))) : W p l e R s m args below meth c H locs cs ss Q (F0 m pc ls (.ref (a 3) :: rest)) :=
  tc_l hG (tr_V (n := 0) (k := 3) (ci := 4) (As := []) hC hG (c_L0_worthSum l D κ a H.size u  q1) rfl rfl wl w40 w229 w227 w228 (by decide +kernel) hR rfl hls rfl h8 hd hcs) (fun r u' H1 locs1 hq hG1 => by obtain ⟨rfl, rfl⟩ := hq; exact kk H1 locs1 hG1)


set_option maxHeartbeats 4000000 in
set_option maxRecDepth 100000 in
theorem c_L1_add (l : Launch) (D : va_G) (κ : ClassId × ClassId × ClassId) (a : Nat → Nat) (sz : Nat) (u : TS) (ac : Nat) (am : Int64) (wo : Int64) (q1 : L1_count u < 10) : TM l yX4_add cX4_add 6 none 0 0 D κ a u sz [.ref (a 4), .int (nI ac), .long am, .long wo] (QV D κ a sz (fun u' => u' = fRow 1 u ac am wo)) := by
  refine TM.of (by decide +kernel) (Nat.le_of_ble_eq_true rfl) ?_
  intro p e s m below meth c ls hC hr hk hsz H locs hG hl
  have hx := hC.1
  have hb := hC.2.1
  have hl : lv_has ls 6 [(0, .ref (a 4)), (1, .int (nI ac)), (2, .long am), (4, .long wo)] := hl
  refine lv_aload_n hx hb dX4_add_0 rfl (lv_at hl 0 rfl) ?_
  refine gf_L1_count hC hG (hC.2.2.2.2 _ w70) dX4_add_1 ?_
  refine lv_bipush (v := nI 10) hx hb dX4_add_4 (by decide) ?_
  refine bn_lt_t (tgt := 10) hx hb (by omega) (by omega) dX4_add_6 (by decide) (by omega) ?_
  refine lv_aload_n hx hb dX4_add_10 rfl (lv_at hl 0 rfl) ?_
  refine gf_L1_account hC hG (hC.2.2.2.2 _ w66) dX4_add_11 ?_
  refine lv_aload_n hx hb dX4_add_14 rfl (lv_at hl 0 rfl) ?_
  refine gf_L1_count hC hG (hC.2.2.2.2 _ w70) dX4_add_15 ?_
  refine lv_iload_n hx hb dX4_add_18 rfl (lv_at hl 1 rfl) ?_
  refine as_L1_account hC hG (by omega) dX4_add_19 (fun H locs hG => ?_)
  refine lv_aload_n hx hb dX4_add_20 rfl (lv_at hl 0 rfl) ?_
  refine gf_L1_amount hC hG (hC.2.2.2.2 _ w68) dX4_add_21 ?_
  refine lv_aload_n hx hb dX4_add_24 rfl (lv_at hl 0 rfl) ?_
  refine gf_L1_count hC hG (hC.2.2.2.2 _ w70) dX4_add_25 ?_
  refine W.eq (g2 := F0 m 28 ls [.int (nI (L1_count u)), .ref (a 19)]) rfl ?_
  refine lv_lload_n hx hb dX4_add_28 rfl (lv_at hl 2 rfl) ?_
  refine as_L1_amount hC hG (by omega) dX4_add_29 (fun H locs hG => ?_)
  refine lv_aload_n hx hb dX4_add_30 rfl (lv_at hl 0 rfl) ?_
  refine gf_L1_worth hC hG (hC.2.2.2.2 _ w69) dX4_add_31 ?_
  refine lv_aload_n hx hb dX4_add_34 rfl (lv_at hl 0 rfl) ?_
  refine gf_L1_count hC hG (hC.2.2.2.2 _ w70) dX4_add_35 ?_
  refine W.eq (g2 := F0 m 38 ls [.int (nI (L1_count u)), .ref (a 20)]) rfl ?_
  refine lv_lload hx hb dX4_add_38 (lv_at hl 3 rfl) ?_
  refine as_L1_worth hC hG (by omega) dX4_add_40 (fun H locs hG => ?_)
  refine lv_aload_n hx hb dX4_add_41 rfl (lv_at hl 0 rfl) ?_
  refine lv_dup hx hb dX4_add_42 rfl ?_
  refine gf_L1_count hC hG (hC.2.2.2.2 _ w70) dX4_add_43 ?_
  refine W.eq (g2 := F0 m 46 ls [.int (nI (L1_count u)), .ref (a 4)]) rfl ?_
  refine lv_iconst (v := nI 1) hx hb dX4_add_46 (by decide) ?_
  refine ar_iadd hx hb dX4_add_47 ?_
  refine pf_L1_count hC hG (hC.2.2.2.2 _ w70) dX4_add_48 (fun H locs hG => ?_)
  exact te_v hC hG hr hk (by rfl) dX4_add_51
theorem k_L1_add {p : Program} {l : Launch} {e : Env} {R : Room} {s : State} {m : MethodId} {args : Array Value} {below : List Frame} {meth : Method} {c : Code} {H : Heap} {locs : List Loc} {cs ss : Nat} {Q : State → Prop} {cc : ByteArray} {nL pc : Nat} {ls : Array Slot} {rest : List Value} {own : String} {idx : Nat} {D : va_G} {κ : ClassId × ClassId × ClassId} {a : Nat → Nat} {u : TS} {A : Nat → Prop} (hC : CallFix p m c cc nL s args WALL own) (hG : GW D κ a u A s H locs) (ac : Nat) (am : Int64) (wo : Int64) (q1 : L1_count u < 10) (wl : Cond.methodLink own idx yX4_add ∈ WALL) (hR : 0 + 1 ≤ R.frames ∧ 8 + (6 + 11) + 0 ≤ R.locals) (hls : ls.size = nL) (h8 : (rest.map fun v => v.category).sum ≤ 8) (hd : decode cc pc = .ok (.invokevirtual idx, 3)) (hcs : cs ≤ R.cells ∧ ss ≤ R.slots) (kk : ∀ (H1 : Heap) (locs1 : List Loc), GW D κ a (fRow 1 u ac am wo) A s H1 locs1 → W p l e R s m args below meth c H1 locs1 cs ss Q (F0 m (pc + 3) ls (rest))) : W p l e R s m args below meth c H locs cs ss Q (F0 m pc ls (.long wo :: .long am :: .int (nI ac) :: .ref (a 4) :: rest)) :=
  tc_v hG (tr_V (n := 3) (k := 4) (ci := 4) (As := [.int (nI ac), .long am, .long wo]) hC hG (c_L1_add l D κ a H.size u ac am wo q1) rfl rfl wl w40 w225 w223 w224 (by decide +kernel) hR rfl hls rfl h8 hd hcs) (fun u' H1 locs1 hq hG1 => by subst hq; exact kk H1 locs1 hG1)


set_option maxHeartbeats 4000000 in
set_option maxRecDepth 100000 in
theorem c_L1_worthSum (l : Launch) (D : va_G) (κ : ClassId × ClassId × ClassId) (a : Nat → Nat) (sz : Nat) (u : TS)  (q1 : L1_count u ≤ 10) : TM l yX4_worthSum cX4_worthSum 4 (some .long) 0 0 D κ a u sz [.ref (a 4)] (QL D κ a sz (fun r u' => r = (fSum (L1_worth u) (L1_count u)) ∧ u' = u)) := by
  refine TM.of (by decide +kernel) (Nat.le_of_ble_eq_true rfl) ?_
  intro p e s m below meth c ls hC hr hk hsz H locs hG hl
  have hx := hC.1
  have hb := hC.2.1
  have hl : lv_has ls 4 [(0, .ref (a 4))] := hl
  refine lv_lconst (v := 0) hx hb dX4_worthSum_0 (by decide) ?_
  refine lv_lstore_n (lv' := [(1, .long (0 : Int64)), (0, .ref (a 4))]) hx hb dX4_worthSum_1 rfl hl (by decide) rfl (fun ls hl => ?_)
  refine lv_iconst (v := nI 0) hx hb dX4_worthSum_2 (by decide) ?_
  refine lv_istore_n (lv' := [(3, .int (nI 0)), (1, .long (0 : Int64)), (0, .ref (a 4))]) hx hb dX4_worthSum_3 rfl hl (by decide) rfl (fun ls hl => ?_)
  have lp4 : ∀ (n : Nat) (i : Nat), L1_count u - i < n → (i ≤ L1_count u) → ∀ (H : Heap) (locs : List Loc), GW D κ a u (AA a sz) s H locs → ∀ ls : Array Slot, lv_has ls 4 [(3, .int (nI i)), (1, .long (fSum (L1_worth u) i)), (0, .ref (a 4))] → W p l e { frames := 0, cells := 0, slots := 0, locals := 0 } s m [.ref (a 4)].toArray below meth c H locs 0 0 (MQ below (QL D κ a sz (fun r u' => r = (fSum (L1_worth u) (L1_count u)) ∧ u' = u)) [.ref (a 4)].toArray s 0 0 (AA a sz)) (F0 m 4 ls []) := by
    intro n
    induction n with
    | zero =>
      intro i hm
      exact absurd hm (Nat.not_lt_zero _)
    | succ n ih4 =>
      intro i hm4 c4_1 H locs hG ls hl
      refine lv_iload_n hx hb dX4_worthSum_4 rfl (lv_at hl 0 rfl) ?_
      refine lv_aload_n hx hb dX4_worthSum_5 rfl (lv_at hl 2 rfl) ?_
      refine gf_L1_count hC hG (hC.2.2.2.2 _ w70) dX4_worthSum_6 ?_
      refine bn_ge (tgt := 27) hx hb (by omega) (by omega) dX4_worthSum_9 (by decide) (fun h9 => ?_) (fun h9 => ?_)
      · refine lv_lload_n hx hb dX4_worthSum_27 rfl (lv_at hl 1 rfl) ?_
        have hi : i = L1_count u := by omega
        exact te_l hC hG hr hk ⟨(show fSum (L1_worth u) i = fSum (L1_worth u) (L1_count u) from by rw [hi]), rfl⟩ dX4_worthSum_28
      · refine lv_lload_n hx hb dX4_worthSum_12 rfl (lv_at hl 1 rfl) ?_
        refine lv_aload_n hx hb dX4_worthSum_13 rfl (lv_at hl 2 rfl) ?_
        refine gf_L1_worth hC hG (hC.2.2.2.2 _ w69) dX4_worthSum_14 ?_
        refine lv_iload_n hx hb dX4_worthSum_17 rfl (lv_at hl 0 rfl) ?_
        refine al_L1_worth hC hG (by omega) dX4_worthSum_18 ?_
        refine lv_ladd hx hb dX4_worthSum_19 ?_
        refine lv_lstore_n (lv' := [(1, .long (fSum (L1_worth u) i + (L1_worth u i))), (3, .int (nI i)), (0, .ref (a 4))]) hx hb dX4_worthSum_20 rfl hl (by decide) rfl (fun ls hl => ?_)
        refine lv_iinc (v := (nI (i + 1))) (lv' := [(3, .int (nI (i + 1))), (1, .long (fSum (L1_worth u) i + (L1_worth u i))), (0, .ref (a 4))]) hx hb dX4_worthSum_21 hl (k := 1) rfl (nI_1 _) (by decide) rfl (fun ls hl => ?_)
        refine lv_goto (tgt := 4) hx hb dX4_worthSum_24 (by decide) ?_
        have e4_1 : fSum (L1_worth u) (i + 1) = (fSum (L1_worth u) i + (L1_worth u i)) := by rfl
        have hl : lv_has ls 4 [(3, .int (nI (i + 1))), (1, .long (fSum (L1_worth u) (i + 1))), (0, .ref (a 4))] := by rw [e4_1]; exact hl
        exact ih4  (i + 1) (by omega) (by omega) H locs hG ls (lv_sub hl [0, 1, 2] rfl)
  have e4_2 : fSum (L1_worth u) 0 = (0 : Int64) := by rfl
  have hl : lv_has ls 4 [(3, .int (nI 0)), (1, .long (fSum (L1_worth u) 0)), (0, .ref (a 4))] := by rw [e4_2]; exact hl
  exact lp4 _ 0 (Nat.lt_succ_self _) (by omega) H locs hG ls (lv_sub hl [0, 1, 2] rfl)
theorem k_L1_worthSum {p : Program} {l : Launch} {e : Env} {R : Room} {s : State} {m : MethodId} {args : Array Value} {below : List Frame} {meth : Method} {c : Code} {H : Heap} {locs : List Loc} {cs ss : Nat} {Q : State → Prop} {cc : ByteArray} {nL pc : Nat} {ls : Array Slot} {rest : List Value} {own : String} {idx : Nat} {D : va_G} {κ : ClassId × ClassId × ClassId} {a : Nat → Nat} {u : TS} {A : Nat → Prop} (hC : CallFix p m c cc nL s args WALL own) (hG : GW D κ a u A s H locs)  (q1 : L1_count u ≤ 10) (wl : Cond.methodLink own idx yX4_worthSum ∈ WALL) (hR : 0 + 1 ≤ R.frames ∧ 8 + (4 + 11) + 0 ≤ R.locals) (hls : ls.size = nL) (h8 : (rest.map fun v => v.category).sum ≤ 8) (hd : decode cc pc = .ok (.invokevirtual idx, 3)) (hcs : cs ≤ R.cells ∧ ss ≤ R.slots) (kk : ∀ (H1 : Heap) (locs1 : List Loc), GW D κ a u A s H1 locs1 → W p l e R s m args below meth c H1 locs1 cs ss Q (F0 m (pc + 3) ls (.long (fSum (L1_worth u) (L1_count u)) :: rest))) : W p l e R s m args below meth c H locs cs ss Q (F0 m pc ls (.ref (a 4) :: rest)) :=
  tc_l hG (tr_V (n := 0) (k := 4) (ci := 4) (As := []) hC hG (c_L1_worthSum l D κ a H.size u  q1) rfl rfl wl w40 w229 w227 w228 (by decide +kernel) hR rfl hls rfl h8 hd hcs) (fun r u' H1 locs1 hq hG1 => by obtain ⟨rfl, rfl⟩ := hq; exact kk H1 locs1 hG1)

theorem dX2_heldOn_0 : decode cX2_heldOn 0 = .ok (.lconst 0, 1) := by decide +kernel
theorem dX2_heldOn_1 : decode cX2_heldOn 1 = .ok (.lstore 4, 2) := by decide +kernel
theorem dX2_heldOn_12 : decode cX2_heldOn 12 = .ok (.if_icmp .ge 49, 3) := by decide +kernel
theorem dX2_heldOn_3 : decode cX2_heldOn 3 = .ok (.iconst 0, 1) := by decide +kernel
theorem dX2_heldOn_4 : decode cX2_heldOn 4 = .ok (.istore 6, 2) := by decide +kernel
theorem dX2_heldOn_6 : decode cX2_heldOn 6 = .ok (.iload 6, 2) := by decide +kernel
theorem dX2_heldOn_61 : decode cX2_heldOn 61 = .ok (.lload 4, 2) := by decide +kernel
theorem dX2_heldOn_63 : decode cX2_heldOn 63 = .ok (.lreturn, 1) := by decide +kernel
theorem dX2_heldOn_8 : decode cX2_heldOn 8 = .ok (.aload_n 0, 1) := by decide +kernel
theorem dX2_heldOn_9 : decode cX2_heldOn 9 = .ok (.getfield 25, 3) := by decide +kernel
set_option maxHeartbeats 4000000 in
set_option maxRecDepth 100000 in
theorem c_HO_heldOn (l : Launch) (D : va_G) (κ : ClassId × ClassId × ClassId) (a : Nat → Nat) (sz : Nat) (u : TS) (w : Nat) (d : Nat) (x : Option Nat) (q1 : HO_count u = 0) : TM l yX2_heldOn cX2_heldOn 7 (some .long) 0 0 D κ a u sz [.ref (a 6), .int (nI w), .int (nI d), .int (oI x)] (QL D κ a sz (fun r u' => r = (0 : Int64) ∧ u' = u)) := by
  refine TM.of (by decide +kernel) (Nat.le_of_ble_eq_true rfl) ?_
  intro p e s m below meth c ls hC hr hk hsz H locs hG hl
  have hx := hC.1
  have hb := hC.2.1
  have hl : lv_has ls 7 [(0, .ref (a 6)), (1, .int (nI w)), (2, .int (nI d)), (3, .int (oI x))] := hl
  refine lv_lconst (v := 0) hx hb dX2_heldOn_0 (by decide) ?_
  refine lv_lstore (lv' := [(4, .long (0 : Int64)), (0, .ref (a 6)), (1, .int (nI w)), (2, .int (nI d)), (3, .int (oI x))]) hx hb dX2_heldOn_1 hl (by decide) rfl (fun ls hl => ?_)
  refine lv_iconst (v := nI 0) hx hb dX2_heldOn_3 (by decide) ?_
  refine lv_istore (lv' := [(6, .int (nI 0)), (4, .long (0 : Int64)), (0, .ref (a 6)), (1, .int (nI w)), (2, .int (nI d)), (3, .int (oI x))]) hx hb dX2_heldOn_4 hl (by decide) rfl (fun ls hl => ?_)
  refine lv_iload hx hb dX2_heldOn_6 (lv_at hl 0 rfl) ?_
  refine lv_aload_n hx hb dX2_heldOn_8 rfl (lv_at hl 2 rfl) ?_
  refine gf_HO_count hC hG (hC.2.2.2.2 _ w93) dX2_heldOn_9 ?_
  refine bn_ge_t (tgt := 61) hx hb (by omega) (by omega) dX2_heldOn_12 (by decide) (by omega) ?_
  refine lv_lload hx hb dX2_heldOn_61 (lv_at hl 1 rfl) ?_
  exact te_l hC hG hr hk ⟨rfl, rfl⟩ dX2_heldOn_63
theorem k_HO_heldOn {p : Program} {l : Launch} {e : Env} {R : Room} {s : State} {m : MethodId} {args : Array Value} {below : List Frame} {meth : Method} {c : Code} {H : Heap} {locs : List Loc} {cs ss : Nat} {Q : State → Prop} {cc : ByteArray} {nL pc : Nat} {ls : Array Slot} {rest : List Value} {own : String} {idx : Nat} {D : va_G} {κ : ClassId × ClassId × ClassId} {a : Nat → Nat} {u : TS} {A : Nat → Prop} (hC : CallFix p m c cc nL s args WALL own) (hG : GW D κ a u A s H locs) (w : Nat) (d : Nat) (x : Option Nat) (q1 : HO_count u = 0) (wl : Cond.methodLink own idx yX2_heldOn ∈ WALL) (hR : 0 + 1 ≤ R.frames ∧ 8 + (7 + 11) + 0 ≤ R.locals) (hls : ls.size = nL) (h8 : (rest.map fun v => v.category).sum ≤ 8) (hd : decode cc pc = .ok (.invokevirtual idx, 3)) (hcs : cs ≤ R.cells ∧ ss ≤ R.slots) (kk : ∀ (H1 : Heap) (locs1 : List Loc), GW D κ a u A s H1 locs1 → W p l e R s m args below meth c H1 locs1 cs ss Q (F0 m (pc + 3) ls (.long (0 : Int64) :: rest))) : W p l e R s m args below meth c H locs cs ss Q (F0 m pc ls (.int (oI x) :: .int (nI d) :: .int (nI w) :: .ref (a 6) :: rest)) :=
  tc_l hG (tr_V (n := 3) (k := 6) (ci := 2) (As := [.int (nI w), .int (nI d), .int (oI x)]) hC hG (c_HO_heldOn l D κ a H.size u w d x q1) rfl rfl wl w27 w452 w450 w451 (by decide +kernel) hR rfl hls rfl h8 hd hcs) (fun r u' H1 locs1 hq hG1 => by obtain ⟨rfl, rfl⟩ := hq; exact kk H1 locs1 hG1)

theorem dX2_countOpen_0 : decode cX2_countOpen 0 = .ok (.iconst 0, 1) := by decide +kernel
theorem dX2_countOpen_1 : decode cX2_countOpen 1 = .ok (.istore_n 2, 1) := by decide +kernel
theorem dX2_countOpen_2 : decode cX2_countOpen 2 = .ok (.iconst 0, 1) := by decide +kernel
theorem dX2_countOpen_3 : decode cX2_countOpen 3 = .ok (.istore_n 3, 1) := by decide +kernel
theorem dX2_countOpen_30 : decode cX2_countOpen 30 = .ok (.iload_n 2, 1) := by decide +kernel
theorem dX2_countOpen_31 : decode cX2_countOpen 31 = .ok (.ireturn, 1) := by decide +kernel
theorem dX2_countOpen_4 : decode cX2_countOpen 4 = .ok (.iload_n 3, 1) := by decide +kernel
theorem dX2_countOpen_5 : decode cX2_countOpen 5 = .ok (.aload_n 0, 1) := by decide +kernel
theorem dX2_countOpen_6 : decode cX2_countOpen 6 = .ok (.getfield 25, 3) := by decide +kernel
theorem dX2_countOpen_9 : decode cX2_countOpen 9 = .ok (.if_icmp .ge 21, 3) := by decide +kernel
set_option maxHeartbeats 4000000 in
set_option maxRecDepth 100000 in
theorem c_HO_countOpen (l : Launch) (D : va_G) (κ : ClassId × ClassId × ClassId) (a : Nat → Nat) (sz : Nat) (u : TS) (d : Nat) (q1 : HO_count u = 0) : TM l yX2_countOpen cX2_countOpen 4 (some .int) 0 0 D κ a u sz [.ref (a 6), .int (nI d)] (QI D κ a sz (fun r u' => r = (nI 0) ∧ u' = u)) := by
  refine TM.of (by decide +kernel) (Nat.le_of_ble_eq_true rfl) ?_
  intro p e s m below meth c ls hC hr hk hsz H locs hG hl
  have hx := hC.1
  have hb := hC.2.1
  have hl : lv_has ls 4 [(0, .ref (a 6)), (1, .int (nI d))] := hl
  refine lv_iconst (v := nI 0) hx hb dX2_countOpen_0 (by decide) ?_
  refine lv_istore_n (lv' := [(2, .int (nI 0)), (0, .ref (a 6)), (1, .int (nI d))]) hx hb dX2_countOpen_1 rfl hl (by decide) rfl (fun ls hl => ?_)
  refine lv_iconst (v := nI 0) hx hb dX2_countOpen_2 (by decide) ?_
  refine lv_istore_n (lv' := [(3, .int (nI 0)), (2, .int (nI 0)), (0, .ref (a 6)), (1, .int (nI d))]) hx hb dX2_countOpen_3 rfl hl (by decide) rfl (fun ls hl => ?_)
  refine lv_iload_n hx hb dX2_countOpen_4 rfl (lv_at hl 0 rfl) ?_
  refine lv_aload_n hx hb dX2_countOpen_5 rfl (lv_at hl 2 rfl) ?_
  refine gf_HO_count hC hG (hC.2.2.2.2 _ w93) dX2_countOpen_6 ?_
  refine bn_ge_t (tgt := 30) hx hb (by omega) (by omega) dX2_countOpen_9 (by decide) (by omega) ?_
  refine lv_iload_n hx hb dX2_countOpen_30 rfl (lv_at hl 1 rfl) ?_
  exact te_i (v := (nI 0)) hC hG hr hk ⟨rfl, rfl⟩ dX2_countOpen_31
theorem k_HO_countOpen {p : Program} {l : Launch} {e : Env} {R : Room} {s : State} {m : MethodId} {args : Array Value} {below : List Frame} {meth : Method} {c : Code} {H : Heap} {locs : List Loc} {cs ss : Nat} {Q : State → Prop} {cc : ByteArray} {nL pc : Nat} {ls : Array Slot} {rest : List Value} {own : String} {idx : Nat} {D : va_G} {κ : ClassId × ClassId × ClassId} {a : Nat → Nat} {u : TS} {A : Nat → Prop} (hC : CallFix p m c cc nL s args WALL own) (hG : GW D κ a u A s H locs) (d : Nat) (q1 : HO_count u = 0) (wl : Cond.methodLink own idx yX2_countOpen ∈ WALL) (hR : 0 + 1 ≤ R.frames ∧ 8 + (4 + 11) + 0 ≤ R.locals) (hls : ls.size = nL) (h8 : (rest.map fun v => v.category).sum ≤ 8) (hd : decode cc pc = .ok (.invokevirtual idx, 3)) (hcs : cs ≤ R.cells ∧ ss ≤ R.slots) (kk : ∀ (H1 : Heap) (locs1 : List Loc), GW D κ a u A s H1 locs1 → W p l e R s m args below meth c H1 locs1 cs ss Q (F0 m (pc + 3) ls (.int (nI 0) :: rest))) : W p l e R s m args below meth c H locs cs ss Q (F0 m pc ls (.int (nI d) :: .ref (a 6) :: rest)) :=
  tc_i hG (tr_V (n := 1) (k := 6) (ci := 2) (As := [.int (nI d)]) hC hG (c_HO_countOpen l D κ a H.size u d q1) rfl rfl wl w27 w170 w168 w169 (by decide +kernel) hR rfl hls rfl h8 hd hcs) (fun r u' H1 locs1 hq hG1 => by obtain ⟨rfl, rfl⟩ := hq; exact kk H1 locs1 hG1)

theorem dX5_sortIn_0 : decode cX5_sortIn 0 = .ok (.iload_n 1, 1) := by decide +kernel
theorem dX5_sortIn_1 : decode cX5_sortIn 1 = .ok (.istore_n 2, 1) := by decide +kernel
theorem dX5_sortIn_10 : decode cX5_sortIn 10 = .ok (.aload_n 0, 1) := by decide +kernel
theorem dX5_sortIn_11 : decode cX5_sortIn 11 = .ok (.getfield 21, 3) := by decide +kernel
theorem dX5_sortIn_14 : decode cX5_sortIn 14 = .ok (.iload_n 2, 1) := by decide +kernel
theorem dX5_sortIn_15 : decode cX5_sortIn 15 = .ok (.iconst 1, 1) := by decide +kernel
theorem dX5_sortIn_16 : decode cX5_sortIn 16 = .ok (.isub, 1) := by decide +kernel
theorem dX5_sortIn_17 : decode cX5_sortIn 17 = .ok (.iaload, 1) := by decide +kernel
theorem dX5_sortIn_18 : decode cX5_sortIn 18 = .ok (.iaload, 1) := by decide +kernel
theorem dX5_sortIn_19 : decode cX5_sortIn 19 = .ok (.aload_n 0, 1) := by decide +kernel
theorem dX5_sortIn_2 : decode cX5_sortIn 2 = .ok (.iload_n 2, 1) := by decide +kernel
theorem dX5_sortIn_20 : decode cX5_sortIn 20 = .ok (.getfield 15, 3) := by decide +kernel
theorem dX5_sortIn_23 : decode cX5_sortIn 23 = .ok (.iload_n 1, 1) := by decide +kernel
theorem dX5_sortIn_24 : decode cX5_sortIn 24 = .ok (.iaload, 1) := by decide +kernel
theorem dX5_sortIn_25 : decode cX5_sortIn 25 = .ok (.if_icmp .le 23, 3) := by decide +kernel
theorem dX5_sortIn_28 : decode cX5_sortIn 28 = .ok (.aload_n 0, 1) := by decide +kernel
theorem dX5_sortIn_29 : decode cX5_sortIn 29 = .ok (.getfield 21, 3) := by decide +kernel
theorem dX5_sortIn_3 : decode cX5_sortIn 3 = .ok (.ifCond .le 45, 3) := by decide +kernel
theorem dX5_sortIn_32 : decode cX5_sortIn 32 = .ok (.iload_n 2, 1) := by decide +kernel
theorem dX5_sortIn_33 : decode cX5_sortIn 33 = .ok (.aload_n 0, 1) := by decide +kernel
theorem dX5_sortIn_34 : decode cX5_sortIn 34 = .ok (.getfield 21, 3) := by decide +kernel
theorem dX5_sortIn_37 : decode cX5_sortIn 37 = .ok (.iload_n 2, 1) := by decide +kernel
theorem dX5_sortIn_38 : decode cX5_sortIn 38 = .ok (.iconst 1, 1) := by decide +kernel
theorem dX5_sortIn_39 : decode cX5_sortIn 39 = .ok (.isub, 1) := by decide +kernel
theorem dX5_sortIn_40 : decode cX5_sortIn 40 = .ok (.iaload, 1) := by decide +kernel
theorem dX5_sortIn_41 : decode cX5_sortIn 41 = .ok (.iastore, 1) := by decide +kernel
theorem dX5_sortIn_42 : decode cX5_sortIn 42 = .ok (.iinc 2 (-1), 3) := by decide +kernel
theorem dX5_sortIn_45 : decode cX5_sortIn 45 = .ok (.goto (-43), 3) := by decide +kernel
theorem dX5_sortIn_48 : decode cX5_sortIn 48 = .ok (.aload_n 0, 1) := by decide +kernel
theorem dX5_sortIn_49 : decode cX5_sortIn 49 = .ok (.getfield 21, 3) := by decide +kernel
theorem dX5_sortIn_52 : decode cX5_sortIn 52 = .ok (.iload_n 2, 1) := by decide +kernel
theorem dX5_sortIn_53 : decode cX5_sortIn 53 = .ok (.iload_n 1, 1) := by decide +kernel
theorem dX5_sortIn_54 : decode cX5_sortIn 54 = .ok (.iastore, 1) := by decide +kernel
theorem dX5_sortIn_55 : decode cX5_sortIn 55 = .ok (.return_, 1) := by decide +kernel
theorem dX5_sortIn_6 : decode cX5_sortIn 6 = .ok (.aload_n 0, 1) := by decide +kernel
theorem dX5_sortIn_7 : decode cX5_sortIn 7 = .ok (.getfield 15, 3) := by decide +kernel
set_option maxHeartbeats 4000000 in
set_option maxRecDepth 100000 in
theorem c_LI_sortIn (l : Launch) (D : va_G) (κ : ClassId × ClassId × ClassId) (a : Nat → Nat) (sz : Nat) (u : TS) (x : Nat) (q1 : x < 40) (q2 : ∀ i, i < x → LI_byDay u i < 40) (q3 : ∀ i, LI_day u i < 600) : TM l yX5_sortIn cX5_sortIn 3 none 0 0 D κ a u sz [.ref (a 7), .int (nI x)] (QV D κ a sz (fun u' => u' = fSort x x u)) := by
  refine TM.of (by decide +kernel) (Nat.le_of_ble_eq_true rfl) ?_
  intro p e s m below meth c ls hC hr hk hsz H locs hG hl
  have hx := hC.1
  have hb := hC.2.1
  have hl : lv_has ls 3 [(0, .ref (a 7)), (1, .int (nI x))] := hl
  refine lv_iload_n hx hb dX5_sortIn_0 rfl (lv_at hl 1 rfl) ?_
  refine lv_istore_n (lv' := [(2, .int (nI x)), (0, .ref (a 7)), (1, .int (nI x))]) hx hb dX5_sortIn_1 rfl hl (by decide) rfl (fun ls hl => ?_)
  have lp2 : ∀ (n : Nat) (pl : Nat) (v : TS), pl < n → (pl ≤ x) → (fSort x pl v = fSort x x u) → (∀ i, i < x → LI_byDay v i < 40) → (∀ i, LI_day v i < 600) → ∀ (H : Heap) (locs : List Loc), GW D κ a v (AA a sz) s H locs → ∀ ls : Array Slot, lv_has ls 3 [(2, .int (nI pl)), (0, .ref (a 7)), (1, .int (nI x))] → W p l e { frames := 0, cells := 0, slots := 0, locals := 0 } s m [.ref (a 7), .int (nI x)].toArray below meth c H locs 0 0 (MQ below (QV D κ a sz (fun u' => u' = fSort x x u)) [.ref (a 7), .int (nI x)].toArray s 0 0 (AA a sz)) (F0 m 2 ls []) := by
    intro n
    induction n with
    | zero =>
      intro pl v hm
      exact absurd hm (Nat.not_lt_zero _)
    | succ n ih2 =>
      intro pl v hm2 c2_1 c2_2 c2_3 c2_4 H locs hG ls hl
      refine lv_iload_n hx hb dX5_sortIn_2 rfl (lv_at hl 0 rfl) ?_
      refine bz_le (tgt := 48) hx hb (by omega) dX5_sortIn_3 (by decide) (fun h3 => ?_) (fun h3 => ?_)
      · refine lv_aload_n hx hb dX5_sortIn_48 rfl (lv_at hl 1 rfl) ?_
        refine gf_LI_byDay hC hG (hC.2.2.2.2 _ w100) dX5_sortIn_49 ?_
        refine lv_iload_n hx hb dX5_sortIn_52 rfl (lv_at hl 0 rfl) ?_
        refine lv_iload_n hx hb dX5_sortIn_53 rfl (lv_at hl 2 rfl) ?_
        refine as_LI_byDay hC hG (by omega) dX5_sortIn_54 (fun H locs hG => ?_)
        exact te_v hC hG hr hk (by rw [← c2_2]; subst h3; rfl) dX5_sortIn_55
      · refine lv_aload_n hx hb dX5_sortIn_6 rfl (lv_at hl 1 rfl) ?_
        have k1 := c2_3 (pl - 1) (by omega)
        refine gf_LI_day hC hG (hC.2.2.2.2 _ w98) dX5_sortIn_7 ?_
        refine lv_aload_n hx hb dX5_sortIn_10 rfl (lv_at hl 1 rfl) ?_
        refine gf_LI_byDay hC hG (hC.2.2.2.2 _ w100) dX5_sortIn_11 ?_
        refine lv_iload_n hx hb dX5_sortIn_14 rfl (lv_at hl 0 rfl) ?_
        refine lv_iconst (v := nI 1) hx hb dX5_sortIn_15 (by decide) ?_
        refine ar_isub hx hb (by omega) dX5_sortIn_16 ?_
        refine al_LI_byDay hC hG (by omega) dX5_sortIn_17 ?_
        refine al_LI_day hC hG (by omega) dX5_sortIn_18 ?_
        refine lv_aload_n hx hb dX5_sortIn_19 rfl (lv_at hl 1 rfl) ?_
        refine gf_LI_day hC hG (hC.2.2.2.2 _ w98) dX5_sortIn_20 ?_
        refine lv_iload_n hx hb dX5_sortIn_23 rfl (lv_at hl 2 rfl) ?_
        refine al_LI_day hC hG (by omega) dX5_sortIn_24 ?_
        have k2 := c2_4 x
        have k3 := c2_4 (LI_byDay v (pl - 1))
        refine bn_le (tgt := 48) hx hb (by omega) (by omega) dX5_sortIn_25 (by decide) (fun h25 => ?_) (fun h25 => ?_)
        · refine lv_aload_n hx hb dX5_sortIn_48 rfl (lv_at hl 1 rfl) ?_
          refine gf_LI_byDay hC hG (hC.2.2.2.2 _ w100) dX5_sortIn_49 ?_
          refine lv_iload_n hx hb dX5_sortIn_52 rfl (lv_at hl 0 rfl) ?_
          refine lv_iload_n hx hb dX5_sortIn_53 rfl (lv_at hl 2 rfl) ?_
          refine as_LI_byDay hC hG (by omega) dX5_sortIn_54 (fun H locs hG => ?_)
          exact te_v hC hG hr hk (by rw [← c2_2]; obtain ⟨p1, rfl⟩ : ∃ p1, pl = p1 + 1 := ⟨pl - 1, by omega⟩; rw [fSort, if_neg (by simpa using h25)]) dX5_sortIn_55
        · refine lv_aload_n hx hb dX5_sortIn_28 rfl (lv_at hl 1 rfl) ?_
          refine gf_LI_byDay hC hG (hC.2.2.2.2 _ w100) dX5_sortIn_29 ?_
          refine lv_iload_n hx hb dX5_sortIn_32 rfl (lv_at hl 0 rfl) ?_
          refine lv_aload_n hx hb dX5_sortIn_33 rfl (lv_at hl 1 rfl) ?_
          refine gf_LI_byDay hC hG (hC.2.2.2.2 _ w100) dX5_sortIn_34 ?_
          refine lv_iload_n hx hb dX5_sortIn_37 rfl (lv_at hl 0 rfl) ?_
          refine lv_iconst (v := nI 1) hx hb dX5_sortIn_38 (by decide) ?_
          refine ar_isub hx hb (by omega) dX5_sortIn_39 ?_
          refine al_LI_byDay hC hG (by omega) dX5_sortIn_40 ?_
          refine as_LI_byDay hC hG (by omega) dX5_sortIn_41 (fun H locs hG => ?_)
          refine lv_iinc (v := (nI (pl - 1))) (lv' := [(2, .int (nI (pl - 1))), (0, .ref (a 7)), (1, .int (nI x))]) hx hb dX5_sortIn_42 hl (k := 0) rfl (nI_m1 (by omega)) (by decide) rfl (fun ls hl => ?_)
          refine lv_goto (tgt := 2) hx hb dX5_sortIn_45 (by decide) ?_
          exact ih2  (pl - 1) (sAN v 14 pl (LI_byDay v (pl - 1))) (by omega) (by omega) (by rw [← c2_2]; obtain ⟨p1, rfl⟩ : ∃ p1, pl = p1 + 1 := ⟨pl - 1, by omega⟩; rw [fSort, if_pos (by simpa using h25)]; rfl) (by intro i hi; show va_up (LI_byDay v) pl (LI_byDay v (pl - 1)) i < 40; unfold va_up; split; exact c2_3 _ (by omega); exact c2_3 i hi) (c2_4) H locs hG ls (lv_sub hl [0, 1, 2] rfl)
  exact lp2 _ x u (Nat.lt_succ_self _) (Nat.le_refl _) (rfl) (q2) (q3) H locs hG ls (lv_sub hl [0, 1, 2] rfl)
theorem k_LI_sortIn {p : Program} {l : Launch} {e : Env} {R : Room} {s : State} {m : MethodId} {args : Array Value} {below : List Frame} {meth : Method} {c : Code} {H : Heap} {locs : List Loc} {cs ss : Nat} {Q : State → Prop} {cc : ByteArray} {nL pc : Nat} {ls : Array Slot} {rest : List Value} {own : String} {idx : Nat} {D : va_G} {κ : ClassId × ClassId × ClassId} {a : Nat → Nat} {u : TS} {A : Nat → Prop} (hC : CallFix p m c cc nL s args WALL own) (hG : GW D κ a u A s H locs) (x : Nat) (q1 : x < 40) (q2 : ∀ i, i < x → LI_byDay u i < 40) (q3 : ∀ i, LI_day u i < 600) (wl : Cond.methodLink own idx yX5_sortIn ∈ WALL) (hR : 0 + 1 ≤ R.frames ∧ 8 + (3 + 11) + 0 ≤ R.locals) (hls : ls.size = nL) (h8 : (rest.map fun v => v.category).sum ≤ 8) (hd : decode cc pc = .ok (.invokevirtual idx, 3)) (hcs : cs ≤ R.cells ∧ ss ≤ R.slots) (kk : ∀ (H1 : Heap) (locs1 : List Loc), GW D κ a (fSort x x u) A s H1 locs1 → W p l e R s m args below meth c H1 locs1 cs ss Q (F0 m (pc + 3) ls (rest))) : W p l e R s m args below meth c H locs cs ss Q (F0 m pc ls (.int (nI x) :: .ref (a 7) :: rest)) :=
  tc_v hG (tr_V (n := 1) (k := 7) (ci := 5) (As := [.int (nI x)]) hC hG (c_LI_sortIn l D κ a H.size u x q1 q2 q3) rfl rfl wl w31 w308 w306 w307 (by decide +kernel) hR rfl hls rfl h8 hd hcs) (fun u' H1 locs1 hq hG1 => by subst hq; exact kk H1 locs1 hG1)

theorem dX5_add_0 : decode cX5_add 0 = .ok (.aload_n 0, 1) := by decide +kernel
theorem dX5_add_1 : decode cX5_add 1 = .ok (.getfield 24, 3) := by decide +kernel
theorem dX5_add_11 : decode cX5_add 11 = .ok (.aload_n 0, 1) := by decide +kernel
theorem dX5_add_12 : decode cX5_add 12 = .ok (.getfield 9, 3) := by decide +kernel
theorem dX5_add_15 : decode cX5_add 15 = .ok (.aload_n 0, 1) := by decide +kernel
theorem dX5_add_16 : decode cX5_add 16 = .ok (.getfield 24, 3) := by decide +kernel
theorem dX5_add_19 : decode cX5_add 19 = .ok (.iload_n 1, 1) := by decide +kernel
theorem dX5_add_20 : decode cX5_add 20 = .ok (.iastore, 1) := by decide +kernel
theorem dX5_add_21 : decode cX5_add 21 = .ok (.aload_n 0, 1) := by decide +kernel
theorem dX5_add_22 : decode cX5_add 22 = .ok (.getfield 15, 3) := by decide +kernel
theorem dX5_add_25 : decode cX5_add 25 = .ok (.aload_n 0, 1) := by decide +kernel
theorem dX5_add_26 : decode cX5_add 26 = .ok (.getfield 24, 3) := by decide +kernel
theorem dX5_add_29 : decode cX5_add 29 = .ok (.iload_n 2, 1) := by decide +kernel
theorem dX5_add_30 : decode cX5_add 30 = .ok (.iastore, 1) := by decide +kernel
theorem dX5_add_31 : decode cX5_add 31 = .ok (.aload_n 0, 1) := by decide +kernel
theorem dX5_add_32 : decode cX5_add 32 = .ok (.getfield 18, 3) := by decide +kernel
theorem dX5_add_35 : decode cX5_add 35 = .ok (.aload_n 0, 1) := by decide +kernel
theorem dX5_add_36 : decode cX5_add 36 = .ok (.getfield 24, 3) := by decide +kernel
theorem dX5_add_39 : decode cX5_add 39 = .ok (.iload_n 3, 1) := by decide +kernel
theorem dX5_add_4 : decode cX5_add 4 = .ok (.bipush 40, 2) := by decide +kernel
theorem dX5_add_40 : decode cX5_add 40 = .ok (.iastore, 1) := by decide +kernel
theorem dX5_add_41 : decode cX5_add 41 = .ok (.aload_n 0, 1) := by decide +kernel
theorem dX5_add_42 : decode cX5_add 42 = .ok (.aload_n 0, 1) := by decide +kernel
theorem dX5_add_43 : decode cX5_add 43 = .ok (.getfield 24, 3) := by decide +kernel
theorem dX5_add_46 : decode cX5_add 46 = .ok (.invokevirtual 28, 3) := by decide +kernel
theorem dX5_add_49 : decode cX5_add 49 = .ok (.aload_n 0, 1) := by decide +kernel
theorem dX5_add_50 : decode cX5_add 50 = .ok (.dup, 1) := by decide +kernel
theorem dX5_add_51 : decode cX5_add 51 = .ok (.getfield 24, 3) := by decide +kernel
theorem dX5_add_54 : decode cX5_add 54 = .ok (.dup_x1, 1) := by decide +kernel
theorem dX5_add_55 : decode cX5_add 55 = .ok (.iconst 1, 1) := by decide +kernel
theorem dX5_add_56 : decode cX5_add 56 = .ok (.iadd, 1) := by decide +kernel
theorem dX5_add_57 : decode cX5_add 57 = .ok (.putfield 24, 3) := by decide +kernel
theorem dX5_add_6 : decode cX5_add 6 = .ok (.if_icmp .lt 5, 3) := by decide +kernel
theorem dX5_add_60 : decode cX5_add 60 = .ok (.ireturn, 1) := by decide +kernel
set_option maxHeartbeats 4000000 in
set_option maxRecDepth 100000 in
theorem c_LI_add (l : Launch) (D : va_G) (κ : ClassId × ClassId × ClassId) (a : Nat → Nat) (sz : Nat) (u : TS) (ac : Nat) (d : Nat) (am : Int32) (q1 : LI_count u < 40) (q2 : ∀ i, i < LI_count u → LI_byDay u i < 40) (q3 : ∀ i, LI_day u i < 600) (q4 : d < 600) : TM l yX5_add cX5_add 4 (some .int) 1 22 D κ a u sz [.ref (a 7), .int (nI ac), .int (nI d), .int am] (QI D κ a sz (fun r u' => r = (nI (LI_count u)) ∧ u' = fLine u ac d am)) := by
  refine TM.of (by decide +kernel) (Nat.le_of_ble_eq_true rfl) ?_
  intro p e s m below meth c ls hC hr hk hsz H locs hG hl
  have hx := hC.1
  have hb := hC.2.1
  have hl : lv_has ls 4 [(0, .ref (a 7)), (1, .int (nI ac)), (2, .int (nI d)), (3, .int am)] := hl
  refine lv_aload_n hx hb dX5_add_0 rfl (lv_at hl 0 rfl) ?_
  refine gf_LI_count hC hG (hC.2.2.2.2 _ w101) dX5_add_1 ?_
  refine lv_bipush (v := nI 40) hx hb dX5_add_4 (by decide) ?_
  refine bn_lt_t (tgt := 11) hx hb (by omega) (by omega) dX5_add_6 (by decide) (by omega) ?_
  refine lv_aload_n hx hb dX5_add_11 rfl (lv_at hl 0 rfl) ?_
  refine gf_LI_account hC hG (hC.2.2.2.2 _ w97) dX5_add_12 ?_
  refine lv_aload_n hx hb dX5_add_15 rfl (lv_at hl 0 rfl) ?_
  refine gf_LI_count hC hG (hC.2.2.2.2 _ w101) dX5_add_16 ?_
  refine lv_iload_n hx hb dX5_add_19 rfl (lv_at hl 1 rfl) ?_
  refine as_LI_account hC hG (by omega) dX5_add_20 (fun H locs hG => ?_)
  refine lv_aload_n hx hb dX5_add_21 rfl (lv_at hl 0 rfl) ?_
  refine gf_LI_day hC hG (hC.2.2.2.2 _ w98) dX5_add_22 ?_
  refine lv_aload_n hx hb dX5_add_25 rfl (lv_at hl 0 rfl) ?_
  refine gf_LI_count hC hG (hC.2.2.2.2 _ w101) dX5_add_26 ?_
  refine W.eq (g2 := F0 m 29 ls [.int (nI (LI_count u)), .ref (a 36)]) rfl ?_
  refine lv_iload_n hx hb dX5_add_29 rfl (lv_at hl 2 rfl) ?_
  refine as_LI_day hC hG (by omega) dX5_add_30 (fun H locs hG => ?_)
  refine lv_aload_n hx hb dX5_add_31 rfl (lv_at hl 0 rfl) ?_
  refine gf_LI_amount hC hG (hC.2.2.2.2 _ w99) dX5_add_32 ?_
  refine lv_aload_n hx hb dX5_add_35 rfl (lv_at hl 0 rfl) ?_
  refine gf_LI_count hC hG (hC.2.2.2.2 _ w101) dX5_add_36 ?_
  refine W.eq (g2 := F0 m 39 ls [.int (nI (LI_count u)), .ref (a 37)]) rfl ?_
  refine lv_iload_n hx hb dX5_add_39 rfl (lv_at hl 3 rfl) ?_
  refine as_LI_amount hC hG (by omega) dX5_add_40 (fun H locs hG => ?_)
  refine lv_aload_n hx hb dX5_add_41 rfl (lv_at hl 0 rfl) ?_
  refine lv_aload_n hx hb dX5_add_42 rfl (lv_at hl 0 rfl) ?_
  refine gf_LI_count hC hG (hC.2.2.2.2 _ w101) dX5_add_43 ?_
  refine W.eq (g2 := F0 m 46 ls [.int (nI (LI_count u)), .ref (a 7)]) rfl ?_
  refine k_LI_sortIn hC hG (LI_count u) (q1) (q2) (by intro i; show va_up (LI_day u) (LI_count u) d i < 600; unfold va_up; split; exact q4; exact q3 i) w305 ⟨by decide, by decide⟩ hl.1 (by decide) dX5_add_46 ⟨Nat.zero_le _, Nat.zero_le _⟩ (fun H locs hG => ?_)
  have f1 : LI_count (fSort (LI_count u) (LI_count u) (sAI (sAN (sAN u 12 (LI_count u) ac) 13 (LI_count u) d) 3 (LI_count u) am)) = LI_count u := fSort_cnt _ _ _
  refine lv_aload_n hx hb dX5_add_49 rfl (lv_at hl 0 rfl) ?_
  refine lv_dup hx hb dX5_add_50 rfl ?_
  refine gf_LI_count hC hG (hC.2.2.2.2 _ w101) dX5_add_51 ?_
  refine lv_dup_x1 hx hb dX5_add_54 rfl rfl ?_
  refine lv_iconst (v := nI 1) hx hb dX5_add_55 (by decide) ?_
  refine ar_iadd hx hb dX5_add_56 ?_
  refine pf_LI_count hC hG (hC.2.2.2.2 _ w101) dX5_add_57 (fun H locs hG => ?_)
  exact te_i (v := (nI (LI_count (fSort (LI_count u) (LI_count u) (sAI (sAN (sAN u 12 (LI_count u) ac) 13 (LI_count u) d) 3 (LI_count u) am))))) hC hG hr hk ⟨(congrArg nI (show (LI_count (fSort (LI_count u) (LI_count u) (sAI (sAN (sAN u 12 (LI_count u) ac) 13 (LI_count u) d) 3 (LI_count u) am))) = LI_count u from by exact f1)), (by rw [f1]; rfl)⟩ dX5_add_60
theorem k_LI_add {p : Program} {l : Launch} {e : Env} {R : Room} {s : State} {m : MethodId} {args : Array Value} {below : List Frame} {meth : Method} {c : Code} {H : Heap} {locs : List Loc} {cs ss : Nat} {Q : State → Prop} {cc : ByteArray} {nL pc : Nat} {ls : Array Slot} {rest : List Value} {own : String} {idx : Nat} {D : va_G} {κ : ClassId × ClassId × ClassId} {a : Nat → Nat} {u : TS} {A : Nat → Prop} (hC : CallFix p m c cc nL s args WALL own) (hG : GW D κ a u A s H locs) (ac : Nat) (d : Nat) (am : Int32) (q1 : LI_count u < 40) (q2 : ∀ i, i < LI_count u → LI_byDay u i < 40) (q3 : ∀ i, LI_day u i < 600) (q4 : d < 600) (wl : Cond.methodLink own idx yX5_add ∈ WALL) (hR : 1 + 1 ≤ R.frames ∧ 8 + (4 + 11) + 22 ≤ R.locals) (hls : ls.size = nL) (h8 : (rest.map fun v => v.category).sum ≤ 8) (hd : decode cc pc = .ok (.invokevirtual idx, 3)) (hcs : cs ≤ R.cells ∧ ss ≤ R.slots) (kk : ∀ (H1 : Heap) (locs1 : List Loc), GW D κ a (fLine u ac d am) A s H1 locs1 → W p l e R s m args below meth c H1 locs1 cs ss Q (F0 m (pc + 3) ls (.int (nI (LI_count u)) :: rest))) : W p l e R s m args below meth c H locs cs ss Q (F0 m pc ls (.int am :: .int (nI d) :: .int (nI ac) :: .ref (a 7) :: rest)) :=
  tc_i hG (tr_V (n := 3) (k := 7) (ci := 5) (As := [.int (nI ac), .int (nI d), .int am]) hC hG (c_LI_add l D κ a H.size u ac d am q1 q2 q3 q4) rfl rfl wl w31 w304 w302 w303 (by decide +kernel) hR rfl hls rfl h8 hd hcs) (fun r u' H1 locs1 hq hG1 => by obtain ⟨rfl, rfl⟩ := hq; exact kk H1 locs1 hG1)

theorem dX5_countOf_0 : decode cX5_countOf 0 = .ok (.iconst 0, 1) := by decide +kernel
theorem dX5_countOf_1 : decode cX5_countOf 1 = .ok (.istore_n 2, 1) := by decide +kernel
theorem dX5_countOf_12 : decode cX5_countOf 12 = .ok (.aload_n 0, 1) := by decide +kernel
theorem dX5_countOf_13 : decode cX5_countOf 13 = .ok (.getfield 9, 3) := by decide +kernel
theorem dX5_countOf_16 : decode cX5_countOf 16 = .ok (.iload_n 3, 1) := by decide +kernel
theorem dX5_countOf_17 : decode cX5_countOf 17 = .ok (.iaload, 1) := by decide +kernel
theorem dX5_countOf_18 : decode cX5_countOf 18 = .ok (.iload_n 1, 1) := by decide +kernel
theorem dX5_countOf_19 : decode cX5_countOf 19 = .ok (.if_icmp .ne 6, 3) := by decide +kernel
theorem dX5_countOf_2 : decode cX5_countOf 2 = .ok (.iconst 0, 1) := by decide +kernel
theorem dX5_countOf_22 : decode cX5_countOf 22 = .ok (.iinc 2 1, 3) := by decide +kernel
theorem dX5_countOf_25 : decode cX5_countOf 25 = .ok (.iinc 3 1, 3) := by decide +kernel
theorem dX5_countOf_28 : decode cX5_countOf 28 = .ok (.goto (-24), 3) := by decide +kernel
theorem dX5_countOf_3 : decode cX5_countOf 3 = .ok (.istore_n 3, 1) := by decide +kernel
theorem dX5_countOf_31 : decode cX5_countOf 31 = .ok (.iload_n 2, 1) := by decide +kernel
theorem dX5_countOf_32 : decode cX5_countOf 32 = .ok (.ireturn, 1) := by decide +kernel
theorem dX5_countOf_4 : decode cX5_countOf 4 = .ok (.iload_n 3, 1) := by decide +kernel
theorem dX5_countOf_5 : decode cX5_countOf 5 = .ok (.aload_n 0, 1) := by decide +kernel
theorem dX5_countOf_6 : decode cX5_countOf 6 = .ok (.getfield 24, 3) := by decide +kernel
theorem dX5_countOf_9 : decode cX5_countOf 9 = .ok (.if_icmp .ge 22, 3) := by decide +kernel
set_option maxHeartbeats 4000000 in
set_option maxRecDepth 100000 in
theorem c_LI_countOf (l : Launch) (D : va_G) (κ : ClassId × ClassId × ClassId) (a : Nat → Nat) (sz : Nat) (u : TS) (w : Nat) (q1 : OK u) (q2 : w < 600) : TM l yX5_countOf cX5_countOf 4 (some .int) 0 0 D κ a u sz [.ref (a 7), .int (nI w)] (QI D κ a sz (fun r u' => r = (nI (fLCnt u w (LI_count u))) ∧ u' = u)) := by
  refine TM.of (by decide +kernel) (Nat.le_of_ble_eq_true rfl) ?_
  intro p e s m below meth c ls hC hr hk hsz H locs hG hl
  have hx := hC.1
  have hb := hC.2.1
  have hl : lv_has ls 4 [(0, .ref (a 7)), (1, .int (nI w))] := hl
  have qok := q1
  have ⟨n1, n2, n3, n4, n5, n6, n7, n8, n9, n10⟩ := qok.n
  refine lv_iconst (v := nI 0) hx hb dX5_countOf_0 (by decide) ?_
  refine lv_istore_n (lv' := [(2, .int (nI 0)), (0, .ref (a 7)), (1, .int (nI w))]) hx hb dX5_countOf_1 rfl hl (by decide) rfl (fun ls hl => ?_)
  refine lv_iconst (v := nI 0) hx hb dX5_countOf_2 (by decide) ?_
  refine lv_istore_n (lv' := [(3, .int (nI 0)), (2, .int (nI 0)), (0, .ref (a 7)), (1, .int (nI w))]) hx hb dX5_countOf_3 rfl hl (by decide) rfl (fun ls hl => ?_)
  have lp4 : ∀ (n : Nat) (i : Nat), LI_count u - i < n → (i ≤ LI_count u) → ∀ (H : Heap) (locs : List Loc), GW D κ a u (AA a sz) s H locs → ∀ ls : Array Slot, lv_has ls 4 [(3, .int (nI i)), (2, .int (nI (fLCnt u w i))), (0, .ref (a 7)), (1, .int (nI w))] → W p l e { frames := 0, cells := 0, slots := 0, locals := 0 } s m [.ref (a 7), .int (nI w)].toArray below meth c H locs 0 0 (MQ below (QI D κ a sz (fun r u' => r = (nI (fLCnt u w (LI_count u))) ∧ u' = u)) [.ref (a 7), .int (nI w)].toArray s 0 0 (AA a sz)) (F0 m 4 ls []) := by
    intro n
    induction n with
    | zero =>
      intro i hm
      exact absurd hm (Nat.not_lt_zero _)
    | succ n ih4 =>
      intro i hm4 c4_1 H locs hG ls hl
      have f1 := fLCnt_le u w i
      refine lv_iload_n hx hb dX5_countOf_4 rfl (lv_at hl 0 rfl) ?_
      refine lv_aload_n hx hb dX5_countOf_5 rfl (lv_at hl 2 rfl) ?_
      refine gf_LI_count hC hG (hC.2.2.2.2 _ w101) dX5_countOf_6 ?_
      refine bn_ge (tgt := 31) hx hb (by omega) (by omega) dX5_countOf_9 (by decide) (fun h9 => ?_) (fun h9 => ?_)
      · refine lv_iload_n hx hb dX5_countOf_31 rfl (lv_at hl 1 rfl) ?_
        have hi : i = LI_count u := by omega
        exact te_i (v := (nI (fLCnt u w i))) hC hG hr hk ⟨(congrArg nI (show fLCnt u w i = fLCnt u w (LI_count u) from by rw [hi])), rfl⟩ dX5_countOf_32
      · have k1 := qok.line (x := i) (by omega)
        refine lv_aload_n hx hb dX5_countOf_12 rfl (lv_at hl 2 rfl) ?_
        refine gf_LI_account hC hG (hC.2.2.2.2 _ w97) dX5_countOf_13 ?_
        refine lv_iload_n hx hb dX5_countOf_16 rfl (lv_at hl 0 rfl) ?_
        refine al_LI_account hC hG (by omega) dX5_countOf_17 ?_
        refine lv_iload_n hx hb dX5_countOf_18 rfl (lv_at hl 3 rfl) ?_
        refine bn_ne (tgt := 25) hx hb (by omega) (by omega) dX5_countOf_19 (by decide) (fun h19 => ?_) (fun h19 => ?_)
        · refine lv_iinc (v := (nI (i + 1))) (lv' := [(3, .int (nI (i + 1))), (2, .int (nI (fLCnt u w i))), (0, .ref (a 7)), (1, .int (nI w))]) hx hb dX5_countOf_25 hl (k := 0) rfl (nI_1 _) (by decide) rfl (fun ls hl => ?_)
          refine lv_goto (tgt := 4) hx hb dX5_countOf_28 (by decide) ?_
          have e4_1 : fLCnt u w (i + 1) = fLCnt u w i := by simp [fLCnt, h9, h19]
          have hl : lv_has ls 4 [(3, .int (nI (i + 1))), (2, .int (nI (fLCnt u w (i + 1)))), (0, .ref (a 7)), (1, .int (nI w))] := by rw [e4_1]; exact hl
          exact ih4  (i + 1) (by omega) (by omega) H locs hG ls (lv_sub hl [0, 1, 2, 3] rfl)
        · refine lv_iinc (v := (nI (fLCnt u w i + 1))) (lv' := [(2, .int (nI (fLCnt u w i + 1))), (3, .int (nI i)), (0, .ref (a 7)), (1, .int (nI w))]) hx hb dX5_countOf_22 hl (k := 1) rfl (nI_1 _) (by decide) rfl (fun ls hl => ?_)
          refine lv_iinc (v := (nI (i + 1))) (lv' := [(3, .int (nI (i + 1))), (2, .int (nI (fLCnt u w i + 1))), (0, .ref (a 7)), (1, .int (nI w))]) hx hb dX5_countOf_25 hl (k := 1) rfl (nI_1 _) (by decide) rfl (fun ls hl => ?_)
          refine lv_goto (tgt := 4) hx hb dX5_countOf_28 (by decide) ?_
          have e4_2 : fLCnt u w (i + 1) = (fLCnt u w i + 1) := by simp [fLCnt, h9, h19]
          have hl : lv_has ls 4 [(3, .int (nI (i + 1))), (2, .int (nI (fLCnt u w (i + 1)))), (0, .ref (a 7)), (1, .int (nI w))] := by rw [e4_2]; exact hl
          exact ih4  (i + 1) (by omega) (by omega) H locs hG ls (lv_sub hl [0, 1, 2, 3] rfl)
  have e4_3 : fLCnt u w 0 = 0 := by rfl
  have hl : lv_has ls 4 [(3, .int (nI 0)), (2, .int (nI (fLCnt u w 0))), (0, .ref (a 7)), (1, .int (nI w))] := by rw [e4_3]; exact hl
  exact lp4 _ 0 (Nat.lt_succ_self _) (by omega) H locs hG ls (lv_sub hl [0, 1, 2, 3] rfl)
theorem k_LI_countOf {p : Program} {l : Launch} {e : Env} {R : Room} {s : State} {m : MethodId} {args : Array Value} {below : List Frame} {meth : Method} {c : Code} {H : Heap} {locs : List Loc} {cs ss : Nat} {Q : State → Prop} {cc : ByteArray} {nL pc : Nat} {ls : Array Slot} {rest : List Value} {own : String} {idx : Nat} {D : va_G} {κ : ClassId × ClassId × ClassId} {a : Nat → Nat} {u : TS} {A : Nat → Prop} (hC : CallFix p m c cc nL s args WALL own) (hG : GW D κ a u A s H locs) (w : Nat) (q1 : OK u) (q2 : w < 600) (wl : Cond.methodLink own idx yX5_countOf ∈ WALL) (hR : 0 + 1 ≤ R.frames ∧ 8 + (4 + 11) + 0 ≤ R.locals) (hls : ls.size = nL) (h8 : (rest.map fun v => v.category).sum ≤ 8) (hd : decode cc pc = .ok (.invokevirtual idx, 3)) (hcs : cs ≤ R.cells ∧ ss ≤ R.slots) (kk : ∀ (H1 : Heap) (locs1 : List Loc), GW D κ a u A s H1 locs1 → W p l e R s m args below meth c H1 locs1 cs ss Q (F0 m (pc + 3) ls (.int (nI (fLCnt u w (LI_count u))) :: rest))) : W p l e R s m args below meth c H locs cs ss Q (F0 m pc ls (.int (nI w) :: .ref (a 7) :: rest)) :=
  tc_i hG (tr_V (n := 1) (k := 7) (ci := 5) (As := [.int (nI w)]) hC hG (c_LI_countOf l D κ a H.size u w q1 q2) rfl rfl wl w31 w368 w366 w367 (by decide +kernel) hR rfl hls rfl h8 hd hcs) (fun r u' H1 locs1 hq hG1 => by obtain ⟨rfl, rfl⟩ := hq; exact kk H1 locs1 hG1)

theorem dX1_begin_0 : decode cX1_begin 0 = .ok (.aload_n 0, 1) := by decide +kernel
theorem dX1_begin_1 : decode cX1_begin 1 = .ok (.getfield 10, 3) := by decide +kernel
theorem dX1_begin_10 : decode cX1_begin 10 = .ok (.putfield 16, 3) := by decide +kernel
theorem dX1_begin_13 : decode cX1_begin 13 = .ok (.aload_n 0, 1) := by decide +kernel
theorem dX1_begin_14 : decode cX1_begin 14 = .ok (.iload_n 1, 1) := by decide +kernel
theorem dX1_begin_15 : decode cX1_begin 15 = .ok (.putfield 20, 3) := by decide +kernel
theorem dX1_begin_18 : decode cX1_begin 18 = .ok (.aload_n 0, 1) := by decide +kernel
theorem dX1_begin_19 : decode cX1_begin 19 = .ok (.iload_n 2, 1) := by decide +kernel
theorem dX1_begin_20 : decode cX1_begin 20 = .ok (.putfield 24, 3) := by decide +kernel
theorem dX1_begin_23 : decode cX1_begin 23 = .ok (.return_, 1) := by decide +kernel
theorem dX1_begin_4 : decode cX1_begin 4 = .ok (.iconst 0, 1) := by decide +kernel
theorem dX1_begin_5 : decode cX1_begin 5 = .ok (.putfield 27, 3) := by decide +kernel
theorem dX1_begin_8 : decode cX1_begin 8 = .ok (.aload_n 0, 1) := by decide +kernel
theorem dX1_begin_9 : decode cX1_begin 9 = .ok (.iconst 1, 1) := by decide +kernel
set_option maxHeartbeats 4000000 in
set_option maxRecDepth 100000 in
theorem c_DR_begin (l : Launch) (D : va_G) (κ : ClassId × ClassId × ClassId) (a : Nat → Nat) (sz : Nat) (u : TS) (d : Nat) (nt : Nat)  : TM l yX1_begin cX1_begin 3 none 0 0 D κ a u sz [.ref (a 2), .int (nI d), .int (nI nt)] (QV D κ a sz (fun u' => u' = fBegin u d nt)) := by
  refine TM.of (by decide +kernel) (Nat.le_of_ble_eq_true rfl) ?_
  intro p e s m below meth c ls hC hr hk hsz H locs hG hl
  have hx := hC.1
  have hb := hC.2.1
  have hl : lv_has ls 3 [(0, .ref (a 2)), (1, .int (nI d)), (2, .int (nI nt))] := hl
  refine lv_aload_n hx hb dX1_begin_0 rfl (lv_at hl 0 rfl) ?_
  refine gf_DR_legs hC hG (hC.2.2.2.2 _ w59) dX1_begin_1 ?_
  refine lv_iconst (v := nI 0) hx hb dX1_begin_4 (by decide) ?_
  refine pf_L0_count hC hG (hC.2.2.2.2 _ w404) dX1_begin_5 (fun H locs hG => ?_)
  refine lv_aload_n hx hb dX1_begin_8 rfl (lv_at hl 0 rfl) ?_
  refine lv_iconst (v := nI 1) hx hb dX1_begin_9 (by decide) ?_
  refine W.eq (g2 := F0 m 10 ls [.int (bI true), .ref (a 2)]) rfl ?_
  refine pf_DR_isThere hC hG (hC.2.2.2.2 _ w60) dX1_begin_10 (fun H locs hG => ?_)
  refine lv_aload_n hx hb dX1_begin_13 rfl (lv_at hl 0 rfl) ?_
  refine lv_iload_n hx hb dX1_begin_14 rfl (lv_at hl 1 rfl) ?_
  refine pf_DR_day hC hG (hC.2.2.2.2 _ w61) dX1_begin_15 (fun H locs hG => ?_)
  refine lv_aload_n hx hb dX1_begin_18 rfl (lv_at hl 0 rfl) ?_
  refine lv_iload_n hx hb dX1_begin_19 rfl (lv_at hl 2 rfl) ?_
  refine pf_DR_note hC hG (hC.2.2.2.2 _ w62) dX1_begin_20 (fun H locs hG => ?_)
  exact te_v hC hG hr hk (by rfl) dX1_begin_23
theorem k_DR_begin {p : Program} {l : Launch} {e : Env} {R : Room} {s : State} {m : MethodId} {args : Array Value} {below : List Frame} {meth : Method} {c : Code} {H : Heap} {locs : List Loc} {cs ss : Nat} {Q : State → Prop} {cc : ByteArray} {nL pc : Nat} {ls : Array Slot} {rest : List Value} {own : String} {idx : Nat} {D : va_G} {κ : ClassId × ClassId × ClassId} {a : Nat → Nat} {u : TS} {A : Nat → Prop} (hC : CallFix p m c cc nL s args WALL own) (hG : GW D κ a u A s H locs) (d : Nat) (nt : Nat)  (wl : Cond.methodLink own idx yX1_begin ∈ WALL) (hR : 0 + 1 ≤ R.frames ∧ 8 + (3 + 11) + 0 ≤ R.locals) (hls : ls.size = nL) (h8 : (rest.map fun v => v.category).sum ≤ 8) (hd : decode cc pc = .ok (.invokevirtual idx, 3)) (hcs : cs ≤ R.cells ∧ ss ≤ R.slots) (kk : ∀ (H1 : Heap) (locs1 : List Loc), GW D κ a (fBegin u d nt) A s H1 locs1 → W p l e R s m args below meth c H1 locs1 cs ss Q (F0 m (pc + 3) ls (rest))) : W p l e R s m args below meth c H locs cs ss Q (F0 m pc ls (.int (nI nt) :: .int (nI d) :: .ref (a 2) :: rest)) :=
  tc_v hG (tr_V (n := 2) (k := 2) (ci := 1) (As := [.int (nI d), .int (nI nt)]) hC hG (c_DR_begin l D κ a H.size u d nt ) rfl rfl wl w19 w403 w401 w402 (by decide +kernel) hR rfl hls rfl h8 hd hcs) (fun u' H1 locs1 hq hG1 => by subst hq; exact kk H1 locs1 hG1)

theorem dX1_forget_0 : decode cX1_forget 0 = .ok (.aload_n 0, 1) := by decide +kernel
theorem dX1_forget_1 : decode cX1_forget 1 = .ok (.getfield 10, 3) := by decide +kernel
theorem dX1_forget_10 : decode cX1_forget 10 = .ok (.putfield 16, 3) := by decide +kernel
theorem dX1_forget_13 : decode cX1_forget 13 = .ok (.return_, 1) := by decide +kernel
theorem dX1_forget_4 : decode cX1_forget 4 = .ok (.iconst 0, 1) := by decide +kernel
theorem dX1_forget_5 : decode cX1_forget 5 = .ok (.putfield 27, 3) := by decide +kernel
theorem dX1_forget_8 : decode cX1_forget 8 = .ok (.aload_n 0, 1) := by decide +kernel
theorem dX1_forget_9 : decode cX1_forget 9 = .ok (.iconst 0, 1) := by decide +kernel
set_option maxHeartbeats 4000000 in
set_option maxRecDepth 100000 in
theorem c_DR_forget (l : Launch) (D : va_G) (κ : ClassId × ClassId × ClassId) (a : Nat → Nat) (sz : Nat) (u : TS)   : TM l yX1_forget cX1_forget 1 none 0 0 D κ a u sz [.ref (a 2)] (QV D κ a sz (fun u' => u' = fForget u)) := by
  refine TM.of (by decide +kernel) (Nat.le_of_ble_eq_true rfl) ?_
  intro p e s m below meth c ls hC hr hk hsz H locs hG hl
  have hx := hC.1
  have hb := hC.2.1
  have hl : lv_has ls 1 [(0, .ref (a 2))] := hl
  refine lv_aload_n hx hb dX1_forget_0 rfl (lv_at hl 0 rfl) ?_
  refine gf_DR_legs hC hG (hC.2.2.2.2 _ w59) dX1_forget_1 ?_
  refine lv_iconst (v := nI 0) hx hb dX1_forget_4 (by decide) ?_
  refine pf_L0_count hC hG (hC.2.2.2.2 _ w404) dX1_forget_5 (fun H locs hG => ?_)
  refine lv_aload_n hx hb dX1_forget_8 rfl (lv_at hl 0 rfl) ?_
  refine lv_iconst (v := nI 0) hx hb dX1_forget_9 (by decide) ?_
  refine W.eq (g2 := F0 m 10 ls [.int (bI false), .ref (a 2)]) rfl ?_
  refine pf_DR_isThere hC hG (hC.2.2.2.2 _ w60) dX1_forget_10 (fun H locs hG => ?_)
  exact te_v hC hG hr hk (by rfl) dX1_forget_13
theorem k_DR_forget {p : Program} {l : Launch} {e : Env} {R : Room} {s : State} {m : MethodId} {args : Array Value} {below : List Frame} {meth : Method} {c : Code} {H : Heap} {locs : List Loc} {cs ss : Nat} {Q : State → Prop} {cc : ByteArray} {nL pc : Nat} {ls : Array Slot} {rest : List Value} {own : String} {idx : Nat} {D : va_G} {κ : ClassId × ClassId × ClassId} {a : Nat → Nat} {u : TS} {A : Nat → Prop} (hC : CallFix p m c cc nL s args WALL own) (hG : GW D κ a u A s H locs)   (wl : Cond.methodLink own idx yX1_forget ∈ WALL) (hR : 0 + 1 ≤ R.frames ∧ 8 + (1 + 11) + 0 ≤ R.locals) (hls : ls.size = nL) (h8 : (rest.map fun v => v.category).sum ≤ 8) (hd : decode cc pc = .ok (.invokevirtual idx, 3)) (hcs : cs ≤ R.cells ∧ ss ≤ R.slots) (kk : ∀ (H1 : Heap) (locs1 : List Loc), GW D κ a (fForget u) A s H1 locs1 → W p l e R s m args below meth c H1 locs1 cs ss Q (F0 m (pc + 3) ls (rest))) : W p l e R s m args below meth c H locs cs ss Q (F0 m pc ls (.ref (a 2) :: rest)) :=
  tc_v hG (tr_V (n := 0) (k := 2) (ci := 1) (As := []) hC hG (c_DR_forget l D κ a H.size u  ) rfl rfl wl w19 w461 w459 w460 (by decide +kernel) hR rfl hls rfl h8 hd hcs) (fun u' H1 locs1 hq hG1 => by subst hq; exact kk H1 locs1 hG1)

theorem dX3_addLeg_0 : decode cX3_addLeg 0 = .ok (.aload_n 0, 1) := by decide +kernel
theorem dX3_addLeg_1 : decode cX3_addLeg 1 = .ok (.getfield 48, 3) := by decide +kernel
theorem dX3_addLeg_11 : decode cX3_addLeg 11 = .ok (.aload_n 0, 1) := by decide +kernel
theorem dX3_addLeg_12 : decode cX3_addLeg 12 = .ok (.getfield 35, 3) := by decide +kernel
theorem dX3_addLeg_15 : decode cX3_addLeg 15 = .ok (.aload_n 0, 1) := by decide +kernel
theorem dX3_addLeg_16 : decode cX3_addLeg 16 = .ok (.getfield 48, 3) := by decide +kernel
theorem dX3_addLeg_19 : decode cX3_addLeg 19 = .ok (.iload_n 1, 1) := by decide +kernel
theorem dX3_addLeg_20 : decode cX3_addLeg 20 = .ok (.iastore, 1) := by decide +kernel
theorem dX3_addLeg_21 : decode cX3_addLeg 21 = .ok (.aload_n 0, 1) := by decide +kernel
theorem dX3_addLeg_22 : decode cX3_addLeg 22 = .ok (.getfield 38, 3) := by decide +kernel
theorem dX3_addLeg_25 : decode cX3_addLeg 25 = .ok (.aload_n 0, 1) := by decide +kernel
theorem dX3_addLeg_26 : decode cX3_addLeg 26 = .ok (.getfield 48, 3) := by decide +kernel
theorem dX3_addLeg_29 : decode cX3_addLeg 29 = .ok (.iload_n 2, 1) := by decide +kernel
theorem dX3_addLeg_30 : decode cX3_addLeg 30 = .ok (.iastore, 1) := by decide +kernel
theorem dX3_addLeg_31 : decode cX3_addLeg 31 = .ok (.aload_n 0, 1) := by decide +kernel
theorem dX3_addLeg_32 : decode cX3_addLeg 32 = .ok (.getfield 41, 3) := by decide +kernel
theorem dX3_addLeg_35 : decode cX3_addLeg 35 = .ok (.aload_n 0, 1) := by decide +kernel
theorem dX3_addLeg_36 : decode cX3_addLeg 36 = .ok (.getfield 48, 3) := by decide +kernel
theorem dX3_addLeg_39 : decode cX3_addLeg 39 = .ok (.lload_n 3, 1) := by decide +kernel
theorem dX3_addLeg_4 : decode cX3_addLeg 4 = .ok (.sipush 600, 3) := by decide +kernel
theorem dX3_addLeg_40 : decode cX3_addLeg 40 = .ok (.lastore, 1) := by decide +kernel
theorem dX3_addLeg_41 : decode cX3_addLeg 41 = .ok (.aload_n 0, 1) := by decide +kernel
theorem dX3_addLeg_42 : decode cX3_addLeg 42 = .ok (.getfield 45, 3) := by decide +kernel
theorem dX3_addLeg_45 : decode cX3_addLeg 45 = .ok (.aload_n 0, 1) := by decide +kernel
theorem dX3_addLeg_46 : decode cX3_addLeg 46 = .ok (.getfield 48, 3) := by decide +kernel
theorem dX3_addLeg_49 : decode cX3_addLeg 49 = .ok (.lload 5, 2) := by decide +kernel
theorem dX3_addLeg_51 : decode cX3_addLeg 51 = .ok (.lastore, 1) := by decide +kernel
theorem dX3_addLeg_52 : decode cX3_addLeg 52 = .ok (.aload_n 0, 1) := by decide +kernel
theorem dX3_addLeg_53 : decode cX3_addLeg 53 = .ok (.dup, 1) := by decide +kernel
theorem dX3_addLeg_54 : decode cX3_addLeg 54 = .ok (.getfield 48, 3) := by decide +kernel
theorem dX3_addLeg_57 : decode cX3_addLeg 57 = .ok (.iconst 1, 1) := by decide +kernel
theorem dX3_addLeg_58 : decode cX3_addLeg 58 = .ok (.iadd, 1) := by decide +kernel
theorem dX3_addLeg_59 : decode cX3_addLeg 59 = .ok (.putfield 48, 3) := by decide +kernel
theorem dX3_addLeg_62 : decode cX3_addLeg 62 = .ok (.return_, 1) := by decide +kernel
theorem dX3_addLeg_7 : decode cX3_addLeg 7 = .ok (.if_icmp .lt 4, 3) := by decide +kernel
set_option maxHeartbeats 4000000 in
set_option maxRecDepth 100000 in
theorem c_J_addLeg (l : Launch) (D : va_G) (κ : ClassId × ClassId × ClassId) (a : Nat → Nat) (sz : Nat) (u : TS) (en : Nat) (ac : Nat) (am : Int64) (wo : Int64) (q1 : J_legCount u < 600) : TM l yX3_addLeg cX3_addLeg 7 none 0 0 D κ a u sz [.ref (a 5), .int (nI en), .int (nI ac), .long am, .long wo] (QV D κ a sz (fun u' => u' = fLeg u en ac am wo)) := by
  refine TM.of (by decide +kernel) (Nat.le_of_ble_eq_true rfl) ?_
  intro p e s m below meth c ls hC hr hk hsz H locs hG hl
  have hx := hC.1
  have hb := hC.2.1
  have hl : lv_has ls 7 [(0, .ref (a 5)), (1, .int (nI en)), (2, .int (nI ac)), (3, .long am), (5, .long wo)] := hl
  refine lv_aload_n hx hb dX3_addLeg_0 rfl (lv_at hl 0 rfl) ?_
  refine gf_J_legCount hC hG (hC.2.2.2.2 _ w85) dX3_addLeg_1 ?_
  refine lv_sipush (v := nI 600) hx hb dX3_addLeg_4 (by decide) ?_
  refine bn_lt_t (tgt := 11) hx hb (by omega) (by omega) dX3_addLeg_7 (by decide) (by omega) ?_
  refine lv_aload_n hx hb dX3_addLeg_11 rfl (lv_at hl 0 rfl) ?_
  refine gf_J_entryOf hC hG (hC.2.2.2.2 _ w81) dX3_addLeg_12 ?_
  refine lv_aload_n hx hb dX3_addLeg_15 rfl (lv_at hl 0 rfl) ?_
  refine gf_J_legCount hC hG (hC.2.2.2.2 _ w85) dX3_addLeg_16 ?_
  refine lv_iload_n hx hb dX3_addLeg_19 rfl (lv_at hl 1 rfl) ?_
  refine as_J_entryOf hC hG (by omega) dX3_addLeg_20 (fun H locs hG => ?_)
  refine lv_aload_n hx hb dX3_addLeg_21 rfl (lv_at hl 0 rfl) ?_
  refine gf_J_account hC hG (hC.2.2.2.2 _ w82) dX3_addLeg_22 ?_
  refine lv_aload_n hx hb dX3_addLeg_25 rfl (lv_at hl 0 rfl) ?_
  refine gf_J_legCount hC hG (hC.2.2.2.2 _ w85) dX3_addLeg_26 ?_
  refine W.eq (g2 := F0 m 29 ls [.int (nI (J_legCount u)), .ref (a 28)]) rfl ?_
  refine lv_iload_n hx hb dX3_addLeg_29 rfl (lv_at hl 2 rfl) ?_
  refine as_J_account hC hG (by omega) dX3_addLeg_30 (fun H locs hG => ?_)
  refine lv_aload_n hx hb dX3_addLeg_31 rfl (lv_at hl 0 rfl) ?_
  refine gf_J_amount hC hG (hC.2.2.2.2 _ w83) dX3_addLeg_32 ?_
  refine lv_aload_n hx hb dX3_addLeg_35 rfl (lv_at hl 0 rfl) ?_
  refine gf_J_legCount hC hG (hC.2.2.2.2 _ w85) dX3_addLeg_36 ?_
  refine W.eq (g2 := F0 m 39 ls [.int (nI (J_legCount u)), .ref (a 29)]) rfl ?_
  refine lv_lload_n hx hb dX3_addLeg_39 rfl (lv_at hl 3 rfl) ?_
  refine as_J_amount hC hG (by omega) dX3_addLeg_40 (fun H locs hG => ?_)
  refine lv_aload_n hx hb dX3_addLeg_41 rfl (lv_at hl 0 rfl) ?_
  refine gf_J_worth hC hG (hC.2.2.2.2 _ w84) dX3_addLeg_42 ?_
  refine lv_aload_n hx hb dX3_addLeg_45 rfl (lv_at hl 0 rfl) ?_
  refine gf_J_legCount hC hG (hC.2.2.2.2 _ w85) dX3_addLeg_46 ?_
  refine W.eq (g2 := F0 m 49 ls [.int (nI (J_legCount u)), .ref (a 30)]) rfl ?_
  refine lv_lload hx hb dX3_addLeg_49 (lv_at hl 4 rfl) ?_
  refine as_J_worth hC hG (by omega) dX3_addLeg_51 (fun H locs hG => ?_)
  refine lv_aload_n hx hb dX3_addLeg_52 rfl (lv_at hl 0 rfl) ?_
  refine lv_dup hx hb dX3_addLeg_53 rfl ?_
  refine gf_J_legCount hC hG (hC.2.2.2.2 _ w85) dX3_addLeg_54 ?_
  refine W.eq (g2 := F0 m 57 ls [.int (nI (J_legCount u)), .ref (a 5)]) rfl ?_
  refine lv_iconst (v := nI 1) hx hb dX3_addLeg_57 (by decide) ?_
  refine ar_iadd hx hb dX3_addLeg_58 ?_
  refine pf_J_legCount hC hG (hC.2.2.2.2 _ w85) dX3_addLeg_59 (fun H locs hG => ?_)
  exact te_v hC hG hr hk (by rfl) dX3_addLeg_62
theorem k_J_addLeg {p : Program} {l : Launch} {e : Env} {R : Room} {s : State} {m : MethodId} {args : Array Value} {below : List Frame} {meth : Method} {c : Code} {H : Heap} {locs : List Loc} {cs ss : Nat} {Q : State → Prop} {cc : ByteArray} {nL pc : Nat} {ls : Array Slot} {rest : List Value} {own : String} {idx : Nat} {D : va_G} {κ : ClassId × ClassId × ClassId} {a : Nat → Nat} {u : TS} {A : Nat → Prop} (hC : CallFix p m c cc nL s args WALL own) (hG : GW D κ a u A s H locs) (en : Nat) (ac : Nat) (am : Int64) (wo : Int64) (q1 : J_legCount u < 600) (wl : Cond.methodLink own idx yX3_addLeg ∈ WALL) (hR : 0 + 1 ≤ R.frames ∧ 8 + (7 + 11) + 0 ≤ R.locals) (hls : ls.size = nL) (h8 : (rest.map fun v => v.category).sum ≤ 8) (hd : decode cc pc = .ok (.invokevirtual idx, 3)) (hcs : cs ≤ R.cells ∧ ss ≤ R.slots) (kk : ∀ (H1 : Heap) (locs1 : List Loc), GW D κ a (fLeg u en ac am wo) A s H1 locs1 → W p l e R s m args below meth c H1 locs1 cs ss Q (F0 m (pc + 3) ls (rest))) : W p l e R s m args below meth c H locs cs ss Q (F0 m pc ls (.long wo :: .long am :: .int (nI ac) :: .int (nI en) :: .ref (a 5) :: rest)) :=
  tc_v hG (tr_V (n := 4) (k := 5) (ci := 3) (As := [.int (nI en), .int (nI ac), .long am, .long wo]) hC hG (c_J_addLeg l D κ a H.size u en ac am wo q1) rfl rfl wl w23 w251 w249 w250 (by decide +kernel) hR rfl hls rfl h8 hd hcs) (fun u' H1 locs1 hq hG1 => by subst hq; exact kk H1 locs1 hG1)

theorem dX3_enter_0 : decode cX3_enter 0 = .ok (.aload_n 0, 1) := by decide +kernel
theorem dX3_enter_1 : decode cX3_enter 1 = .ok (.invokevirtual 51, 3) := by decide +kernel
theorem dX3_enter_10 : decode cX3_enter 10 = .ok (.getfield 31, 3) := by decide +kernel
theorem dX3_enter_100 : decode cX3_enter 100 = .ok (.getfield 21, 3) := by decide +kernel
theorem dX3_enter_103 : decode cX3_enter 103 = .ok (.iload 5, 2) := by decide +kernel
theorem dX3_enter_105 : decode cX3_enter 105 = .ok (.aload_n 0, 1) := by decide +kernel
theorem dX3_enter_106 : decode cX3_enter 106 = .ok (.getfield 48, 3) := by decide +kernel
theorem dX3_enter_109 : decode cX3_enter 109 = .ok (.aload_n 0, 1) := by decide +kernel
theorem dX3_enter_110 : decode cX3_enter 110 = .ok (.getfield 18, 3) := by decide +kernel
theorem dX3_enter_113 : decode cX3_enter 113 = .ok (.iload 5, 2) := by decide +kernel
theorem dX3_enter_115 : decode cX3_enter 115 = .ok (.iaload, 1) := by decide +kernel
theorem dX3_enter_116 : decode cX3_enter 116 = .ok (.isub, 1) := by decide +kernel
theorem dX3_enter_117 : decode cX3_enter 117 = .ok (.iastore, 1) := by decide +kernel
theorem dX3_enter_118 : decode cX3_enter 118 = .ok (.aload_n 0, 1) := by decide +kernel
theorem dX3_enter_119 : decode cX3_enter 119 = .ok (.dup, 1) := by decide +kernel
theorem dX3_enter_120 : decode cX3_enter 120 = .ok (.getfield 31, 3) := by decide +kernel
theorem dX3_enter_123 : decode cX3_enter 123 = .ok (.iconst 1, 1) := by decide +kernel
theorem dX3_enter_124 : decode cX3_enter 124 = .ok (.iadd, 1) := by decide +kernel
theorem dX3_enter_125 : decode cX3_enter 125 = .ok (.putfield 31, 3) := by decide +kernel
theorem dX3_enter_128 : decode cX3_enter 128 = .ok (.iload 5, 2) := by decide +kernel
theorem dX3_enter_13 : decode cX3_enter 13 = .ok (.istore 5, 2) := by decide +kernel
theorem dX3_enter_130 : decode cX3_enter 130 = .ok (.ireturn, 1) := by decide +kernel
theorem dX3_enter_15 : decode cX3_enter 15 = .ok (.aload_n 0, 1) := by decide +kernel
theorem dX3_enter_16 : decode cX3_enter 16 = .ok (.getfield 9, 3) := by decide +kernel
theorem dX3_enter_19 : decode cX3_enter 19 = .ok (.iload 5, 2) := by decide +kernel
theorem dX3_enter_21 : decode cX3_enter 21 = .ok (.iload_n 1, 1) := by decide +kernel
theorem dX3_enter_22 : decode cX3_enter 22 = .ok (.iastore, 1) := by decide +kernel
theorem dX3_enter_23 : decode cX3_enter 23 = .ok (.aload_n 0, 1) := by decide +kernel
theorem dX3_enter_24 : decode cX3_enter 24 = .ok (.getfield 15, 3) := by decide +kernel
theorem dX3_enter_27 : decode cX3_enter 27 = .ok (.iload 5, 2) := by decide +kernel
theorem dX3_enter_29 : decode cX3_enter 29 = .ok (.iload_n 2, 1) := by decide +kernel
theorem dX3_enter_30 : decode cX3_enter 30 = .ok (.iastore, 1) := by decide +kernel
theorem dX3_enter_31 : decode cX3_enter 31 = .ok (.aload_n 0, 1) := by decide +kernel
theorem dX3_enter_32 : decode cX3_enter 32 = .ok (.getfield 28, 3) := by decide +kernel
theorem dX3_enter_35 : decode cX3_enter 35 = .ok (.iload 5, 2) := by decide +kernel
theorem dX3_enter_37 : decode cX3_enter 37 = .ok (.iload_n 3, 1) := by decide +kernel
theorem dX3_enter_38 : decode cX3_enter 38 = .ok (.bastore, 1) := by decide +kernel
theorem dX3_enter_39 : decode cX3_enter 39 = .ok (.aload_n 0, 1) := by decide +kernel
theorem dX3_enter_4 : decode cX3_enter 4 = .ok (.ifCond .eq 5, 3) := by decide +kernel
theorem dX3_enter_40 : decode cX3_enter 40 = .ok (.getfield 18, 3) := by decide +kernel
theorem dX3_enter_43 : decode cX3_enter 43 = .ok (.iload 5, 2) := by decide +kernel
theorem dX3_enter_45 : decode cX3_enter 45 = .ok (.aload_n 0, 1) := by decide +kernel
theorem dX3_enter_46 : decode cX3_enter 46 = .ok (.getfield 48, 3) := by decide +kernel
theorem dX3_enter_49 : decode cX3_enter 49 = .ok (.iastore, 1) := by decide +kernel
theorem dX3_enter_50 : decode cX3_enter 50 = .ok (.iconst 0, 1) := by decide +kernel
theorem dX3_enter_51 : decode cX3_enter 51 = .ok (.istore 6, 2) := by decide +kernel
theorem dX3_enter_53 : decode cX3_enter 53 = .ok (.iload 6, 2) := by decide +kernel
theorem dX3_enter_55 : decode cX3_enter 55 = .ok (.aload 4, 2) := by decide +kernel
theorem dX3_enter_57 : decode cX3_enter 57 = .ok (.getfield 55, 3) := by decide +kernel
theorem dX3_enter_60 : decode cX3_enter 60 = .ok (.if_icmp .ge 39, 3) := by decide +kernel
theorem dX3_enter_63 : decode cX3_enter 63 = .ok (.aload_n 0, 1) := by decide +kernel
theorem dX3_enter_64 : decode cX3_enter 64 = .ok (.iload 5, 2) := by decide +kernel
theorem dX3_enter_66 : decode cX3_enter 66 = .ok (.aload 4, 2) := by decide +kernel
theorem dX3_enter_68 : decode cX3_enter 68 = .ok (.getfield 58, 3) := by decide +kernel
theorem dX3_enter_71 : decode cX3_enter 71 = .ok (.iload 6, 2) := by decide +kernel
theorem dX3_enter_73 : decode cX3_enter 73 = .ok (.iaload, 1) := by decide +kernel
theorem dX3_enter_74 : decode cX3_enter 74 = .ok (.aload 4, 2) := by decide +kernel
theorem dX3_enter_76 : decode cX3_enter 76 = .ok (.getfield 59, 3) := by decide +kernel
theorem dX3_enter_79 : decode cX3_enter 79 = .ok (.iload 6, 2) := by decide +kernel
theorem dX3_enter_81 : decode cX3_enter 81 = .ok (.laload, 1) := by decide +kernel
theorem dX3_enter_82 : decode cX3_enter 82 = .ok (.aload 4, 2) := by decide +kernel
theorem dX3_enter_84 : decode cX3_enter 84 = .ok (.getfield 60, 3) := by decide +kernel
theorem dX3_enter_87 : decode cX3_enter 87 = .ok (.iload 6, 2) := by decide +kernel
theorem dX3_enter_89 : decode cX3_enter 89 = .ok (.laload, 1) := by decide +kernel
theorem dX3_enter_9 : decode cX3_enter 9 = .ok (.aload_n 0, 1) := by decide +kernel
theorem dX3_enter_90 : decode cX3_enter 90 = .ok (.invokevirtual 61, 3) := by decide +kernel
theorem dX3_enter_93 : decode cX3_enter 93 = .ok (.iinc 6 1, 3) := by decide +kernel
theorem dX3_enter_96 : decode cX3_enter 96 = .ok (.goto (-43), 3) := by decide +kernel
theorem dX3_enter_99 : decode cX3_enter 99 = .ok (.aload_n 0, 1) := by decide +kernel
set_option maxHeartbeats 4000000 in
set_option maxRecDepth 100000 in
theorem c_J_enter (l : Launch) (D : va_G) (κ : ClassId × ClassId × ClassId) (a : Nat → Nat) (sz : Nat) (u : TS) (d : Nat) (nt : Nat) (cl : Bool) (q1 : OK u) (q2 : J_count u < 60) (q3 : J_legCount u + L1_count u ≤ 600) : TM l yX3_enter cX3_enter 7 (some .int) 1 26 D κ a u sz [.ref (a 5), .int (nI d), .int (nI nt), .int (bI cl), .ref (a 4)] (QI D κ a sz (fun r u' => r = (nI (J_count u)) ∧ u' = fEnter u d nt cl)) := by
  refine TM.of (by decide +kernel) (Nat.le_of_ble_eq_true rfl) ?_
  intro p e s m below meth c ls hC hr hk hsz H locs hG hl
  have hx := hC.1
  have hb := hC.2.1
  have hl : lv_has ls 7 [(0, .ref (a 5)), (1, .int (nI d)), (2, .int (nI nt)), (3, .int (bI cl)), (4, .ref (a 4))] := hl
  have qok := q1
  have ⟨n1, n2, n3, n4, n5, n6, n7, n8, n9, n10⟩ := qok.n
  refine lv_aload_n hx hb dX3_enter_0 rfl (lv_at hl 0 rfl) ?_
  refine k_J_isFull hC hG  (q1) w247 ⟨by decide, by decide⟩ hl.1 (by decide) dX3_enter_1 ⟨Nat.zero_le _, Nat.zero_le _⟩ (fun H locs hG => ?_)
  refine bb_eq (tgt := 9) hx hb dX3_enter_4 (by decide) (fun h4 => ?_) (fun h4 => (show False from (by have h9 := h4; simp at h9; omega)).elim)
  refine lv_aload_n hx hb dX3_enter_9 rfl (lv_at hl 0 rfl) ?_
  refine gf_J_count hC hG (hC.2.2.2.2 _ w80) dX3_enter_10 ?_
  refine lv_istore (lv' := [(5, .int (nI (J_count u))), (0, .ref (a 5)), (1, .int (nI d)), (2, .int (nI nt)), (3, .int (bI cl)), (4, .ref (a 4))]) hx hb dX3_enter_13 hl (by decide) rfl (fun ls hl => ?_)
  refine lv_aload_n hx hb dX3_enter_15 rfl (lv_at hl 1 rfl) ?_
  refine gf_J_day hC hG (hC.2.2.2.2 _ w74) dX3_enter_16 ?_
  refine lv_iload hx hb dX3_enter_19 (lv_at hl 0 rfl) ?_
  refine lv_iload_n hx hb dX3_enter_21 rfl (lv_at hl 2 rfl) ?_
  refine as_J_day hC hG (by omega) dX3_enter_22 (fun H locs hG => ?_)
  refine lv_aload_n hx hb dX3_enter_23 rfl (lv_at hl 1 rfl) ?_
  refine gf_J_note hC hG (hC.2.2.2.2 _ w75) dX3_enter_24 ?_
  refine lv_iload hx hb dX3_enter_27 (lv_at hl 0 rfl) ?_
  refine lv_iload_n hx hb dX3_enter_29 rfl (lv_at hl 3 rfl) ?_
  refine as_J_note hC hG (by omega) dX3_enter_30 (fun H locs hG => ?_)
  refine lv_aload_n hx hb dX3_enter_31 rfl (lv_at hl 1 rfl) ?_
  refine gf_J_isClosing hC hG (hC.2.2.2.2 _ w79) dX3_enter_32 ?_
  refine lv_iload hx hb dX3_enter_35 (lv_at hl 0 rfl) ?_
  refine lv_iload_n hx hb dX3_enter_37 rfl (lv_at hl 4 rfl) ?_
  refine as_J_isClosing hC hG (by omega) dX3_enter_38 (fun H locs hG => ?_)
  refine lv_aload_n hx hb dX3_enter_39 rfl (lv_at hl 1 rfl) ?_
  refine gf_J_firstLeg hC hG (hC.2.2.2.2 _ w76) dX3_enter_40 ?_
  refine lv_iload hx hb dX3_enter_43 (lv_at hl 0 rfl) ?_
  refine lv_aload_n hx hb dX3_enter_45 rfl (lv_at hl 1 rfl) ?_
  refine gf_J_legCount hC hG (hC.2.2.2.2 _ w85) dX3_enter_46 ?_
  refine W.eq (g2 := F0 m 49 ls [.int (nI (J_legCount u)), .int (nI (J_count u)), .ref (a 23)]) rfl ?_
  refine as_J_firstLeg hC hG (by omega) dX3_enter_49 (fun H locs hG => ?_)
  refine lv_iconst (v := nI 0) hx hb dX3_enter_50 (by decide) ?_
  refine lv_istore (lv' := [(6, .int (nI 0)), (5, .int (nI (J_count u))), (0, .ref (a 5)), (1, .int (nI d)), (2, .int (nI nt)), (3, .int (bI cl)), (4, .ref (a 4))]) hx hb dX3_enter_51 hl (by decide) rfl (fun ls hl => ?_)
  have lp53 : ∀ (n : Nat) (i : Nat), L1_count u - i < n → (i ≤ L1_count u) → ∀ (H : Heap) (locs : List Loc), GW D κ a (fEntL u d nt cl i) (AA a sz) s H locs → ∀ ls : Array Slot, lv_has ls 7 [(6, .int (nI i)), (5, .int (nI (J_count u))), (0, .ref (a 5)), (1, .int (nI d)), (2, .int (nI nt)), (3, .int (bI cl)), (4, .ref (a 4))] → W p l e { frames := 1, cells := 0, slots := 0, locals := 26 } s m [.ref (a 5), .int (nI d), .int (nI nt), .int (bI cl), .ref (a 4)].toArray below meth c H locs 0 0 (MQ below (QI D κ a sz (fun r u' => r = (nI (J_count u)) ∧ u' = fEnter u d nt cl)) [.ref (a 5), .int (nI d), .int (nI nt), .int (bI cl), .ref (a 4)].toArray s 0 0 (AA a sz)) (F0 m 53 ls []) := by
    intro n
    induction n with
    | zero =>
      intro i hm
      exact absurd hm (Nat.not_lt_zero _)
    | succ n ih53 =>
      intro i hm53 c53_1 H locs hG ls hl
      have ⟨f1, f2, f3, f4⟩ := fEntL_c u d nt cl i
      refine lv_iload hx hb dX3_enter_53 (lv_at hl 0 rfl) ?_
      refine lv_aload hx hb dX3_enter_55 (lv_at hl 6 rfl) ?_
      refine gf_L1_count hC hG (hC.2.2.2.2 _ w243) dX3_enter_57 ?_
      refine bn_ge (tgt := 99) hx hb (by omega) (by omega) dX3_enter_60 (by decide) (fun h60 => ?_) (fun h60 => ?_)
      · refine lv_aload_n hx hb dX3_enter_99 rfl (lv_at hl 2 rfl) ?_
        refine gf_J_legsOf hC hG (hC.2.2.2.2 _ w77) dX3_enter_100 ?_
        refine lv_iload hx hb dX3_enter_103 (lv_at hl 1 rfl) ?_
        refine lv_aload_n hx hb dX3_enter_105 rfl (lv_at hl 2 rfl) ?_
        refine gf_J_legCount hC hG (hC.2.2.2.2 _ w85) dX3_enter_106 ?_
        refine lv_aload_n hx hb dX3_enter_109 rfl (lv_at hl 2 rfl) ?_
        refine gf_J_firstLeg hC hG (hC.2.2.2.2 _ w76) dX3_enter_110 ?_
        refine lv_iload hx hb dX3_enter_113 (lv_at hl 1 rfl) ?_
        refine al_J_firstLeg hC hG (by omega) dX3_enter_115 ?_
        have f5 : J_firstLeg (fEntL u d nt cl i) (J_count u) = J_legCount u := f4
        refine ar_isub hx hb (by omega) dX3_enter_116 ?_
        refine as_J_legsOf hC hG (by omega) dX3_enter_117 (fun H locs hG => ?_)
        refine lv_aload_n hx hb dX3_enter_118 rfl (lv_at hl 2 rfl) ?_
        refine lv_dup hx hb dX3_enter_119 rfl ?_
        refine gf_J_count hC hG (hC.2.2.2.2 _ w80) dX3_enter_120 ?_
        refine W.eq (g2 := F0 m 123 ls [.int (nI (J_count (fEntL u d nt cl i))), .ref (a 5)]) rfl ?_
        refine lv_iconst (v := nI 1) hx hb dX3_enter_123 (by decide) ?_
        refine ar_iadd hx hb dX3_enter_124 ?_
        refine pf_J_count hC hG (hC.2.2.2.2 _ w80) dX3_enter_125 (fun H locs hG => ?_)
        refine lv_iload hx hb dX3_enter_128 (lv_at hl 1 rfl) ?_
        have hi : i = L1_count u := by omega
        exact te_i (v := (nI (J_count u))) hC hG hr hk ⟨rfl, (by subst hi; unfold fEnter; rw [show J_legCount (fEntL u d nt cl (L1_count u)) - J_firstLeg (fEntL u d nt cl (L1_count u)) (J_count u) = L1_count u by omega]; exact congrArg (sN _ _) (by rw [f3]))⟩ dX3_enter_130
      · refine lv_aload_n hx hb dX3_enter_63 rfl (lv_at hl 2 rfl) ?_
        refine lv_iload hx hb dX3_enter_64 (lv_at hl 1 rfl) ?_
        refine lv_aload hx hb dX3_enter_66 (lv_at hl 6 rfl) ?_
        refine gf_L1_account hC hG (hC.2.2.2.2 _ w244) dX3_enter_68 ?_
        refine lv_iload hx hb dX3_enter_71 (lv_at hl 0 rfl) ?_
        refine al_L1_account hC hG (by omega) dX3_enter_73 ?_
        refine lv_aload hx hb dX3_enter_74 (lv_at hl 6 rfl) ?_
        refine gf_L1_amount hC hG (hC.2.2.2.2 _ w245) dX3_enter_76 ?_
        refine lv_iload hx hb dX3_enter_79 (lv_at hl 0 rfl) ?_
        refine al_L1_amount hC hG (by omega) dX3_enter_81 ?_
        refine lv_aload hx hb dX3_enter_82 (lv_at hl 6 rfl) ?_
        refine gf_L1_worth hC hG (hC.2.2.2.2 _ w246) dX3_enter_84 ?_
        refine lv_iload hx hb dX3_enter_87 (lv_at hl 0 rfl) ?_
        refine al_L1_worth hC hG (by omega) dX3_enter_89 ?_
        refine k_J_addLeg hC hG (J_count u) (L1_account (fEntL u d nt cl i) i) (L1_amount (fEntL u d nt cl i) i) (L1_worth (fEntL u d nt cl i) i) (by omega) w248 ⟨by decide, by decide⟩ hl.1 (by decide) dX3_enter_90 ⟨Nat.zero_le _, Nat.zero_le _⟩ (fun H locs hG => ?_)
        refine lv_iinc (v := (nI (i + 1))) (lv' := [(6, .int (nI (i + 1))), (5, .int (nI (J_count u))), (0, .ref (a 5)), (1, .int (nI d)), (2, .int (nI nt)), (3, .int (bI cl)), (4, .ref (a 4))]) hx hb dX3_enter_93 hl (k := 0) rfl (nI_1 _) (by decide) rfl (fun ls hl => ?_)
        refine lv_goto (tgt := 53) hx hb dX3_enter_96 (by decide) ?_
        have hG : GW D κ a (fEntL u d nt cl (i + 1)) (AA a sz) s H locs := by
          have eu : (fEntL u d nt cl (i + 1)) = (fLeg (fEntL u d nt cl i) (J_count u) (L1_account (fEntL u d nt cl i) i) (L1_amount (fEntL u d nt cl i) i) (L1_worth (fEntL u d nt cl i) i)) := by rfl
          rw [eu]; exact hG
        exact ih53  (i + 1) (by omega) (by omega) H locs hG ls (lv_sub hl [0, 1, 2, 3, 4, 5, 6] rfl)
  have hG : GW D κ a (fEntL u d nt cl 0) (AA a sz) s H locs := by
    have eu : (fEntL u d nt cl 0) = (sAN (sAB (sAN (sAN u 4 (J_count u) d) 5 (J_count u) nt) 2 (J_count u) cl) 6 (J_count u) (J_legCount u)) := by rfl
    rw [eu]; exact hG
  exact lp53 _ 0 (Nat.lt_succ_self _) (by omega) H locs hG ls (lv_sub hl [0, 1, 2, 3, 4, 5, 6] rfl)
theorem k_J_enter {p : Program} {l : Launch} {e : Env} {R : Room} {s : State} {m : MethodId} {args : Array Value} {below : List Frame} {meth : Method} {c : Code} {H : Heap} {locs : List Loc} {cs ss : Nat} {Q : State → Prop} {cc : ByteArray} {nL pc : Nat} {ls : Array Slot} {rest : List Value} {own : String} {idx : Nat} {D : va_G} {κ : ClassId × ClassId × ClassId} {a : Nat → Nat} {u : TS} {A : Nat → Prop} (hC : CallFix p m c cc nL s args WALL own) (hG : GW D κ a u A s H locs) (d : Nat) (nt : Nat) (cl : Bool) (q1 : OK u) (q2 : J_count u < 60) (q3 : J_legCount u + L1_count u ≤ 600) (wl : Cond.methodLink own idx yX3_enter ∈ WALL) (hR : 1 + 1 ≤ R.frames ∧ 8 + (7 + 11) + 26 ≤ R.locals) (hls : ls.size = nL) (h8 : (rest.map fun v => v.category).sum ≤ 8) (hd : decode cc pc = .ok (.invokevirtual idx, 3)) (hcs : cs ≤ R.cells ∧ ss ≤ R.slots) (kk : ∀ (H1 : Heap) (locs1 : List Loc), GW D κ a (fEnter u d nt cl) A s H1 locs1 → W p l e R s m args below meth c H1 locs1 cs ss Q (F0 m (pc + 3) ls (.int (nI (J_count u)) :: rest))) : W p l e R s m args below meth c H locs cs ss Q (F0 m pc ls (.ref (a 4) :: .int (bI cl) :: .int (nI nt) :: .int (nI d) :: .ref (a 5) :: rest)) :=
  tc_i hG (tr_V (n := 4) (k := 5) (ci := 3) (As := [.int (nI d), .int (nI nt), .int (bI cl), .ref (a 4)]) hC hG (c_J_enter l D κ a H.size u d nt cl q1 q2 q3) rfl rfl wl w23 w242 w240 w241 (by decide +kernel) hR rfl hls rfl h8 hd hcs) (fun r u' H1 locs1 hq hG1 => by obtain ⟨rfl, rfl⟩ := hq; exact kk H1 locs1 hG1)
end
section
/-! MATCHING: k = 0 what is kept, k = 1 what is tried -/
def mLo (k : Nat) (u : TS) (g : Nat) : Option Nat := if k = 0 then M0_lineOfLeg u g else M1_lineOfLeg u g
def mFi (k : Nat) (u : TS) (x : Nat) : Option Nat := if k = 0 then M0_firstOfLine u x else M1_firstOfLine u x
def mSe (k : Nat) (u : TS) (x : Nat) : Option Nat := if k = 0 then M0_secondOfLine u x else M1_secondOfLine u x
def msLo (k : Nat) (u : TS) (g : Nat) (v : Option Nat) : TS := if k = 0 then sAO u 0 g v else sAO u 3 g v
def msFi (k : Nat) (u : TS) (x : Nat) (v : Option Nat) : TS := if k = 0 then sAO u 1 x v else sAO u 4 x v
def msSe (k : Nat) (u : TS) (x : Nat) (v : Option Nat) : TS := if k = 0 then sAO u 2 x v else sAO u 5 x v
def mOK (k : Nat) (u : TS) : Prop := (∀ g x, mLo k u g = some x → x < LI_count u) ∧ (∀ x g, mFi k u x = some g → g < J_legCount u) ∧ (∀ x g, mSe k u x = some g → g < J_legCount u)
theorem OK.m {u : TS} (h : OK u) (k : Nat) : mOK k u := by
  unfold mOK mLo mFi mSe
  by_cases hk : k = 0
  · simp only [if_pos hk]
    exact h.m0
  · simp only [if_neg hk]
    exact h.m1
theorem upO {f : Nat → Option Nat} {i : Nat} {v : Option Nat} {n : Nat} (h : ∀ g x, f g = some x → x < n) (hv : ∀ x, v = some x → x < n) : ∀ g x, va_up f i v g = some x → x < n := by
  intro g x e
  unfold va_up at e
  split at e
  · exact hv x e
  · exact h g x e
theorem OK.sLo {u : TS} (h : OK u) (k g : Nat) {v : Option Nat} (hv : ∀ x, v = some x → x < LI_count u) : OK (msLo k u g v) := by
  unfold msLo
  split
  · exact ⟨h.1, h.2.1, h.2.2.1, h.2.2.2.1, h.2.2.2.2.1, h.2.2.2.2.2.1, h.2.2.2.2.2.2.1, h.2.2.2.2.2.2.2.1, h.2.2.2.2.2.2.2.2.1, ⟨upO h.m0.1 hv, h.m0.2.1, h.m0.2.2⟩, h.m1⟩
  · exact ⟨h.1, h.2.1, h.2.2.1, h.2.2.2.1, h.2.2.2.2.1, h.2.2.2.2.2.1, h.2.2.2.2.2.2.1, h.2.2.2.2.2.2.2.1, h.2.2.2.2.2.2.2.2.1, h.m0, ⟨upO h.m1.1 hv, h.m1.2.1, h.m1.2.2⟩⟩
theorem OK.sFi {u : TS} (h : OK u) (k g : Nat) {v : Option Nat} (hv : ∀ x, v = some x → x < J_legCount u) : OK (msFi k u g v) := by
  unfold msFi
  split
  · exact ⟨h.1, h.2.1, h.2.2.1, h.2.2.2.1, h.2.2.2.2.1, h.2.2.2.2.2.1, h.2.2.2.2.2.2.1, h.2.2.2.2.2.2.2.1, h.2.2.2.2.2.2.2.2.1, ⟨h.m0.1, upO h.m0.2.1 hv, h.m0.2.2⟩, h.m1⟩
  · exact ⟨h.1, h.2.1, h.2.2.1, h.2.2.2.1, h.2.2.2.2.1, h.2.2.2.2.2.1, h.2.2.2.2.2.2.1, h.2.2.2.2.2.2.2.1, h.2.2.2.2.2.2.2.2.1, h.m0, ⟨h.m1.1, upO h.m1.2.1 hv, h.m1.2.2⟩⟩
theorem OK.sSe {u : TS} (h : OK u) (k g : Nat) {v : Option Nat} (hv : ∀ x, v = some x → x < J_legCount u) : OK (msSe k u g v) := by
  unfold msSe
  split
  · exact ⟨h.1, h.2.1, h.2.2.1, h.2.2.2.1, h.2.2.2.2.1, h.2.2.2.2.2.1, h.2.2.2.2.2.2.1, h.2.2.2.2.2.2.2.1, h.2.2.2.2.2.2.2.2.1, ⟨h.m0.1, h.m0.2.1, upO h.m0.2.2 hv⟩, h.m1⟩
  · exact ⟨h.1, h.2.1, h.2.2.1, h.2.2.2.1, h.2.2.2.2.1, h.2.2.2.2.2.1, h.2.2.2.2.2.2.1, h.2.2.2.2.2.2.2.1, h.2.2.2.2.2.2.2.2.1, h.m0, ⟨h.m1.1, h.m1.2.1, upO h.m1.2.2 hv⟩⟩
/-- what matching reads of the rest is as it was -/
def JL (u v : TS) : Prop := v.1 = u.1 ∧ v.2.1 = u.2.1 ∧ v.2.2.1 = u.2.2.1 ∧ v.2.2.2.1 = u.2.2.2.1 ∧ v.2.2.2.2.1 = u.2.2.2.2.1 ∧ v.2.2.2.2.2.1 = u.2.2.2.2.2.1 ∧ v.2.2.2.2.2.2.2 = u.2.2.2.2.2.2.2
theorem JL.rfl' (u : TS) : JL u u := ⟨rfl, rfl, rfl, rfl, rfl, rfl, rfl⟩
theorem JL.trans {u v w : TS} (h : JL u v) (g : JL v w) : JL u w := ⟨g.1.trans h.1, g.2.1.trans h.2.1, g.2.2.1.trans h.2.2.1, g.2.2.2.1.trans h.2.2.2.1, g.2.2.2.2.1.trans h.2.2.2.2.1, g.2.2.2.2.2.1.trans h.2.2.2.2.2.1, g.2.2.2.2.2.2.trans h.2.2.2.2.2.2⟩
theorem JL.sLo (k : Nat) (u : TS) (g : Nat) (v : Option Nat) : JL u (msLo k u g v) := by unfold msLo; split <;> exact ⟨rfl, rfl, rfl, rfl, rfl, rfl, rfl⟩
theorem JL.sFi (k : Nat) (u : TS) (g : Nat) (v : Option Nat) : JL u (msFi k u g v) := by unfold msFi; split <;> exact ⟨rfl, rfl, rfl, rfl, rfl, rfl, rfl⟩
theorem JL.sSe (k : Nat) (u : TS) (g : Nat) (v : Option Nat) : JL u (msSe k u g v) := by unfold msSe; split <;> exact ⟨rfl, rfl, rfl, rfl, rfl, rfl, rfl⟩
theorem JL.cnt {u v : TS} (h : JL u v) : J_legCount v = J_legCount u ∧ LI_count v = LI_count u ∧ J_count v = J_count u ∧ AC_count v = AC_count u := by
  refine ⟨?_, ?_, ?_, ?_⟩ <;> (show v.1 _ = u.1 _; rw [h.1])
def fIsLeft (k : Nat) (u : TS) (x w : Nat) : Bool := decide (LI_account u x = w) && decide (mFi k u x = none)
def fLegLeft (k : Nat) (u : TS) (g w : Nat) : Bool := decide (J_account u g = w) && (decide (mLo k u g = none) && fCounts u g)
def fAway (u : TS) (g x : Nat) : Nat := if LI_day u x ≤ fDayOf u g then fDayOf u g - LI_day u x else LI_day u x - fDayOf u g
def fNear (u : TS) (g o x : Nat) : Bool := decide (fAway u g x < fAway u o x) || (decide (fAway u g x = fAway u o x) && decide (fDayOf u g < fDayOf u o))
def fNearO (u : TS) (g x : Nat) : Option Nat → Bool
  | none => true
  | some o => fNear u g o x
def fBest (k : Nat) (u : TS) (x dd : Nat) : Nat → Option Nat
  | 0 => none
  | g + 1 => if fLegLeft k u g (LI_account u x) = true ∧ J_amount u g = (LI_amount u x).toInt64 ∧ fAway u g x ≤ dd ∧ fNearO u g x (fBest k u x dd g) = true then some g else fBest k u x dd g
theorem fBest_lt (k : Nat) (u : TS) (x dd : Nat) : ∀ n j, fBest k u x dd n = some j → j < n
  | 0, _, h => by cases h
  | n + 1, j, h => by
    unfold fBest at h
    split at h
    · cases h; omega
    · have := fBest_lt k u x dd n j h
      omega
def fBind (k : Nat) (u : TS) (x f : Nat) (s : Option Nat) : TS := match s with
  | none => msLo k (msSe k (msFi k u x (some f)) x none) f (some x)
  | some g => msLo k (msLo k (msSe k (msFi k u x (some f)) x (some g)) f (some x)) g (some x)
theorem fBind_JL (k : Nat) (u : TS) (x f : Nat) (s : Option Nat) : JL u (fBind k u x f s) := by
  cases s
  · exact ((JL.sFi k u x _).trans (JL.sSe k _ x _)).trans (JL.sLo k _ f _)
  · exact (((JL.sFi k u x _).trans (JL.sSe k _ x _)).trans (JL.sLo k _ f _)).trans (JL.sLo k _ _ _)
theorem fBind_OK {k : Nat} {u : TS} {x f : Nat} {s : Option Nat} (h : OK u) (hx : x < LI_count u) (hf : f < J_legCount u) (hs : ∀ g, s = some g → g < J_legCount u) : OK (fBind k u x f s) := by
  have h1 : OK (msFi k u x (some f)) := h.sFi k x (fun y e => by cases e; exact hf)
  have e1 := (JL.sFi k u x (some f)).cnt
  cases s with
  | none =>
    have h2 : OK (msSe k (msFi k u x (some f)) x none) := h1.sSe k x (fun y e => by cases e)
    have e2 := (JL.sSe k (msFi k u x (some f)) x none).cnt
    exact h2.sLo k f (fun y e => by cases e; omega)
  | some g =>
    have h2 : OK (msSe k (msFi k u x (some f)) x (some g)) := h1.sSe k x (fun y e => by cases e; have := hs _ rfl; omega)
    have e2 := (JL.sSe k (msFi k u x (some f)) x (some g)).cnt
    have h3 := h2.sLo k f (v := some x) (fun y e => by cases e; omega)
    have e3 := (JL.sLo k (msSe k (msFi k u x (some f)) x (some g)) f (some x)).cnt
    exact h3.sLo k g (fun y e => by cases e; omega)
def fNst (k : Nat) (u : TS) (x dd : Nat) : TS := match fBest k u x dd (J_legCount u) with
  | none => u
  | some g => fBind k u x g none
/-- the second leg behind f: of the last r ones the first -/
def fSec (k : Nat) (u : TS) (f x : Nat) : Nat → Option Nat
  | 0 => none
  | r + 1 => if fLegLeft k u (J_legCount u - (r + 1)) (LI_account u x) = true ∧ fDayOf u (J_legCount u - (r + 1)) = fDayOf u f ∧ J_amount u f + J_amount u (J_legCount u - (r + 1)) = (LI_amount u x).toInt64 then some (J_legCount u - (r + 1)) else fSec k u f x r
theorem fSec_lt (k : Nat) (u : TS) (f x : Nat) : ∀ r j, r ≤ J_legCount u → fSec k u f x r = some j → j < J_legCount u
  | 0, _, _, h => by cases h
  | r + 1, j, hr, h => by
    unfold fSec at h
    split at h
    · cases h; omega
    · exact fSec_lt k u f x r j (by omega) h
def fTwo (k : Nat) (u : TS) (x dd : Nat) : Nat → TS
  | 0 => u
  | r + 1 => if fLegLeft k u (J_legCount u - (r + 1)) (LI_account u x) = true ∧ fAway u (J_legCount u - (r + 1)) x ≤ dd ∧ fSec k u (J_legCount u - (r + 1)) x r ≠ none then fBind k u x (J_legCount u - (r + 1)) (fSec k u (J_legCount u - (r + 1)) x r) else fTwo k u x dd r
def fClrO (k : Nat) (u : TS) : Option Nat → TS
  | none => u
  | some g => msLo k u g none
def fFree (k : Nat) (u : TS) (x : Nat) : TS := msSe k (msFi k (fClrO k (fClrO k u (mFi k u x)) (mSe k u x)) x none) x none
theorem fClrO_JL (k : Nat) (u : TS) (o : Option Nat) : JL u (fClrO k u o) := by
  cases o
  · exact JL.rfl' u
  · exact JL.sLo k u _ _
theorem fClrO_OK {k : Nat} {u : TS} (h : OK u) (o : Option Nat) : OK (fClrO k u o) := by
  cases o
  · exact h
  · exact h.sLo k _ (fun y e => by cases e)
theorem fFree_JL (k : Nat) (u : TS) (x : Nat) : JL u (fFree k u x) := (((fClrO_JL k u _).trans (fClrO_JL k _ _)).trans (JL.sFi k _ x _)).trans (JL.sSe k _ x _)
theorem fFree_OK {k : Nat} {u : TS} (h : OK u) (x : Nat) : OK (fFree k u x) := ((fClrO_OK (fClrO_OK h _) _).sFi k x (fun y e => by cases e)).sSe k x (fun y e => by cases e)
theorem fNst_JL (k : Nat) (u : TS) (x dd : Nat) : JL u (fNst k u x dd) := by
  unfold fNst
  split
  · exact JL.rfl' u
  · exact fBind_JL k u x _ _
theorem fNst_OK {k : Nat} {u : TS} (h : OK u) {x : Nat} (hx : x < LI_count u) (dd : Nat) : OK (fNst k u x dd) := by
  unfold fNst
  split
  · exact h
  · rename_i g hg
    exact fBind_OK h hx (fBest_lt k u x dd _ _ hg) (fun y e => by cases e)
theorem fTwo_JL (k : Nat) (u : TS) (x dd : Nat) : ∀ r, JL u (fTwo k u x dd r)
  | 0 => JL.rfl' u
  | r + 1 => by
    unfold fTwo
    split
    · exact fBind_JL k u x _ _
    · exact fTwo_JL k u x dd r
theorem fTwo_OK {k : Nat} {u : TS} (h : OK u) {x : Nat} (hx : x < LI_count u) (dd : Nat) : ∀ r, r ≤ J_legCount u → OK (fTwo k u x dd r)
  | 0, _ => h
  | r + 1, hr => by
    unfold fTwo
    split
    · exact fBind_OK h hx (by omega) (fun g e => fSec_lt k u _ x r g (by omega) e)
    · exact fTwo_OK h hx dd r (by omega)
def fP1 (k : Nat) (u : TS) (w : Nat) : Nat → TS
  | 0 => u
  | i + 1 => if LI_account (fP1 k u w i) i = w then fFree k (fP1 k u w i) i else fP1 k u w i
theorem fP1_J (k : Nat) (u : TS) (w : Nat) (h : OK u) : ∀ i, JL u (fP1 k u w i) ∧ OK (fP1 k u w i)
  | 0 => ⟨JL.rfl' u, h⟩
  | i + 1 => by
    obtain ⟨h1, h2⟩ := fP1_J k u w h i
    unfold fP1
    split
    · exact ⟨h1.trans (fFree_JL k _ i), fFree_OK h2 i⟩
    · exact ⟨h1, h2⟩
def fP2 (k : Nat) (u : TS) (w dd : Nat) : Nat → TS
  | 0 => u
  | i + 1 => if fIsLeft k (fP2 k u w dd i) (LI_byDay (fP2 k u w dd i) i) w = true then fNst k (fP2 k u w dd i) (LI_byDay (fP2 k u w dd i) i) dd else fP2 k u w dd i
theorem fP2_J (k : Nat) (u : TS) (w dd : Nat) (h : OK u) : ∀ i, i ≤ LI_count u → JL u (fP2 k u w dd i) ∧ OK (fP2 k u w dd i)
  | 0, _ => ⟨JL.rfl' u, h⟩
  | i + 1, hi => by
    obtain ⟨h1, h2⟩ := fP2_J k u w dd h i (by omega)
    unfold fP2
    split
    · exact ⟨h1.trans (fNst_JL k _ _ dd), fNst_OK h2 (h2.line (x := i) (by have := h1.cnt; omega)).2.2 dd⟩
    · exact ⟨h1, h2⟩
def fP3 (k : Nat) (u : TS) (w dd : Nat) : Nat → TS
  | 0 => u
  | i + 1 => if fIsLeft k (fP3 k u w dd i) (LI_byDay (fP3 k u w dd i) i) w = true then fTwo k (fP3 k u w dd i) (LI_byDay (fP3 k u w dd i) i) dd (J_legCount (fP3 k u w dd i)) else fP3 k u w dd i
theorem fP3_J (k : Nat) (u : TS) (w dd : Nat) (h : OK u) : ∀ i, i ≤ LI_count u → JL u (fP3 k u w dd i) ∧ OK (fP3 k u w dd i)
  | 0, _ => ⟨JL.rfl' u, h⟩
  | i + 1, hi => by
    obtain ⟨h1, h2⟩ := fP3_J k u w dd h i (by omega)
    unfold fP3
    split
    · exact ⟨h1.trans (fTwo_JL k _ _ dd _), fTwo_OK h2 (h2.line (x := i) (by have := h1.cnt; omega)).2.2 dd _ (Nat.le_refl _)⟩
    · exact ⟨h1, h2⟩
def fLLeft (k : Nat) (u : TS) (w : Nat) : Nat → Nat
  | 0 => 0
  | i + 1 => if fIsLeft k u i w = true then fLLeft k u w i + 1 else fLLeft k u w i
theorem fLLeft_le (k : Nat) (u : TS) (w : Nat) : ∀ n, fLLeft k u w n ≤ n ∧ fLLeft k u w n ≤ fLCnt u w n
  | 0 => ⟨Nat.le_refl _, Nat.le_refl _⟩
  | n + 1 => by
    have := fLLeft_le k u w n
    unfold fLLeft fLCnt fIsLeft
    by_cases h : LI_account u n = w
    · simp only [h, decide_true, Bool.true_and, if_true]
      split <;> omega
    · simp only [h, decide_false, Bool.false_and, if_false]
      simp
      omega
def fLSum (k : Nat) (u : TS) (w : Nat) : Nat → Int64
  | 0 => 0
  | i + 1 => if fIsLeft k u i w = true then fLSum k u w i + (LI_amount u i).toInt64 else fLSum k u w i
def fGLeft (k : Nat) (u : TS) (w : Nat) : Nat → Nat
  | 0 => 0
  | i + 1 => if fLegLeft k u i w = true then fGLeft k u w i + 1 else fGLeft k u w i
theorem fGLeft_le (k : Nat) (u : TS) (w : Nat) : ∀ n, fGLeft k u w n ≤ n
  | 0 => Nat.le_refl _
  | n + 1 => by
    have := fGLeft_le k u w n
    unfold fGLeft
    split <;> omega
def fGSum (k : Nat) (u : TS) (w : Nat) : Nat → Int64
  | 0 => 0
  | i + 1 => if fLegLeft k u i w = true then fGSum k u w i + J_amount u i else fGSum k u w i
def fPair (k : Nat) (u : TS) (w dd : Nat) : TS := fP3 k (fP2 k (fP1 k u w (LI_count u)) w dd (LI_count u)) w dd (LI_count u)
theorem fPair_J (k : Nat) (u : TS) (w dd : Nat) (h : OK u) : JL u (fPair k u w dd) ∧ OK (fPair k u w dd) := by
  obtain ⟨a1, a2⟩ := fP1_J k u w h (LI_count u)
  obtain ⟨b1, b2⟩ := fP2_J k _ w dd a2 (LI_count u) (by have := a1.cnt; omega)
  obtain ⟨c1, c2⟩ := fP3_J k _ w dd b2 (LI_count u) (by have := a1.cnt; have := b1.cnt; omega)
  exact ⟨(a1.trans b1).trans c1, c2⟩
def fPairN (k : Nat) (u : TS) (w dd : Nat) : Nat := fLCnt (fPair k u w dd) w (LI_count u) - fLLeft k (fPair k u w dd) w (LI_count u)
/-- lines of the legs from g on, n of them, freed -/
def fFrees (k : Nat) (u : TS) (g : Nat) : Nat → TS
  | 0 => u
  | i + 1 => match mLo k (fFrees k u g i) (g + i) with
    | none => fFrees k u g i
    | some x => fFree k (fFrees k u g i) x
theorem fFrees_J (k : Nat) (u : TS) (g : Nat) (h : OK u) : ∀ i, JL u (fFrees k u g i) ∧ OK (fFrees k u g i)
  | 0 => ⟨JL.rfl' u, h⟩
  | i + 1 => by
    obtain ⟨h1, h2⟩ := fFrees_J k u g h i
    unfold fFrees
    split
    · exact ⟨h1, h2⟩
    · exact ⟨h1.trans (fFree_JL k _ _), fFree_OK h2 _⟩
end
section
theorem dX6_isLeft_0 : decode cX6_isLeft 0 = .ok (.aload_n 0, 1) := by decide +kernel
theorem dX6_isLeft_1 : decode cX6_isLeft 1 = .ok (.getfield 25, 3) := by decide +kernel
theorem dX6_isLeft_10 : decode cX6_isLeft 10 = .ok (.if_icmp .ne 17, 3) := by decide +kernel
theorem dX6_isLeft_13 : decode cX6_isLeft 13 = .ok (.aload_n 0, 1) := by decide +kernel
theorem dX6_isLeft_14 : decode cX6_isLeft 14 = .ok (.getfield 15, 3) := by decide +kernel
theorem dX6_isLeft_17 : decode cX6_isLeft 17 = .ok (.iload_n 1, 1) := by decide +kernel
theorem dX6_isLeft_18 : decode cX6_isLeft 18 = .ok (.iaload, 1) := by decide +kernel
theorem dX6_isLeft_19 : decode cX6_isLeft 19 = .ok (.iconst (-1), 1) := by decide +kernel
theorem dX6_isLeft_20 : decode cX6_isLeft 20 = .ok (.if_icmp .ne 7, 3) := by decide +kernel
theorem dX6_isLeft_23 : decode cX6_isLeft 23 = .ok (.iconst 1, 1) := by decide +kernel
theorem dX6_isLeft_24 : decode cX6_isLeft 24 = .ok (.goto 4, 3) := by decide +kernel
theorem dX6_isLeft_27 : decode cX6_isLeft 27 = .ok (.iconst 0, 1) := by decide +kernel
theorem dX6_isLeft_28 : decode cX6_isLeft 28 = .ok (.ireturn, 1) := by decide +kernel
theorem dX6_isLeft_4 : decode cX6_isLeft 4 = .ok (.getfield 35, 3) := by decide +kernel
theorem dX6_isLeft_7 : decode cX6_isLeft 7 = .ok (.iload_n 1, 1) := by decide +kernel
theorem dX6_isLeft_8 : decode cX6_isLeft 8 = .ok (.iaload, 1) := by decide +kernel
theorem dX6_isLeft_9 : decode cX6_isLeft 9 = .ok (.iload_n 2, 1) := by decide +kernel
set_option maxHeartbeats 4000000 in
set_option maxRecDepth 100000 in
theorem c_M0_isLeft (l : Launch) (D : va_G) (κ : ClassId × ClassId × ClassId) (a : Nat → Nat) (sz : Nat) (u : TS) (x : Nat) (w : Nat) (q1 : OK u) (q2 : x < LI_count u) (q3 : w < 600) : TM l yX6_isLeft cX6_isLeft 3 (some .boolean) 0 0 D κ a u sz [.ref (a 8), .int (nI x), .int (nI w)] (QI D κ a sz (fun r u' => r = (bI (fIsLeft 0 u x w)) ∧ u' = u)) := by
  refine TM.of (by decide +kernel) (Nat.le_of_ble_eq_true rfl) ?_
  intro p e s m below meth c ls hC hr hk hsz H locs hG hl
  have hx := hC.1
  have hb := hC.2.1
  have hl : lv_has ls 3 [(0, .ref (a 8)), (1, .int (nI x)), (2, .int (nI w))] := hl
  have qok := q1
  have ⟨n1, n2, n3, n4, n5, n6, n7, n8, n9, n10⟩ := qok.n
  have k1 := q1.line q2
  have k2 := (q1.m0).2.1 x
  refine lv_aload_n hx hb dX6_isLeft_0 rfl (lv_at hl 0 rfl) ?_
  refine gf_M0_lines hC hG (hC.2.2.2.2 _ w110) dX6_isLeft_1 ?_
  refine gf_LI_account hC hG (hC.2.2.2.2 _ w321) dX6_isLeft_4 ?_
  refine lv_iload_n hx hb dX6_isLeft_7 rfl (lv_at hl 1 rfl) ?_
  refine al_LI_account hC hG (by omega) dX6_isLeft_8 ?_
  refine lv_iload_n hx hb dX6_isLeft_9 rfl (lv_at hl 2 rfl) ?_
  refine bn_ne (tgt := 27) hx hb (by omega) (by omega) dX6_isLeft_10 (by decide) (fun h10 => ?_) (fun h10 => ?_)
  · refine lv_iconst (v := nI 0) hx hb dX6_isLeft_27 (by decide) ?_
    exact te_z (v := false) hC hG hr hk ⟨(congrArg bI (show false = fIsLeft 0 u x w from by simp [fIsLeft, mFi, h10])), rfl⟩ dX6_isLeft_28
  · refine lv_aload_n hx hb dX6_isLeft_13 rfl (lv_at hl 0 rfl) ?_
    refine gf_M0_firstOfLine hC hG (hC.2.2.2.2 _ w107) dX6_isLeft_14 ?_
    refine lv_iload_n hx hb dX6_isLeft_17 rfl (lv_at hl 1 rfl) ?_
    refine al_M0_firstOfLine hC hG (by omega) dX6_isLeft_18 ?_
    refine lv_iconst (v := -1) hx hb dX6_isLeft_19 (by decide) ?_
    refine bo_ne (tgt := 27) hx hb (by intro j9 e9; have := k2 j9 e9; omega) dX6_isLeft_20 (by decide) (fun h20 => ?_) (fun h20 => ?_)
    · refine lv_iconst (v := nI 0) hx hb dX6_isLeft_27 (by decide) ?_
      exact te_z (v := false) hC hG hr hk ⟨(congrArg bI (show false = fIsLeft 0 u x w from by simp [fIsLeft, mFi, h10, h20])), rfl⟩ dX6_isLeft_28
    · refine lv_iconst (v := nI 1) hx hb dX6_isLeft_23 (by decide) ?_
      refine lv_goto (tgt := 28) hx hb dX6_isLeft_24 (by decide) ?_
      exact te_z (v := true) hC hG hr hk ⟨(congrArg bI (show true = fIsLeft 0 u x w from by simp [fIsLeft, mFi, h10, h20])), rfl⟩ dX6_isLeft_28
theorem k_M0_isLeft {p : Program} {l : Launch} {e : Env} {R : Room} {s : State} {m : MethodId} {args : Array Value} {below : List Frame} {meth : Method} {c : Code} {H : Heap} {locs : List Loc} {cs ss : Nat} {Q : State → Prop} {cc : ByteArray} {nL pc : Nat} {ls : Array Slot} {rest : List Value} {own : String} {idx : Nat} {D : va_G} {κ : ClassId × ClassId × ClassId} {a : Nat → Nat} {u : TS} {A : Nat → Prop} (hC : CallFix p m c cc nL s args WALL own) (hG : GW D κ a u A s H locs) (x : Nat) (w : Nat) (q1 : OK u) (q2 : x < LI_count u) (q3 : w < 600) (wl : Cond.methodLink own idx yX6_isLeft ∈ WALL) (hR : 0 + 1 ≤ R.frames ∧ 8 + (3 + 11) + 0 ≤ R.locals) (hls : ls.size = nL) (h8 : (rest.map fun v => v.category).sum ≤ 8) (hd : decode cc pc = .ok (.invokevirtual idx, 3)) (hcs : cs ≤ R.cells ∧ ss ≤ R.slots) (kk : ∀ (H1 : Heap) (locs1 : List Loc), GW D κ a u A s H1 locs1 → W p l e R s m args below meth c H1 locs1 cs ss Q (F0 m (pc + 3) ls (.int (bI (fIsLeft 0 u x w)) :: rest))) : W p l e R s m args below meth c H locs cs ss Q (F0 m pc ls (.int (nI w) :: .int (nI x) :: .ref (a 8) :: rest)) :=
  tc_i hG (tr_V (n := 2) (k := 8) (ci := 6) (As := [.int (nI x), .int (nI w)]) hC hG (c_M0_isLeft l D κ a H.size u x w q1 q2 q3) rfl rfl wl w35 w326 w324 w325 (by decide +kernel) hR rfl hls rfl h8 hd hcs) (fun r u' H1 locs1 hq hG1 => by obtain ⟨rfl, rfl⟩ := hq; exact kk H1 locs1 hG1)

theorem dX6_isLegLeft_0 : decode cX6_isLegLeft 0 = .ok (.aload_n 0, 1) := by decide +kernel
theorem dX6_isLegLeft_1 : decode cX6_isLegLeft 1 = .ok (.getfield 21, 3) := by decide +kernel
theorem dX6_isLegLeft_10 : decode cX6_isLegLeft 10 = .ok (.if_icmp .ne 28, 3) := by decide +kernel
theorem dX6_isLegLeft_13 : decode cX6_isLegLeft 13 = .ok (.aload_n 0, 1) := by decide +kernel
theorem dX6_isLegLeft_14 : decode cX6_isLegLeft 14 = .ok (.getfield 9, 3) := by decide +kernel
theorem dX6_isLegLeft_17 : decode cX6_isLegLeft 17 = .ok (.iload_n 1, 1) := by decide +kernel
theorem dX6_isLegLeft_18 : decode cX6_isLegLeft 18 = .ok (.iaload, 1) := by decide +kernel
theorem dX6_isLegLeft_19 : decode cX6_isLegLeft 19 = .ok (.iconst (-1), 1) := by decide +kernel
theorem dX6_isLegLeft_20 : decode cX6_isLegLeft 20 = .ok (.if_icmp .ne 18, 3) := by decide +kernel
theorem dX6_isLegLeft_23 : decode cX6_isLegLeft 23 = .ok (.aload_n 0, 1) := by decide +kernel
theorem dX6_isLegLeft_24 : decode cX6_isLegLeft 24 = .ok (.getfield 21, 3) := by decide +kernel
theorem dX6_isLegLeft_27 : decode cX6_isLegLeft 27 = .ok (.iload_n 1, 1) := by decide +kernel
theorem dX6_isLegLeft_28 : decode cX6_isLegLeft 28 = .ok (.invokevirtual 66, 3) := by decide +kernel
theorem dX6_isLegLeft_31 : decode cX6_isLegLeft 31 = .ok (.ifCond .eq 7, 3) := by decide +kernel
theorem dX6_isLegLeft_34 : decode cX6_isLegLeft 34 = .ok (.iconst 1, 1) := by decide +kernel
theorem dX6_isLegLeft_35 : decode cX6_isLegLeft 35 = .ok (.goto 4, 3) := by decide +kernel
theorem dX6_isLegLeft_38 : decode cX6_isLegLeft 38 = .ok (.iconst 0, 1) := by decide +kernel
theorem dX6_isLegLeft_39 : decode cX6_isLegLeft 39 = .ok (.ireturn, 1) := by decide +kernel
theorem dX6_isLegLeft_4 : decode cX6_isLegLeft 4 = .ok (.getfield 63, 3) := by decide +kernel
theorem dX6_isLegLeft_7 : decode cX6_isLegLeft 7 = .ok (.iload_n 1, 1) := by decide +kernel
theorem dX6_isLegLeft_8 : decode cX6_isLegLeft 8 = .ok (.iaload, 1) := by decide +kernel
theorem dX6_isLegLeft_9 : decode cX6_isLegLeft 9 = .ok (.iload_n 2, 1) := by decide +kernel
set_option maxHeartbeats 4000000 in
set_option maxRecDepth 100000 in
theorem c_M0_isLegLeft (l : Launch) (D : va_G) (κ : ClassId × ClassId × ClassId) (a : Nat → Nat) (sz : Nat) (u : TS) (g : Nat) (w : Nat) (q1 : OK u) (q2 : g < J_legCount u) (q3 : w < 600) : TM l yX6_isLegLeft cX6_isLegLeft 3 (some .boolean) 1 21 D κ a u sz [.ref (a 8), .int (nI g), .int (nI w)] (QI D κ a sz (fun r u' => r = (bI (fLegLeft 0 u g w)) ∧ u' = u)) := by
  refine TM.of (by decide +kernel) (Nat.le_of_ble_eq_true rfl) ?_
  intro p e s m below meth c ls hC hr hk hsz H locs hG hl
  have hx := hC.1
  have hb := hC.2.1
  have hl : lv_has ls 3 [(0, .ref (a 8)), (1, .int (nI g)), (2, .int (nI w))] := hl
  have qok := q1
  have ⟨n1, n2, n3, n4, n5, n6, n7, n8, n9, n10⟩ := qok.n
  have k1 := q1.leg q2
  have k2 := (q1.m0).1 g
  refine lv_aload_n hx hb dX6_isLegLeft_0 rfl (lv_at hl 0 rfl) ?_
  refine gf_M0_journal hC hG (hC.2.2.2.2 _ w109) dX6_isLegLeft_1 ?_
  refine gf_J_account hC hG (hC.2.2.2.2 _ w338) dX6_isLegLeft_4 ?_
  refine lv_iload_n hx hb dX6_isLegLeft_7 rfl (lv_at hl 1 rfl) ?_
  refine al_J_account hC hG (by omega) dX6_isLegLeft_8 ?_
  refine lv_iload_n hx hb dX6_isLegLeft_9 rfl (lv_at hl 2 rfl) ?_
  refine bn_ne (tgt := 38) hx hb (by omega) (by omega) dX6_isLegLeft_10 (by decide) (fun h10 => ?_) (fun h10 => ?_)
  · refine lv_iconst (v := nI 0) hx hb dX6_isLegLeft_38 (by decide) ?_
    exact te_z (v := false) hC hG hr hk ⟨(congrArg bI (show false = fLegLeft 0 u g w from by simp [fLegLeft, mLo, h10])), rfl⟩ dX6_isLegLeft_39
  · refine lv_aload_n hx hb dX6_isLegLeft_13 rfl (lv_at hl 0 rfl) ?_
    refine gf_M0_lineOfLeg hC hG (hC.2.2.2.2 _ w106) dX6_isLegLeft_14 ?_
    refine lv_iload_n hx hb dX6_isLegLeft_17 rfl (lv_at hl 1 rfl) ?_
    refine al_M0_lineOfLeg hC hG (by omega) dX6_isLegLeft_18 ?_
    refine lv_iconst (v := -1) hx hb dX6_isLegLeft_19 (by decide) ?_
    refine bo_ne (tgt := 38) hx hb (by intro j9 e9; have := k2 j9 e9; omega) dX6_isLegLeft_20 (by decide) (fun h20 => ?_) (fun h20 => ?_)
    · refine lv_iconst (v := nI 0) hx hb dX6_isLegLeft_38 (by decide) ?_
      exact te_z (v := false) hC hG hr hk ⟨(congrArg bI (show false = fLegLeft 0 u g w from by simp [fLegLeft, mLo, h10, h20])), rfl⟩ dX6_isLegLeft_39
    · refine lv_aload_n hx hb dX6_isLegLeft_23 rfl (lv_at hl 0 rfl) ?_
      refine gf_M0_journal hC hG (hC.2.2.2.2 _ w109) dX6_isLegLeft_24 ?_
      refine lv_iload_n hx hb dX6_isLegLeft_27 rfl (lv_at hl 1 rfl) ?_
      refine k_J_counts hC hG g (by omega) (by omega) w339 ⟨by decide, by decide⟩ hl.1 (Nat.le_of_ble_eq_true rfl) dX6_isLegLeft_28 ⟨Nat.zero_le _, Nat.zero_le _⟩ (fun H locs hG => ?_)
      refine bb_eq (tgt := 38) hx hb dX6_isLegLeft_31 (by decide) (fun h31 => ?_) (fun h31 => ?_)
      · refine lv_iconst (v := nI 0) hx hb dX6_isLegLeft_38 (by decide) ?_
        exact te_z (v := false) hC hG hr hk ⟨(congrArg bI (show false = fLegLeft 0 u g w from by simp [fLegLeft, mLo, h10, h20, h31])), rfl⟩ dX6_isLegLeft_39
      · refine lv_iconst (v := nI 1) hx hb dX6_isLegLeft_34 (by decide) ?_
        refine lv_goto (tgt := 39) hx hb dX6_isLegLeft_35 (by decide) ?_
        exact te_z (v := true) hC hG hr hk ⟨(congrArg bI (show true = fLegLeft 0 u g w from by simp [fLegLeft, mLo, h10, h20, h31])), rfl⟩ dX6_isLegLeft_39
theorem k_M0_isLegLeft {p : Program} {l : Launch} {e : Env} {R : Room} {s : State} {m : MethodId} {args : Array Value} {below : List Frame} {meth : Method} {c : Code} {H : Heap} {locs : List Loc} {cs ss : Nat} {Q : State → Prop} {cc : ByteArray} {nL pc : Nat} {ls : Array Slot} {rest : List Value} {own : String} {idx : Nat} {D : va_G} {κ : ClassId × ClassId × ClassId} {a : Nat → Nat} {u : TS} {A : Nat → Prop} (hC : CallFix p m c cc nL s args WALL own) (hG : GW D κ a u A s H locs) (g : Nat) (w : Nat) (q1 : OK u) (q2 : g < J_legCount u) (q3 : w < 600) (wl : Cond.methodLink own idx yX6_isLegLeft ∈ WALL) (hR : 1 + 1 ≤ R.frames ∧ 8 + (3 + 11) + 21 ≤ R.locals) (hls : ls.size = nL) (h8 : (rest.map fun v => v.category).sum ≤ 8) (hd : decode cc pc = .ok (.invokevirtual idx, 3)) (hcs : cs ≤ R.cells ∧ ss ≤ R.slots) (kk : ∀ (H1 : Heap) (locs1 : List Loc), GW D κ a u A s H1 locs1 → W p l e R s m args below meth c H1 locs1 cs ss Q (F0 m (pc + 3) ls (.int (bI (fLegLeft 0 u g w)) :: rest))) : W p l e R s m args below meth c H locs cs ss Q (F0 m pc ls (.int (nI w) :: .int (nI g) :: .ref (a 8) :: rest)) :=
  tc_i hG (tr_V (n := 2) (k := 8) (ci := 6) (As := [.int (nI g), .int (nI w)]) hC hG (c_M0_isLegLeft l D κ a H.size u g w q1 q2 q3) rfl rfl wl w35 w337 w335 w336 (by decide +kernel) hR rfl hls rfl h8 hd hcs) (fun r u' H1 locs1 hq hG1 => by obtain ⟨rfl, rfl⟩ := hq; exact kk H1 locs1 hG1)

theorem dX6_away_0 : decode cX6_away 0 = .ok (.aload_n 0, 1) := by decide +kernel
theorem dX6_away_1 : decode cX6_away 1 = .ok (.getfield 21, 3) := by decide +kernel
theorem dX6_away_12 : decode cX6_away 12 = .ok (.getfield 73, 3) := by decide +kernel
theorem dX6_away_15 : decode cX6_away 15 = .ok (.iload_n 2, 1) := by decide +kernel
theorem dX6_away_16 : decode cX6_away 16 = .ok (.iaload, 1) := by decide +kernel
theorem dX6_away_17 : decode cX6_away 17 = .ok (.isub, 1) := by decide +kernel
theorem dX6_away_18 : decode cX6_away 18 = .ok (.invokestatic 76, 3) := by decide +kernel
theorem dX6_away_21 : decode cX6_away 21 = .ok (.ireturn, 1) := by decide +kernel
theorem dX6_away_4 : decode cX6_away 4 = .ok (.iload_n 1, 1) := by decide +kernel
theorem dX6_away_5 : decode cX6_away 5 = .ok (.invokevirtual 70, 3) := by decide +kernel
theorem dX6_away_8 : decode cX6_away 8 = .ok (.aload_n 0, 1) := by decide +kernel
theorem dX6_away_9 : decode cX6_away 9 = .ok (.getfield 25, 3) := by decide +kernel
set_option maxHeartbeats 4000000 in
set_option maxRecDepth 100000 in
theorem c_M0_away (l : Launch) (D : va_G) (κ : ClassId × ClassId × ClassId) (a : Nat → Nat) (sz : Nat) (u : TS) (g : Nat) (x : Nat) (q1 : OK u) (q2 : g < J_legCount u) (q3 : x < LI_count u) : TM l yX6_away cX6_away 3 (some .int) 1 21 D κ a u sz [.ref (a 8), .int (nI g), .int (nI x)] (QI D κ a sz (fun r u' => r = (nI (fAway u g x)) ∧ u' = u)) := by
  refine TM.of (by decide +kernel) (Nat.le_of_ble_eq_true rfl) ?_
  intro p e s m below meth c ls hC hr hk hsz H locs hG hl
  have hx := hC.1
  have hb := hC.2.1
  have hl : lv_has ls 3 [(0, .ref (a 8)), (1, .int (nI g)), (2, .int (nI x))] := hl
  have qok := q1
  have ⟨n1, n2, n3, n4, n5, n6, n7, n8, n9, n10⟩ := qok.n
  have k1 := q1.leg q2
  have k2 := q1.line q3
  have k3 := q1.ent k1.1
  have k4 : fDayOf u g ≤ 364 := k3.2.1
  refine lv_aload_n hx hb dX6_away_0 rfl (lv_at hl 0 rfl) ?_
  refine gf_M0_journal hC hG (hC.2.2.2.2 _ w109) dX6_away_1 ?_
  refine lv_iload_n hx hb dX6_away_4 rfl (lv_at hl 1 rfl) ?_
  refine k_J_dayOf hC hG g (by omega) (by omega) w348 ⟨by decide, by decide⟩ hl.1 (Nat.le_of_ble_eq_true rfl) dX6_away_5 ⟨Nat.zero_le _, Nat.zero_le _⟩ (fun H locs hG => ?_)
  refine lv_aload_n hx hb dX6_away_8 rfl (lv_at hl 0 rfl) ?_
  refine gf_M0_lines hC hG (hC.2.2.2.2 _ w110) dX6_away_9 ?_
  refine gf_LI_day hC hG (hC.2.2.2.2 _ w344) dX6_away_12 ?_
  refine lv_iload_n hx hb dX6_away_15 rfl (lv_at hl 2 rfl) ?_
  refine al_LI_day hC hG (by omega) dX6_away_16 ?_
  refine lv_isub hx hb dX6_away_17 ?_
  refine va_mabs hx hb (hC.2.2.1.trans hl.1.symm) hC.2.2.2.1 (hC.2.2.2.2 _ w345) (hC.2.2.2.2 _ w346) (hC.2.2.2.2 _ w5) (hC.2.2.2.2 _ w347) (by decide) (by decide) (Nat.zero_le _) (Nat.zero_le _) dX6_away_18 ?_
  rw [absd_eq (by omega) (by omega)]
  refine W.eq (g2 := F0 m 21 ls [.int (nI (fAway u g x))]) rfl ?_
  exact te_i (v := (nI (fAway u g x))) hC hG hr hk ⟨rfl, rfl⟩ dX6_away_21
theorem k_M0_away {p : Program} {l : Launch} {e : Env} {R : Room} {s : State} {m : MethodId} {args : Array Value} {below : List Frame} {meth : Method} {c : Code} {H : Heap} {locs : List Loc} {cs ss : Nat} {Q : State → Prop} {cc : ByteArray} {nL pc : Nat} {ls : Array Slot} {rest : List Value} {own : String} {idx : Nat} {D : va_G} {κ : ClassId × ClassId × ClassId} {a : Nat → Nat} {u : TS} {A : Nat → Prop} (hC : CallFix p m c cc nL s args WALL own) (hG : GW D κ a u A s H locs) (g : Nat) (x : Nat) (q1 : OK u) (q2 : g < J_legCount u) (q3 : x < LI_count u) (wl : Cond.methodLink own idx yX6_away ∈ WALL) (hR : 1 + 1 ≤ R.frames ∧ 8 + (3 + 11) + 21 ≤ R.locals) (hls : ls.size = nL) (h8 : (rest.map fun v => v.category).sum ≤ 8) (hd : decode cc pc = .ok (.invokevirtual idx, 3)) (hcs : cs ≤ R.cells ∧ ss ≤ R.slots) (kk : ∀ (H1 : Heap) (locs1 : List Loc), GW D κ a u A s H1 locs1 → W p l e R s m args below meth c H1 locs1 cs ss Q (F0 m (pc + 3) ls (.int (nI (fAway u g x)) :: rest))) : W p l e R s m args below meth c H locs cs ss Q (F0 m pc ls (.int (nI x) :: .int (nI g) :: .ref (a 8) :: rest)) :=
  tc_i hG (tr_V (n := 2) (k := 8) (ci := 6) (As := [.int (nI g), .int (nI x)]) hC hG (c_M0_away l D κ a H.size u g x q1 q2 q3) rfl rfl wl w35 w343 w341 w342 (by decide +kernel) hR rfl hls rfl h8 hd hcs) (fun r u' H1 locs1 hq hG1 => by obtain ⟨rfl, rfl⟩ := hq; exact kk H1 locs1 hG1)

theorem dX6_isNearer_0 : decode cX6_isNearer 0 = .ok (.aload_n 0, 1) := by decide +kernel
theorem dX6_isNearer_1 : decode cX6_isNearer 1 = .ok (.iload_n 1, 1) := by decide +kernel
theorem dX6_isNearer_10 : decode cX6_isNearer 10 = .ok (.iload_n 3, 1) := by decide +kernel
theorem dX6_isNearer_11 : decode cX6_isNearer 11 = .ok (.invokevirtual 93, 3) := by decide +kernel
theorem dX6_isNearer_14 : decode cX6_isNearer 14 = .ok (.istore 5, 2) := by decide +kernel
theorem dX6_isNearer_16 : decode cX6_isNearer 16 = .ok (.iload 4, 2) := by decide +kernel
theorem dX6_isNearer_18 : decode cX6_isNearer 18 = .ok (.iload 5, 2) := by decide +kernel
theorem dX6_isNearer_2 : decode cX6_isNearer 2 = .ok (.iload_n 3, 1) := by decide +kernel
theorem dX6_isNearer_20 : decode cX6_isNearer 20 = .ok (.if_icmp .lt 29, 3) := by decide +kernel
theorem dX6_isNearer_23 : decode cX6_isNearer 23 = .ok (.iload 4, 2) := by decide +kernel
theorem dX6_isNearer_25 : decode cX6_isNearer 25 = .ok (.iload 5, 2) := by decide +kernel
theorem dX6_isNearer_27 : decode cX6_isNearer 27 = .ok (.if_icmp .ne 26, 3) := by decide +kernel
theorem dX6_isNearer_3 : decode cX6_isNearer 3 = .ok (.invokevirtual 93, 3) := by decide +kernel
theorem dX6_isNearer_30 : decode cX6_isNearer 30 = .ok (.aload_n 0, 1) := by decide +kernel
theorem dX6_isNearer_31 : decode cX6_isNearer 31 = .ok (.getfield 21, 3) := by decide +kernel
theorem dX6_isNearer_34 : decode cX6_isNearer 34 = .ok (.iload_n 1, 1) := by decide +kernel
theorem dX6_isNearer_35 : decode cX6_isNearer 35 = .ok (.invokevirtual 70, 3) := by decide +kernel
theorem dX6_isNearer_38 : decode cX6_isNearer 38 = .ok (.aload_n 0, 1) := by decide +kernel
theorem dX6_isNearer_39 : decode cX6_isNearer 39 = .ok (.getfield 21, 3) := by decide +kernel
theorem dX6_isNearer_42 : decode cX6_isNearer 42 = .ok (.iload_n 2, 1) := by decide +kernel
theorem dX6_isNearer_43 : decode cX6_isNearer 43 = .ok (.invokevirtual 70, 3) := by decide +kernel
theorem dX6_isNearer_46 : decode cX6_isNearer 46 = .ok (.if_icmp .ge 7, 3) := by decide +kernel
theorem dX6_isNearer_49 : decode cX6_isNearer 49 = .ok (.iconst 1, 1) := by decide +kernel
theorem dX6_isNearer_50 : decode cX6_isNearer 50 = .ok (.goto 4, 3) := by decide +kernel
theorem dX6_isNearer_53 : decode cX6_isNearer 53 = .ok (.iconst 0, 1) := by decide +kernel
theorem dX6_isNearer_54 : decode cX6_isNearer 54 = .ok (.ireturn, 1) := by decide +kernel
theorem dX6_isNearer_6 : decode cX6_isNearer 6 = .ok (.istore 4, 2) := by decide +kernel
theorem dX6_isNearer_8 : decode cX6_isNearer 8 = .ok (.aload_n 0, 1) := by decide +kernel
theorem dX6_isNearer_9 : decode cX6_isNearer 9 = .ok (.iload_n 2, 1) := by decide +kernel
set_option maxHeartbeats 4000000 in
set_option maxRecDepth 100000 in
theorem c_M0_isNearer (l : Launch) (D : va_G) (κ : ClassId × ClassId × ClassId) (a : Nat → Nat) (sz : Nat) (u : TS) (g : Nat) (o : Nat) (x : Nat) (q1 : OK u) (q2 : g < J_legCount u) (q3 : o < J_legCount u) (q4 : x < LI_count u) : TM l yX6_isNearer cX6_isNearer 6 (some .boolean) 2 43 D κ a u sz [.ref (a 8), .int (nI g), .int (nI o), .int (nI x)] (QI D κ a sz (fun r u' => r = (bI (fNear u g o x)) ∧ u' = u)) := by
  refine TM.of (by decide +kernel) (Nat.le_of_ble_eq_true rfl) ?_
  intro p e s m below meth c ls hC hr hk hsz H locs hG hl
  have hx := hC.1
  have hb := hC.2.1
  have hl : lv_has ls 6 [(0, .ref (a 8)), (1, .int (nI g)), (2, .int (nI o)), (3, .int (nI x))] := hl
  have qok := q1
  have ⟨n1, n2, n3, n4, n5, n6, n7, n8, n9, n10⟩ := qok.n
  have k1 := q1.leg q2
  have k2 := q1.leg q3
  have k3 := q1.line q4
  have k4 := q1.ent k1.1
  have k5 := q1.ent k2.1
  have k6 : fDayOf u g ≤ 364 := k4.2.1
  have k7 : fDayOf u o ≤ 364 := k5.2.1
  have k8 : fAway u g x ≤ 364 := by unfold fAway; split <;> omega
  have k9 : fAway u o x ≤ 364 := by unfold fAway; split <;> omega
  refine lv_aload_n hx hb dX6_isNearer_0 rfl (lv_at hl 0 rfl) ?_
  refine lv_iload_n hx hb dX6_isNearer_1 rfl (lv_at hl 1 rfl) ?_
  refine lv_iload_n hx hb dX6_isNearer_2 rfl (lv_at hl 3 rfl) ?_
  refine k_M0_away hC hG g x (q1) (q2) (q4) w340 ⟨by decide, by decide⟩ hl.1 (Nat.le_of_ble_eq_true rfl) dX6_isNearer_3 ⟨Nat.zero_le _, Nat.zero_le _⟩ (fun H locs hG => ?_)
  refine lv_istore (lv' := [(4, .int (nI (fAway u g x))), (0, .ref (a 8)), (1, .int (nI g)), (2, .int (nI o)), (3, .int (nI x))]) hx hb dX6_isNearer_6 hl (by decide) rfl (fun ls hl => ?_)
  refine lv_aload_n hx hb dX6_isNearer_8 rfl (lv_at hl 1 rfl) ?_
  refine lv_iload_n hx hb dX6_isNearer_9 rfl (lv_at hl 3 rfl) ?_
  refine lv_iload_n hx hb dX6_isNearer_10 rfl (lv_at hl 4 rfl) ?_
  refine k_M0_away hC hG o x (q1) (q3) (q4) w340 ⟨by decide, by decide⟩ hl.1 (Nat.le_of_ble_eq_true rfl) dX6_isNearer_11 ⟨Nat.zero_le _, Nat.zero_le _⟩ (fun H locs hG => ?_)
  refine lv_istore (lv' := [(5, .int (nI (fAway u o x))), (4, .int (nI (fAway u g x))), (0, .ref (a 8)), (1, .int (nI g)), (2, .int (nI o)), (3, .int (nI x))]) hx hb dX6_isNearer_14 hl (by decide) rfl (fun ls hl => ?_)
  refine lv_iload hx hb dX6_isNearer_16 (lv_at hl 1 rfl) ?_
  refine lv_iload hx hb dX6_isNearer_18 (lv_at hl 0 rfl) ?_
  refine bn_lt (tgt := 49) hx hb (by omega) (by omega) dX6_isNearer_20 (by decide) (fun h20 => ?_) (fun h20 => ?_)
  · refine lv_iconst (v := nI 1) hx hb dX6_isNearer_49 (by decide) ?_
    refine lv_goto (tgt := 54) hx hb dX6_isNearer_50 (by decide) ?_
    exact te_z (v := true) hC hG hr hk ⟨(congrArg bI (show true = fNear u g o x from by simp [fNear, h20]; try omega)), rfl⟩ dX6_isNearer_54
  · refine lv_iload hx hb dX6_isNearer_23 (lv_at hl 1 rfl) ?_
    refine lv_iload hx hb dX6_isNearer_25 (lv_at hl 0 rfl) ?_
    refine bn_ne (tgt := 53) hx hb (by omega) (by omega) dX6_isNearer_27 (by decide) (fun h27 => ?_) (fun h27 => ?_)
    · refine lv_iconst (v := nI 0) hx hb dX6_isNearer_53 (by decide) ?_
      exact te_z (v := false) hC hG hr hk ⟨(congrArg bI (show false = fNear u g o x from by simp [fNear, h20, h27]; try omega)), rfl⟩ dX6_isNearer_54
    · refine lv_aload_n hx hb dX6_isNearer_30 rfl (lv_at hl 2 rfl) ?_
      refine gf_M0_journal hC hG (hC.2.2.2.2 _ w109) dX6_isNearer_31 ?_
      refine lv_iload_n hx hb dX6_isNearer_34 rfl (lv_at hl 3 rfl) ?_
      refine k_J_dayOf hC hG g (by omega) (by omega) w348 ⟨by decide, by decide⟩ hl.1 (Nat.le_of_ble_eq_true rfl) dX6_isNearer_35 ⟨Nat.zero_le _, Nat.zero_le _⟩ (fun H locs hG => ?_)
      refine lv_aload_n hx hb dX6_isNearer_38 rfl (lv_at hl 2 rfl) ?_
      refine gf_M0_journal hC hG (hC.2.2.2.2 _ w109) dX6_isNearer_39 ?_
      refine lv_iload_n hx hb dX6_isNearer_42 rfl (lv_at hl 4 rfl) ?_
      refine k_J_dayOf hC hG o (by omega) (by omega) w348 ⟨by decide, by decide⟩ hl.1 (Nat.le_of_ble_eq_true rfl) dX6_isNearer_43 ⟨Nat.zero_le _, Nat.zero_le _⟩ (fun H locs hG => ?_)
      refine bn_ge (tgt := 53) hx hb (by omega) (by omega) dX6_isNearer_46 (by decide) (fun h46 => ?_) (fun h46 => ?_)
      · refine lv_iconst (v := nI 0) hx hb dX6_isNearer_53 (by decide) ?_
        exact te_z (v := false) hC hG hr hk ⟨(congrArg bI (show false = fNear u g o x from by simp [fNear, h20, h27, h46]; try omega)), rfl⟩ dX6_isNearer_54
      · refine lv_iconst (v := nI 1) hx hb dX6_isNearer_49 (by decide) ?_
        refine lv_goto (tgt := 54) hx hb dX6_isNearer_50 (by decide) ?_
        exact te_z (v := true) hC hG hr hk ⟨(congrArg bI (show true = fNear u g o x from by simp [fNear, h20, h27, h46]; try omega)), rfl⟩ dX6_isNearer_54
theorem k_M0_isNearer {p : Program} {l : Launch} {e : Env} {R : Room} {s : State} {m : MethodId} {args : Array Value} {below : List Frame} {meth : Method} {c : Code} {H : Heap} {locs : List Loc} {cs ss : Nat} {Q : State → Prop} {cc : ByteArray} {nL pc : Nat} {ls : Array Slot} {rest : List Value} {own : String} {idx : Nat} {D : va_G} {κ : ClassId × ClassId × ClassId} {a : Nat → Nat} {u : TS} {A : Nat → Prop} (hC : CallFix p m c cc nL s args WALL own) (hG : GW D κ a u A s H locs) (g : Nat) (o : Nat) (x : Nat) (q1 : OK u) (q2 : g < J_legCount u) (q3 : o < J_legCount u) (q4 : x < LI_count u) (wl : Cond.methodLink own idx yX6_isNearer ∈ WALL) (hR : 2 + 1 ≤ R.frames ∧ 8 + (6 + 11) + 43 ≤ R.locals) (hls : ls.size = nL) (h8 : (rest.map fun v => v.category).sum ≤ 8) (hd : decode cc pc = .ok (.invokevirtual idx, 3)) (hcs : cs ≤ R.cells ∧ ss ≤ R.slots) (kk : ∀ (H1 : Heap) (locs1 : List Loc), GW D κ a u A s H1 locs1 → W p l e R s m args below meth c H1 locs1 cs ss Q (F0 m (pc + 3) ls (.int (bI (fNear u g o x)) :: rest))) : W p l e R s m args below meth c H locs cs ss Q (F0 m pc ls (.int (nI x) :: .int (nI o) :: .int (nI g) :: .ref (a 8) :: rest)) :=
  tc_i hG (tr_V (n := 3) (k := 8) (ci := 6) (As := [.int (nI g), .int (nI o), .int (nI x)]) hC hG (c_M0_isNearer l D κ a H.size u g o x q1 q2 q3 q4) rfl rfl wl w35 w352 w350 w351 (by decide +kernel) hR rfl hls rfl h8 hd hcs) (fun r u' H1 locs1 hq hG1 => by obtain ⟨rfl, rfl⟩ := hq; exact kk H1 locs1 hG1)

theorem dX6_bind_0 : decode cX6_bind 0 = .ok (.aload_n 0, 1) := by decide +kernel
theorem dX6_bind_1 : decode cX6_bind 1 = .ok (.getfield 15, 3) := by decide +kernel
theorem dX6_bind_11 : decode cX6_bind 11 = .ok (.iload_n 1, 1) := by decide +kernel
theorem dX6_bind_12 : decode cX6_bind 12 = .ok (.iload_n 3, 1) := by decide +kernel
theorem dX6_bind_13 : decode cX6_bind 13 = .ok (.iastore, 1) := by decide +kernel
theorem dX6_bind_14 : decode cX6_bind 14 = .ok (.aload_n 0, 1) := by decide +kernel
theorem dX6_bind_15 : decode cX6_bind 15 = .ok (.getfield 9, 3) := by decide +kernel
theorem dX6_bind_18 : decode cX6_bind 18 = .ok (.iload_n 2, 1) := by decide +kernel
theorem dX6_bind_19 : decode cX6_bind 19 = .ok (.iload_n 1, 1) := by decide +kernel
theorem dX6_bind_20 : decode cX6_bind 20 = .ok (.iastore, 1) := by decide +kernel
theorem dX6_bind_21 : decode cX6_bind 21 = .ok (.iload_n 3, 1) := by decide +kernel
theorem dX6_bind_22 : decode cX6_bind 22 = .ok (.iconst (-1), 1) := by decide +kernel
theorem dX6_bind_23 : decode cX6_bind 23 = .ok (.if_icmp .eq 10, 3) := by decide +kernel
theorem dX6_bind_26 : decode cX6_bind 26 = .ok (.aload_n 0, 1) := by decide +kernel
theorem dX6_bind_27 : decode cX6_bind 27 = .ok (.getfield 9, 3) := by decide +kernel
theorem dX6_bind_30 : decode cX6_bind 30 = .ok (.iload_n 3, 1) := by decide +kernel
theorem dX6_bind_31 : decode cX6_bind 31 = .ok (.iload_n 1, 1) := by decide +kernel
theorem dX6_bind_32 : decode cX6_bind 32 = .ok (.iastore, 1) := by decide +kernel
theorem dX6_bind_33 : decode cX6_bind 33 = .ok (.return_, 1) := by decide +kernel
theorem dX6_bind_4 : decode cX6_bind 4 = .ok (.iload_n 1, 1) := by decide +kernel
theorem dX6_bind_5 : decode cX6_bind 5 = .ok (.iload_n 2, 1) := by decide +kernel
theorem dX6_bind_6 : decode cX6_bind 6 = .ok (.iastore, 1) := by decide +kernel
theorem dX6_bind_7 : decode cX6_bind 7 = .ok (.aload_n 0, 1) := by decide +kernel
theorem dX6_bind_8 : decode cX6_bind 8 = .ok (.getfield 18, 3) := by decide +kernel
set_option maxHeartbeats 4000000 in
set_option maxRecDepth 100000 in
theorem c_M0_bind (l : Launch) (D : va_G) (κ : ClassId × ClassId × ClassId) (a : Nat → Nat) (sz : Nat) (u : TS) (x : Nat) (f : Nat) (sc : Option Nat) (q1 : OK u) (q2 : x < LI_count u) (q3 : f < J_legCount u) (q4 : ∀ g, sc = some g → g < J_legCount u) : TM l yX6_bind cX6_bind 4 none 0 0 D κ a u sz [.ref (a 8), .int (nI x), .int (nI f), .int (oI sc)] (QV D κ a sz (fun u' => u' = fBind 0 u x f sc)) := by
  refine TM.of (by decide +kernel) (Nat.le_of_ble_eq_true rfl) ?_
  intro p e s m below meth c ls hC hr hk hsz H locs hG hl
  have hx := hC.1
  have hb := hC.2.1
  have hl : lv_has ls 4 [(0, .ref (a 8)), (1, .int (nI x)), (2, .int (nI f)), (3, .int (oI sc))] := hl
  have qok := q1
  have ⟨n1, n2, n3, n4, n5, n6, n7, n8, n9, n10⟩ := qok.n
  refine lv_aload_n hx hb dX6_bind_0 rfl (lv_at hl 0 rfl) ?_
  refine gf_M0_firstOfLine hC hG (hC.2.2.2.2 _ w107) dX6_bind_1 ?_
  refine lv_iload_n hx hb dX6_bind_4 rfl (lv_at hl 1 rfl) ?_
  refine lv_iload_n hx hb dX6_bind_5 rfl (lv_at hl 2 rfl) ?_
  refine W.eq (g2 := F0 m 6 ls [.int (oI (some f)), .int (nI x), .ref (a 40)]) rfl ?_
  refine as_M0_firstOfLine hC hG (by omega) dX6_bind_6 (fun H locs hG => ?_)
  refine lv_aload_n hx hb dX6_bind_7 rfl (lv_at hl 0 rfl) ?_
  refine gf_M0_secondOfLine hC hG (hC.2.2.2.2 _ w108) dX6_bind_8 ?_
  refine lv_iload_n hx hb dX6_bind_11 rfl (lv_at hl 1 rfl) ?_
  refine lv_iload_n hx hb dX6_bind_12 rfl (lv_at hl 3 rfl) ?_
  refine as_M0_secondOfLine hC hG (by omega) dX6_bind_13 (fun H locs hG => ?_)
  refine lv_aload_n hx hb dX6_bind_14 rfl (lv_at hl 0 rfl) ?_
  refine gf_M0_lineOfLeg hC hG (hC.2.2.2.2 _ w106) dX6_bind_15 ?_
  refine lv_iload_n hx hb dX6_bind_18 rfl (lv_at hl 2 rfl) ?_
  refine lv_iload_n hx hb dX6_bind_19 rfl (lv_at hl 1 rfl) ?_
  refine W.eq (g2 := F0 m 20 ls [.int (oI (some x)), .int (nI f), .ref (a 39)]) rfl ?_
  refine as_M0_lineOfLeg hC hG (by omega) dX6_bind_20 (fun H locs hG => ?_)
  refine lv_iload_n hx hb dX6_bind_21 rfl (lv_at hl 3 rfl) ?_
  refine lv_iconst (v := -1) hx hb dX6_bind_22 (by decide) ?_
  refine bo_eq (tgt := 33) hx hb (by intro j9 e9; have := q4 j9 e9; omega) dX6_bind_23 (by decide) (fun h23 => ?_) (fun h23 => ?_)
  · exact te_v hC hG hr hk (by subst h23; rfl) dX6_bind_33
  · obtain ⟨j, rfl⟩ := Option.ne_none_iff_exists'.mp h23
    have k1 := q4 j rfl
    have hl : lv_has ls 4 [(0, .ref (a 8)), (1, .int (nI x)), (2, .int (nI f)), (3, .int (nI j))] := hl
    refine lv_aload_n hx hb dX6_bind_26 rfl (lv_at hl 0 rfl) ?_
    refine gf_M0_lineOfLeg hC hG (hC.2.2.2.2 _ w106) dX6_bind_27 ?_
    refine lv_iload_n hx hb dX6_bind_30 rfl (lv_at hl 3 rfl) ?_
    refine lv_iload_n hx hb dX6_bind_31 rfl (lv_at hl 1 rfl) ?_
    refine W.eq (g2 := F0 m 32 ls [.int (oI (some x)), .int (nI j), .ref (a 39)]) rfl ?_
    refine as_M0_lineOfLeg hC hG (by omega) dX6_bind_32 (fun H locs hG => ?_)
    exact te_v hC hG hr hk (by rfl) dX6_bind_33
theorem k_M0_bind {p : Program} {l : Launch} {e : Env} {R : Room} {s : State} {m : MethodId} {args : Array Value} {below : List Frame} {meth : Method} {c : Code} {H : Heap} {locs : List Loc} {cs ss : Nat} {Q : State → Prop} {cc : ByteArray} {nL pc : Nat} {ls : Array Slot} {rest : List Value} {own : String} {idx : Nat} {D : va_G} {κ : ClassId × ClassId × ClassId} {a : Nat → Nat} {u : TS} {A : Nat → Prop} (hC : CallFix p m c cc nL s args WALL own) (hG : GW D κ a u A s H locs) (x : Nat) (f : Nat) (sc : Option Nat) (q1 : OK u) (q2 : x < LI_count u) (q3 : f < J_legCount u) (q4 : ∀ g, sc = some g → g < J_legCount u) (wl : Cond.methodLink own idx yX6_bind ∈ WALL) (hR : 0 + 1 ≤ R.frames ∧ 8 + (4 + 11) + 0 ≤ R.locals) (hls : ls.size = nL) (h8 : (rest.map fun v => v.category).sum ≤ 8) (hd : decode cc pc = .ok (.invokevirtual idx, 3)) (hcs : cs ≤ R.cells ∧ ss ≤ R.slots) (kk : ∀ (H1 : Heap) (locs1 : List Loc), GW D κ a (fBind 0 u x f sc) A s H1 locs1 → W p l e R s m args below meth c H1 locs1 cs ss Q (F0 m (pc + 3) ls (rest))) : W p l e R s m args below meth c H locs cs ss Q (F0 m pc ls (.int (oI sc) :: .int (nI f) :: .int (nI x) :: .ref (a 8) :: rest)) :=
  tc_v hG (tr_V (n := 3) (k := 8) (ci := 6) (As := [.int (nI x), .int (nI f), .int (oI sc)]) hC hG (c_M0_bind l D κ a H.size u x f sc q1 q2 q3 q4) rfl rfl wl w35 w356 w354 w355 (by decide +kernel) hR rfl hls rfl h8 hd hcs) (fun u' H1 locs1 hq hG1 => by subst hq; exact kk H1 locs1 hG1)

theorem dX6_freeLine_0 : decode cX6_freeLine 0 = .ok (.aload_n 0, 1) := by decide +kernel
theorem dX6_freeLine_1 : decode cX6_freeLine 1 = .ok (.getfield 15, 3) := by decide +kernel
theorem dX6_freeLine_10 : decode cX6_freeLine 10 = .ok (.aload_n 0, 1) := by decide +kernel
theorem dX6_freeLine_11 : decode cX6_freeLine 11 = .ok (.getfield 9, 3) := by decide +kernel
theorem dX6_freeLine_14 : decode cX6_freeLine 14 = .ok (.aload_n 0, 1) := by decide +kernel
theorem dX6_freeLine_15 : decode cX6_freeLine 15 = .ok (.getfield 15, 3) := by decide +kernel
theorem dX6_freeLine_18 : decode cX6_freeLine 18 = .ok (.iload_n 1, 1) := by decide +kernel
theorem dX6_freeLine_19 : decode cX6_freeLine 19 = .ok (.iaload, 1) := by decide +kernel
theorem dX6_freeLine_20 : decode cX6_freeLine 20 = .ok (.iconst (-1), 1) := by decide +kernel
theorem dX6_freeLine_21 : decode cX6_freeLine 21 = .ok (.iastore, 1) := by decide +kernel
theorem dX6_freeLine_22 : decode cX6_freeLine 22 = .ok (.aload_n 0, 1) := by decide +kernel
theorem dX6_freeLine_23 : decode cX6_freeLine 23 = .ok (.getfield 18, 3) := by decide +kernel
theorem dX6_freeLine_26 : decode cX6_freeLine 26 = .ok (.iload_n 1, 1) := by decide +kernel
theorem dX6_freeLine_27 : decode cX6_freeLine 27 = .ok (.iaload, 1) := by decide +kernel
theorem dX6_freeLine_28 : decode cX6_freeLine 28 = .ok (.iconst (-1), 1) := by decide +kernel
theorem dX6_freeLine_29 : decode cX6_freeLine 29 = .ok (.if_icmp .eq 15, 3) := by decide +kernel
theorem dX6_freeLine_32 : decode cX6_freeLine 32 = .ok (.aload_n 0, 1) := by decide +kernel
theorem dX6_freeLine_33 : decode cX6_freeLine 33 = .ok (.getfield 9, 3) := by decide +kernel
theorem dX6_freeLine_36 : decode cX6_freeLine 36 = .ok (.aload_n 0, 1) := by decide +kernel
theorem dX6_freeLine_37 : decode cX6_freeLine 37 = .ok (.getfield 18, 3) := by decide +kernel
theorem dX6_freeLine_4 : decode cX6_freeLine 4 = .ok (.iload_n 1, 1) := by decide +kernel
theorem dX6_freeLine_40 : decode cX6_freeLine 40 = .ok (.iload_n 1, 1) := by decide +kernel
theorem dX6_freeLine_41 : decode cX6_freeLine 41 = .ok (.iaload, 1) := by decide +kernel
theorem dX6_freeLine_42 : decode cX6_freeLine 42 = .ok (.iconst (-1), 1) := by decide +kernel
theorem dX6_freeLine_43 : decode cX6_freeLine 43 = .ok (.iastore, 1) := by decide +kernel
theorem dX6_freeLine_44 : decode cX6_freeLine 44 = .ok (.aload_n 0, 1) := by decide +kernel
theorem dX6_freeLine_45 : decode cX6_freeLine 45 = .ok (.getfield 15, 3) := by decide +kernel
theorem dX6_freeLine_48 : decode cX6_freeLine 48 = .ok (.iload_n 1, 1) := by decide +kernel
theorem dX6_freeLine_49 : decode cX6_freeLine 49 = .ok (.iconst (-1), 1) := by decide +kernel
theorem dX6_freeLine_5 : decode cX6_freeLine 5 = .ok (.iaload, 1) := by decide +kernel
theorem dX6_freeLine_50 : decode cX6_freeLine 50 = .ok (.iastore, 1) := by decide +kernel
theorem dX6_freeLine_51 : decode cX6_freeLine 51 = .ok (.aload_n 0, 1) := by decide +kernel
theorem dX6_freeLine_52 : decode cX6_freeLine 52 = .ok (.getfield 18, 3) := by decide +kernel
theorem dX6_freeLine_55 : decode cX6_freeLine 55 = .ok (.iload_n 1, 1) := by decide +kernel
theorem dX6_freeLine_56 : decode cX6_freeLine 56 = .ok (.iconst (-1), 1) := by decide +kernel
theorem dX6_freeLine_57 : decode cX6_freeLine 57 = .ok (.iastore, 1) := by decide +kernel
theorem dX6_freeLine_58 : decode cX6_freeLine 58 = .ok (.return_, 1) := by decide +kernel
theorem dX6_freeLine_6 : decode cX6_freeLine 6 = .ok (.iconst (-1), 1) := by decide +kernel
theorem dX6_freeLine_7 : decode cX6_freeLine 7 = .ok (.if_icmp .eq 15, 3) := by decide +kernel
set_option maxHeartbeats 4000000 in
set_option maxRecDepth 100000 in
theorem c_M0_freeLine (l : Launch) (D : va_G) (κ : ClassId × ClassId × ClassId) (a : Nat → Nat) (sz : Nat) (u : TS) (x : Nat) (q1 : OK u) (q2 : x < LI_count u) : TM l yX6_freeLine cX6_freeLine 2 none 0 0 D κ a u sz [.ref (a 8), .int (nI x)] (QV D κ a sz (fun u' => u' = fFree 0 u x)) := by
  refine TM.of (by decide +kernel) (Nat.le_of_ble_eq_true rfl) ?_
  intro p e s m below meth c ls hC hr hk hsz H locs hG hl
  have hx := hC.1
  have hb := hC.2.1
  have hl : lv_has ls 2 [(0, .ref (a 8)), (1, .int (nI x))] := hl
  have qok := q1
  have ⟨n1, n2, n3, n4, n5, n6, n7, n8, n9, n10⟩ := qok.n
  have k1 := (q1.m0).2.1 x
  have k2 := (q1.m0).2.2 x
  refine lv_aload_n hx hb dX6_freeLine_0 rfl (lv_at hl 0 rfl) ?_
  refine gf_M0_firstOfLine hC hG (hC.2.2.2.2 _ w107) dX6_freeLine_1 ?_
  refine lv_iload_n hx hb dX6_freeLine_4 rfl (lv_at hl 1 rfl) ?_
  refine al_M0_firstOfLine hC hG (by omega) dX6_freeLine_5 ?_
  refine lv_iconst (v := -1) hx hb dX6_freeLine_6 (by decide) ?_
  refine bo_eq (tgt := 22) hx hb (by intro j9 e9; have := k1 j9 e9; omega) dX6_freeLine_7 (by decide) (fun h7 => ?_) (fun h7 => ?_)
  · refine lv_aload_n hx hb dX6_freeLine_22 rfl (lv_at hl 0 rfl) ?_
    refine gf_M0_secondOfLine hC hG (hC.2.2.2.2 _ w108) dX6_freeLine_23 ?_
    refine lv_iload_n hx hb dX6_freeLine_26 rfl (lv_at hl 1 rfl) ?_
    refine al_M0_secondOfLine hC hG (by omega) dX6_freeLine_27 ?_
    refine lv_iconst (v := -1) hx hb dX6_freeLine_28 (by decide) ?_
    refine bo_eq (tgt := 44) hx hb (by intro j9 e9; have := k2 j9 e9; omega) dX6_freeLine_29 (by decide) (fun h29 => ?_) (fun h29 => ?_)
    · refine lv_aload_n hx hb dX6_freeLine_44 rfl (lv_at hl 0 rfl) ?_
      refine gf_M0_firstOfLine hC hG (hC.2.2.2.2 _ w107) dX6_freeLine_45 ?_
      refine lv_iload_n hx hb dX6_freeLine_48 rfl (lv_at hl 1 rfl) ?_
      refine lv_iconst (v := -1) hx hb dX6_freeLine_49 (by decide) ?_
      refine W.eq (g2 := F0 m 50 ls [.int (oI none), .int (nI x), .ref (a 40)]) rfl ?_
      refine as_M0_firstOfLine hC hG (by omega) dX6_freeLine_50 (fun H locs hG => ?_)
      refine lv_aload_n hx hb dX6_freeLine_51 rfl (lv_at hl 0 rfl) ?_
      refine gf_M0_secondOfLine hC hG (hC.2.2.2.2 _ w108) dX6_freeLine_52 ?_
      refine lv_iload_n hx hb dX6_freeLine_55 rfl (lv_at hl 1 rfl) ?_
      refine lv_iconst (v := -1) hx hb dX6_freeLine_56 (by decide) ?_
      refine W.eq (g2 := F0 m 57 ls [.int (oI none), .int (nI x), .ref (a 41)]) rfl ?_
      refine as_M0_secondOfLine hC hG (by omega) dX6_freeLine_57 (fun H locs hG => ?_)
      exact te_v hC hG hr hk (by unfold fFree; rw [show mFi 0 u x = _ from h7, show mSe 0 u x = _ from h29]; rfl) dX6_freeLine_58
    · obtain ⟨i, ei⟩ := Option.ne_none_iff_exists'.mp h29
      have bi := k2 i ei
      refine lv_aload_n hx hb dX6_freeLine_32 rfl (lv_at hl 0 rfl) ?_
      refine gf_M0_lineOfLeg hC hG (hC.2.2.2.2 _ w106) dX6_freeLine_33 ?_
      refine lv_aload_n hx hb dX6_freeLine_36 rfl (lv_at hl 0 rfl) ?_
      refine gf_M0_secondOfLine hC hG (hC.2.2.2.2 _ w108) dX6_freeLine_37 ?_
      refine lv_iload_n hx hb dX6_freeLine_40 rfl (lv_at hl 1 rfl) ?_
      refine al_M0_secondOfLine hC hG (by omega) dX6_freeLine_41 ?_
      rw [ei]
      refine W.eq (g2 := F0 m 42 ls [.int (nI i), .ref (a 39)]) rfl ?_
      refine lv_iconst (v := -1) hx hb dX6_freeLine_42 (by decide) ?_
      refine W.eq (g2 := F0 m 43 ls [.int (oI none), .int (nI i), .ref (a 39)]) rfl ?_
      refine as_M0_lineOfLeg hC hG (by omega) dX6_freeLine_43 (fun H locs hG => ?_)
      refine lv_aload_n hx hb dX6_freeLine_44 rfl (lv_at hl 0 rfl) ?_
      refine gf_M0_firstOfLine hC hG (hC.2.2.2.2 _ w107) dX6_freeLine_45 ?_
      refine lv_iload_n hx hb dX6_freeLine_48 rfl (lv_at hl 1 rfl) ?_
      refine lv_iconst (v := -1) hx hb dX6_freeLine_49 (by decide) ?_
      refine W.eq (g2 := F0 m 50 ls [.int (oI none), .int (nI x), .ref (a 40)]) rfl ?_
      refine as_M0_firstOfLine hC hG (by omega) dX6_freeLine_50 (fun H locs hG => ?_)
      refine lv_aload_n hx hb dX6_freeLine_51 rfl (lv_at hl 0 rfl) ?_
      refine gf_M0_secondOfLine hC hG (hC.2.2.2.2 _ w108) dX6_freeLine_52 ?_
      refine lv_iload_n hx hb dX6_freeLine_55 rfl (lv_at hl 1 rfl) ?_
      refine lv_iconst (v := -1) hx hb dX6_freeLine_56 (by decide) ?_
      refine W.eq (g2 := F0 m 57 ls [.int (oI none), .int (nI x), .ref (a 41)]) rfl ?_
      refine as_M0_secondOfLine hC hG (by omega) dX6_freeLine_57 (fun H locs hG => ?_)
      exact te_v hC hG hr hk (by unfold fFree; rw [show mFi 0 u x = _ from h7, show mSe 0 u x = _ from ei]; rfl) dX6_freeLine_58
  · obtain ⟨j, ej⟩ := Option.ne_none_iff_exists'.mp h7
    have bj := k1 j ej
    refine lv_aload_n hx hb dX6_freeLine_10 rfl (lv_at hl 0 rfl) ?_
    refine gf_M0_lineOfLeg hC hG (hC.2.2.2.2 _ w106) dX6_freeLine_11 ?_
    refine lv_aload_n hx hb dX6_freeLine_14 rfl (lv_at hl 0 rfl) ?_
    refine gf_M0_firstOfLine hC hG (hC.2.2.2.2 _ w107) dX6_freeLine_15 ?_
    refine lv_iload_n hx hb dX6_freeLine_18 rfl (lv_at hl 1 rfl) ?_
    refine al_M0_firstOfLine hC hG (by omega) dX6_freeLine_19 ?_
    rw [ej]
    refine W.eq (g2 := F0 m 20 ls [.int (nI j), .ref (a 39)]) rfl ?_
    refine lv_iconst (v := -1) hx hb dX6_freeLine_20 (by decide) ?_
    refine W.eq (g2 := F0 m 21 ls [.int (oI none), .int (nI j), .ref (a 39)]) rfl ?_
    refine as_M0_lineOfLeg hC hG (by omega) dX6_freeLine_21 (fun H locs hG => ?_)
    refine lv_aload_n hx hb dX6_freeLine_22 rfl (lv_at hl 0 rfl) ?_
    refine gf_M0_secondOfLine hC hG (hC.2.2.2.2 _ w108) dX6_freeLine_23 ?_
    refine lv_iload_n hx hb dX6_freeLine_26 rfl (lv_at hl 1 rfl) ?_
    refine al_M0_secondOfLine hC hG (by omega) dX6_freeLine_27 ?_
    refine W.eq (g2 := F0 m 28 ls [.int (oI (M0_secondOfLine u x))]) rfl ?_
    refine lv_iconst (v := -1) hx hb dX6_freeLine_28 (by decide) ?_
    refine bo_eq (tgt := 44) hx hb (by intro j9 e9; have := k2 j9 e9; omega) dX6_freeLine_29 (by decide) (fun h29 => ?_) (fun h29 => ?_)
    · refine lv_aload_n hx hb dX6_freeLine_44 rfl (lv_at hl 0 rfl) ?_
      refine gf_M0_firstOfLine hC hG (hC.2.2.2.2 _ w107) dX6_freeLine_45 ?_
      refine lv_iload_n hx hb dX6_freeLine_48 rfl (lv_at hl 1 rfl) ?_
      refine lv_iconst (v := -1) hx hb dX6_freeLine_49 (by decide) ?_
      refine W.eq (g2 := F0 m 50 ls [.int (oI none), .int (nI x), .ref (a 40)]) rfl ?_
      refine as_M0_firstOfLine hC hG (by omega) dX6_freeLine_50 (fun H locs hG => ?_)
      refine lv_aload_n hx hb dX6_freeLine_51 rfl (lv_at hl 0 rfl) ?_
      refine gf_M0_secondOfLine hC hG (hC.2.2.2.2 _ w108) dX6_freeLine_52 ?_
      refine lv_iload_n hx hb dX6_freeLine_55 rfl (lv_at hl 1 rfl) ?_
      refine lv_iconst (v := -1) hx hb dX6_freeLine_56 (by decide) ?_
      refine W.eq (g2 := F0 m 57 ls [.int (oI none), .int (nI x), .ref (a 41)]) rfl ?_
      refine as_M0_secondOfLine hC hG (by omega) dX6_freeLine_57 (fun H locs hG => ?_)
      exact te_v hC hG hr hk (by unfold fFree; rw [show mFi 0 u x = _ from ej, show mSe 0 u x = _ from h29]; rfl) dX6_freeLine_58
    · obtain ⟨i, ei⟩ := Option.ne_none_iff_exists'.mp h29
      have bi := k2 i ei
      refine lv_aload_n hx hb dX6_freeLine_32 rfl (lv_at hl 0 rfl) ?_
      refine gf_M0_lineOfLeg hC hG (hC.2.2.2.2 _ w106) dX6_freeLine_33 ?_
      refine lv_aload_n hx hb dX6_freeLine_36 rfl (lv_at hl 0 rfl) ?_
      refine gf_M0_secondOfLine hC hG (hC.2.2.2.2 _ w108) dX6_freeLine_37 ?_
      refine lv_iload_n hx hb dX6_freeLine_40 rfl (lv_at hl 1 rfl) ?_
      refine al_M0_secondOfLine hC hG (by omega) dX6_freeLine_41 ?_
      refine W.eq (g2 := F0 m 42 ls [.int (oI (M0_secondOfLine u x)), .ref (a 39)]) rfl ?_
      rw [ei]
      refine W.eq (g2 := F0 m 42 ls [.int (nI i), .ref (a 39)]) rfl ?_
      refine lv_iconst (v := -1) hx hb dX6_freeLine_42 (by decide) ?_
      refine W.eq (g2 := F0 m 43 ls [.int (oI none), .int (nI i), .ref (a 39)]) rfl ?_
      refine as_M0_lineOfLeg hC hG (by omega) dX6_freeLine_43 (fun H locs hG => ?_)
      refine lv_aload_n hx hb dX6_freeLine_44 rfl (lv_at hl 0 rfl) ?_
      refine gf_M0_firstOfLine hC hG (hC.2.2.2.2 _ w107) dX6_freeLine_45 ?_
      refine lv_iload_n hx hb dX6_freeLine_48 rfl (lv_at hl 1 rfl) ?_
      refine lv_iconst (v := -1) hx hb dX6_freeLine_49 (by decide) ?_
      refine W.eq (g2 := F0 m 50 ls [.int (oI none), .int (nI x), .ref (a 40)]) rfl ?_
      refine as_M0_firstOfLine hC hG (by omega) dX6_freeLine_50 (fun H locs hG => ?_)
      refine lv_aload_n hx hb dX6_freeLine_51 rfl (lv_at hl 0 rfl) ?_
      refine gf_M0_secondOfLine hC hG (hC.2.2.2.2 _ w108) dX6_freeLine_52 ?_
      refine lv_iload_n hx hb dX6_freeLine_55 rfl (lv_at hl 1 rfl) ?_
      refine lv_iconst (v := -1) hx hb dX6_freeLine_56 (by decide) ?_
      refine W.eq (g2 := F0 m 57 ls [.int (oI none), .int (nI x), .ref (a 41)]) rfl ?_
      refine as_M0_secondOfLine hC hG (by omega) dX6_freeLine_57 (fun H locs hG => ?_)
      exact te_v hC hG hr hk (by unfold fFree; rw [show mFi 0 u x = _ from ej, show mSe 0 u x = _ from ei]; rfl) dX6_freeLine_58
theorem k_M0_freeLine {p : Program} {l : Launch} {e : Env} {R : Room} {s : State} {m : MethodId} {args : Array Value} {below : List Frame} {meth : Method} {c : Code} {H : Heap} {locs : List Loc} {cs ss : Nat} {Q : State → Prop} {cc : ByteArray} {nL pc : Nat} {ls : Array Slot} {rest : List Value} {own : String} {idx : Nat} {D : va_G} {κ : ClassId × ClassId × ClassId} {a : Nat → Nat} {u : TS} {A : Nat → Prop} (hC : CallFix p m c cc nL s args WALL own) (hG : GW D κ a u A s H locs) (x : Nat) (q1 : OK u) (q2 : x < LI_count u) (wl : Cond.methodLink own idx yX6_freeLine ∈ WALL) (hR : 0 + 1 ≤ R.frames ∧ 8 + (2 + 11) + 0 ≤ R.locals) (hls : ls.size = nL) (h8 : (rest.map fun v => v.category).sum ≤ 8) (hd : decode cc pc = .ok (.invokevirtual idx, 3)) (hcs : cs ≤ R.cells ∧ ss ≤ R.slots) (kk : ∀ (H1 : Heap) (locs1 : List Loc), GW D κ a (fFree 0 u x) A s H1 locs1 → W p l e R s m args below meth c H1 locs1 cs ss Q (F0 m (pc + 3) ls (rest))) : W p l e R s m args below meth c H locs cs ss Q (F0 m pc ls (.int (nI x) :: .ref (a 8) :: rest)) :=
  tc_v hG (tr_V (n := 1) (k := 8) (ci := 6) (As := [.int (nI x)]) hC hG (c_M0_freeLine l D κ a H.size u x q1 q2) rfl rfl wl w35 w291 w289 w290 (by decide +kernel) hR rfl hls rfl h8 hd hcs) (fun u' H1 locs1 hq hG1 => by subst hq; exact kk H1 locs1 hG1)

theorem dX6_linesLeft_0 : decode cX6_linesLeft 0 = .ok (.iconst 0, 1) := by decide +kernel
theorem dX6_linesLeft_1 : decode cX6_linesLeft 1 = .ok (.istore_n 2, 1) := by decide +kernel
theorem dX6_linesLeft_12 : decode cX6_linesLeft 12 = .ok (.if_icmp .ge 21, 3) := by decide +kernel
theorem dX6_linesLeft_15 : decode cX6_linesLeft 15 = .ok (.aload_n 0, 1) := by decide +kernel
theorem dX6_linesLeft_16 : decode cX6_linesLeft 16 = .ok (.iload_n 3, 1) := by decide +kernel
theorem dX6_linesLeft_17 : decode cX6_linesLeft 17 = .ok (.iload_n 1, 1) := by decide +kernel
theorem dX6_linesLeft_18 : decode cX6_linesLeft 18 = .ok (.invokevirtual 45, 3) := by decide +kernel
theorem dX6_linesLeft_2 : decode cX6_linesLeft 2 = .ok (.iconst 0, 1) := by decide +kernel
theorem dX6_linesLeft_21 : decode cX6_linesLeft 21 = .ok (.ifCond .eq 6, 3) := by decide +kernel
theorem dX6_linesLeft_24 : decode cX6_linesLeft 24 = .ok (.iinc 2 1, 3) := by decide +kernel
theorem dX6_linesLeft_27 : decode cX6_linesLeft 27 = .ok (.iinc 3 1, 3) := by decide +kernel
theorem dX6_linesLeft_3 : decode cX6_linesLeft 3 = .ok (.istore_n 3, 1) := by decide +kernel
theorem dX6_linesLeft_30 : decode cX6_linesLeft 30 = .ok (.goto (-26), 3) := by decide +kernel
theorem dX6_linesLeft_33 : decode cX6_linesLeft 33 = .ok (.iload_n 2, 1) := by decide +kernel
theorem dX6_linesLeft_34 : decode cX6_linesLeft 34 = .ok (.ireturn, 1) := by decide +kernel
theorem dX6_linesLeft_4 : decode cX6_linesLeft 4 = .ok (.iload_n 3, 1) := by decide +kernel
theorem dX6_linesLeft_5 : decode cX6_linesLeft 5 = .ok (.aload_n 0, 1) := by decide +kernel
theorem dX6_linesLeft_6 : decode cX6_linesLeft 6 = .ok (.getfield 25, 3) := by decide +kernel
theorem dX6_linesLeft_9 : decode cX6_linesLeft 9 = .ok (.getfield 29, 3) := by decide +kernel
set_option maxHeartbeats 4000000 in
set_option maxRecDepth 100000 in
theorem c_M0_linesLeft (l : Launch) (D : va_G) (κ : ClassId × ClassId × ClassId) (a : Nat → Nat) (sz : Nat) (u : TS) (w : Nat) (q1 : OK u) (q2 : w < 600) : TM l yX6_linesLeft cX6_linesLeft 4 (some .int) 1 22 D κ a u sz [.ref (a 8), .int (nI w)] (QI D κ a sz (fun r u' => r = (nI (fLLeft 0 u w (LI_count u))) ∧ u' = u)) := by
  refine TM.of (by decide +kernel) (Nat.le_of_ble_eq_true rfl) ?_
  intro p e s m below meth c ls hC hr hk hsz H locs hG hl
  have hx := hC.1
  have hb := hC.2.1
  have hl : lv_has ls 4 [(0, .ref (a 8)), (1, .int (nI w))] := hl
  have qok := q1
  have ⟨n1, n2, n3, n4, n5, n6, n7, n8, n9, n10⟩ := qok.n
  refine lv_iconst (v := nI 0) hx hb dX6_linesLeft_0 (by decide) ?_
  refine lv_istore_n (lv' := [(2, .int (nI 0)), (0, .ref (a 8)), (1, .int (nI w))]) hx hb dX6_linesLeft_1 rfl hl (by decide) rfl (fun ls hl => ?_)
  refine lv_iconst (v := nI 0) hx hb dX6_linesLeft_2 (by decide) ?_
  refine lv_istore_n (lv' := [(3, .int (nI 0)), (2, .int (nI 0)), (0, .ref (a 8)), (1, .int (nI w))]) hx hb dX6_linesLeft_3 rfl hl (by decide) rfl (fun ls hl => ?_)
  have lp4 : ∀ (n : Nat) (i : Nat), LI_count u - i < n → (i ≤ LI_count u) → ∀ (H : Heap) (locs : List Loc), GW D κ a u (AA a sz) s H locs → ∀ ls : Array Slot, lv_has ls 4 [(3, .int (nI i)), (2, .int (nI (fLLeft 0 u w i))), (0, .ref (a 8)), (1, .int (nI w))] → W p l e { frames := 1, cells := 0, slots := 0, locals := 22 } s m [.ref (a 8), .int (nI w)].toArray below meth c H locs 0 0 (MQ below (QI D κ a sz (fun r u' => r = (nI (fLLeft 0 u w (LI_count u))) ∧ u' = u)) [.ref (a 8), .int (nI w)].toArray s 0 0 (AA a sz)) (F0 m 4 ls []) := by
    intro n
    induction n with
    | zero =>
      intro i hm
      exact absurd hm (Nat.not_lt_zero _)
    | succ n ih4 =>
      intro i hm4 c4_1 H locs hG ls hl
      have f1 := fLLeft_le 0 u w i
      refine lv_iload_n hx hb dX6_linesLeft_4 rfl (lv_at hl 0 rfl) ?_
      refine lv_aload_n hx hb dX6_linesLeft_5 rfl (lv_at hl 2 rfl) ?_
      refine gf_M0_lines hC hG (hC.2.2.2.2 _ w110) dX6_linesLeft_6 ?_
      refine gf_LI_count hC hG (hC.2.2.2.2 _ w320) dX6_linesLeft_9 ?_
      refine bn_ge (tgt := 33) hx hb (by omega) (by omega) dX6_linesLeft_12 (by decide) (fun h12 => ?_) (fun h12 => ?_)
      · refine lv_iload_n hx hb dX6_linesLeft_33 rfl (lv_at hl 1 rfl) ?_
        have hi : i = LI_count u := by omega
        exact te_i (v := (nI (fLLeft 0 u w i))) hC hG hr hk ⟨(congrArg nI (show fLLeft 0 u w i = fLLeft 0 u w (LI_count u) from by rw [hi])), rfl⟩ dX6_linesLeft_34
      · refine lv_aload_n hx hb dX6_linesLeft_15 rfl (lv_at hl 2 rfl) ?_
        refine lv_iload_n hx hb dX6_linesLeft_16 rfl (lv_at hl 0 rfl) ?_
        refine lv_iload_n hx hb dX6_linesLeft_17 rfl (lv_at hl 3 rfl) ?_
        refine k_M0_isLeft hC hG i w (q1) (by omega) (by omega) w323 ⟨by decide, by decide⟩ hl.1 (Nat.le_of_ble_eq_true rfl) dX6_linesLeft_18 ⟨Nat.zero_le _, Nat.zero_le _⟩ (fun H locs hG => ?_)
        refine bb_eq (tgt := 27) hx hb dX6_linesLeft_21 (by decide) (fun h21 => ?_) (fun h21 => ?_)
        · refine lv_iinc (v := (nI (i + 1))) (lv' := [(3, .int (nI (i + 1))), (2, .int (nI (fLLeft 0 u w i))), (0, .ref (a 8)), (1, .int (nI w))]) hx hb dX6_linesLeft_27 hl (k := 0) rfl (nI_1 _) (by decide) rfl (fun ls hl => ?_)
          refine lv_goto (tgt := 4) hx hb dX6_linesLeft_30 (by decide) ?_
          have e4_1 : fLLeft 0 u w (i + 1) = fLLeft 0 u w i := by simp [fLLeft, h12, h21]
          have hl : lv_has ls 4 [(3, .int (nI (i + 1))), (2, .int (nI (fLLeft 0 u w (i + 1)))), (0, .ref (a 8)), (1, .int (nI w))] := by rw [e4_1]; exact hl
          exact ih4  (i + 1) (by omega) (by omega) H locs hG ls (lv_sub hl [0, 1, 2, 3] rfl)
        · refine lv_iinc (v := (nI (fLLeft 0 u w i + 1))) (lv' := [(2, .int (nI (fLLeft 0 u w i + 1))), (3, .int (nI i)), (0, .ref (a 8)), (1, .int (nI w))]) hx hb dX6_linesLeft_24 hl (k := 1) rfl (nI_1 _) (by decide) rfl (fun ls hl => ?_)
          refine lv_iinc (v := (nI (i + 1))) (lv' := [(3, .int (nI (i + 1))), (2, .int (nI (fLLeft 0 u w i + 1))), (0, .ref (a 8)), (1, .int (nI w))]) hx hb dX6_linesLeft_27 hl (k := 1) rfl (nI_1 _) (by decide) rfl (fun ls hl => ?_)
          refine lv_goto (tgt := 4) hx hb dX6_linesLeft_30 (by decide) ?_
          have e4_2 : fLLeft 0 u w (i + 1) = (fLLeft 0 u w i + 1) := by simp [fLLeft, h12, h21]
          have hl : lv_has ls 4 [(3, .int (nI (i + 1))), (2, .int (nI (fLLeft 0 u w (i + 1)))), (0, .ref (a 8)), (1, .int (nI w))] := by rw [e4_2]; exact hl
          exact ih4  (i + 1) (by omega) (by omega) H locs hG ls (lv_sub hl [0, 1, 2, 3] rfl)
  have e4_3 : fLLeft 0 u w 0 = 0 := by rfl
  have hl : lv_has ls 4 [(3, .int (nI 0)), (2, .int (nI (fLLeft 0 u w 0))), (0, .ref (a 8)), (1, .int (nI w))] := by rw [e4_3]; exact hl
  exact lp4 _ 0 (Nat.lt_succ_self _) (by omega) H locs hG ls (lv_sub hl [0, 1, 2, 3] rfl)
theorem k_M0_linesLeft {p : Program} {l : Launch} {e : Env} {R : Room} {s : State} {m : MethodId} {args : Array Value} {below : List Frame} {meth : Method} {c : Code} {H : Heap} {locs : List Loc} {cs ss : Nat} {Q : State → Prop} {cc : ByteArray} {nL pc : Nat} {ls : Array Slot} {rest : List Value} {own : String} {idx : Nat} {D : va_G} {κ : ClassId × ClassId × ClassId} {a : Nat → Nat} {u : TS} {A : Nat → Prop} (hC : CallFix p m c cc nL s args WALL own) (hG : GW D κ a u A s H locs) (w : Nat) (q1 : OK u) (q2 : w < 600) (wl : Cond.methodLink own idx yX6_linesLeft ∈ WALL) (hR : 1 + 1 ≤ R.frames ∧ 8 + (4 + 11) + 22 ≤ R.locals) (hls : ls.size = nL) (h8 : (rest.map fun v => v.category).sum ≤ 8) (hd : decode cc pc = .ok (.invokevirtual idx, 3)) (hcs : cs ≤ R.cells ∧ ss ≤ R.slots) (kk : ∀ (H1 : Heap) (locs1 : List Loc), GW D κ a u A s H1 locs1 → W p l e R s m args below meth c H1 locs1 cs ss Q (F0 m (pc + 3) ls (.int (nI (fLLeft 0 u w (LI_count u))) :: rest))) : W p l e R s m args below meth c H locs cs ss Q (F0 m pc ls (.int (nI w) :: .ref (a 8) :: rest)) :=
  tc_i hG (tr_V (n := 1) (k := 8) (ci := 6) (As := [.int (nI w)]) hC hG (c_M0_linesLeft l D κ a H.size u w q1 q2) rfl rfl wl w35 w372 w370 w371 (by decide +kernel) hR rfl hls rfl h8 hd hcs) (fun r u' H1 locs1 hq hG1 => by obtain ⟨rfl, rfl⟩ := hq; exact kk H1 locs1 hG1)

theorem dX6_lineSumLeft_0 : decode cX6_lineSumLeft 0 = .ok (.lconst 0, 1) := by decide +kernel
theorem dX6_lineSumLeft_1 : decode cX6_lineSumLeft 1 = .ok (.lstore_n 2, 1) := by decide +kernel
theorem dX6_lineSumLeft_11 : decode cX6_lineSumLeft 11 = .ok (.getfield 29, 3) := by decide +kernel
theorem dX6_lineSumLeft_14 : decode cX6_lineSumLeft 14 = .ok (.if_icmp .ge 33, 3) := by decide +kernel
theorem dX6_lineSumLeft_17 : decode cX6_lineSumLeft 17 = .ok (.aload_n 0, 1) := by decide +kernel
theorem dX6_lineSumLeft_18 : decode cX6_lineSumLeft 18 = .ok (.iload 4, 2) := by decide +kernel
theorem dX6_lineSumLeft_2 : decode cX6_lineSumLeft 2 = .ok (.iconst 0, 1) := by decide +kernel
theorem dX6_lineSumLeft_20 : decode cX6_lineSumLeft 20 = .ok (.iload_n 1, 1) := by decide +kernel
theorem dX6_lineSumLeft_21 : decode cX6_lineSumLeft 21 = .ok (.invokevirtual 45, 3) := by decide +kernel
theorem dX6_lineSumLeft_24 : decode cX6_lineSumLeft 24 = .ok (.ifCond .eq 17, 3) := by decide +kernel
theorem dX6_lineSumLeft_27 : decode cX6_lineSumLeft 27 = .ok (.lload_n 2, 1) := by decide +kernel
theorem dX6_lineSumLeft_28 : decode cX6_lineSumLeft 28 = .ok (.aload_n 0, 1) := by decide +kernel
theorem dX6_lineSumLeft_29 : decode cX6_lineSumLeft 29 = .ok (.getfield 25, 3) := by decide +kernel
theorem dX6_lineSumLeft_3 : decode cX6_lineSumLeft 3 = .ok (.istore 4, 2) := by decide +kernel
theorem dX6_lineSumLeft_32 : decode cX6_lineSumLeft 32 = .ok (.getfield 91, 3) := by decide +kernel
theorem dX6_lineSumLeft_35 : decode cX6_lineSumLeft 35 = .ok (.iload 4, 2) := by decide +kernel
theorem dX6_lineSumLeft_37 : decode cX6_lineSumLeft 37 = .ok (.iaload, 1) := by decide +kernel
theorem dX6_lineSumLeft_38 : decode cX6_lineSumLeft 38 = .ok (.i2l, 1) := by decide +kernel
theorem dX6_lineSumLeft_39 : decode cX6_lineSumLeft 39 = .ok (.ladd, 1) := by decide +kernel
theorem dX6_lineSumLeft_40 : decode cX6_lineSumLeft 40 = .ok (.lstore_n 2, 1) := by decide +kernel
theorem dX6_lineSumLeft_41 : decode cX6_lineSumLeft 41 = .ok (.iinc 4 1, 3) := by decide +kernel
theorem dX6_lineSumLeft_44 : decode cX6_lineSumLeft 44 = .ok (.goto (-39), 3) := by decide +kernel
theorem dX6_lineSumLeft_47 : decode cX6_lineSumLeft 47 = .ok (.lload_n 2, 1) := by decide +kernel
theorem dX6_lineSumLeft_48 : decode cX6_lineSumLeft 48 = .ok (.lreturn, 1) := by decide +kernel
theorem dX6_lineSumLeft_5 : decode cX6_lineSumLeft 5 = .ok (.iload 4, 2) := by decide +kernel
theorem dX6_lineSumLeft_7 : decode cX6_lineSumLeft 7 = .ok (.aload_n 0, 1) := by decide +kernel
theorem dX6_lineSumLeft_8 : decode cX6_lineSumLeft 8 = .ok (.getfield 25, 3) := by decide +kernel
set_option maxHeartbeats 4000000 in
set_option maxRecDepth 100000 in
theorem c_M0_lineSumLeft (l : Launch) (D : va_G) (κ : ClassId × ClassId × ClassId) (a : Nat → Nat) (sz : Nat) (u : TS) (w : Nat) (q1 : OK u) (q2 : w < 600) : TM l yX6_lineSumLeft cX6_lineSumLeft 5 (some .long) 1 22 D κ a u sz [.ref (a 8), .int (nI w)] (QL D κ a sz (fun r u' => r = (fLSum 0 u w (LI_count u)) ∧ u' = u)) := by
  refine TM.of (by decide +kernel) (Nat.le_of_ble_eq_true rfl) ?_
  intro p e s m below meth c ls hC hr hk hsz H locs hG hl
  have hx := hC.1
  have hb := hC.2.1
  have hl : lv_has ls 5 [(0, .ref (a 8)), (1, .int (nI w))] := hl
  have qok := q1
  have ⟨n1, n2, n3, n4, n5, n6, n7, n8, n9, n10⟩ := qok.n
  refine lv_lconst (v := 0) hx hb dX6_lineSumLeft_0 (by decide) ?_
  refine lv_lstore_n (lv' := [(2, .long (0 : Int64)), (0, .ref (a 8)), (1, .int (nI w))]) hx hb dX6_lineSumLeft_1 rfl hl (by decide) rfl (fun ls hl => ?_)
  refine lv_iconst (v := nI 0) hx hb dX6_lineSumLeft_2 (by decide) ?_
  refine lv_istore (lv' := [(4, .int (nI 0)), (2, .long (0 : Int64)), (0, .ref (a 8)), (1, .int (nI w))]) hx hb dX6_lineSumLeft_3 hl (by decide) rfl (fun ls hl => ?_)
  have lp5 : ∀ (n : Nat) (i : Nat), LI_count u - i < n → (i ≤ LI_count u) → ∀ (H : Heap) (locs : List Loc), GW D κ a u (AA a sz) s H locs → ∀ ls : Array Slot, lv_has ls 5 [(4, .int (nI i)), (2, .long (fLSum 0 u w i)), (0, .ref (a 8)), (1, .int (nI w))] → W p l e { frames := 1, cells := 0, slots := 0, locals := 22 } s m [.ref (a 8), .int (nI w)].toArray below meth c H locs 0 0 (MQ below (QL D κ a sz (fun r u' => r = (fLSum 0 u w (LI_count u)) ∧ u' = u)) [.ref (a 8), .int (nI w)].toArray s 0 0 (AA a sz)) (F0 m 5 ls []) := by
    intro n
    induction n with
    | zero =>
      intro i hm
      exact absurd hm (Nat.not_lt_zero _)
    | succ n ih5 =>
      intro i hm5 c5_1 H locs hG ls hl
      refine lv_iload hx hb dX6_lineSumLeft_5 (lv_at hl 0 rfl) ?_
      refine lv_aload_n hx hb dX6_lineSumLeft_7 rfl (lv_at hl 2 rfl) ?_
      refine gf_M0_lines hC hG (hC.2.2.2.2 _ w110) dX6_lineSumLeft_8 ?_
      refine gf_LI_count hC hG (hC.2.2.2.2 _ w320) dX6_lineSumLeft_11 ?_
      refine bn_ge (tgt := 47) hx hb (by omega) (by omega) dX6_lineSumLeft_14 (by decide) (fun h14 => ?_) (fun h14 => ?_)
      · refine lv_lload_n hx hb dX6_lineSumLeft_47 rfl (lv_at hl 1 rfl) ?_
        have hi : i = LI_count u := by omega
        exact te_l hC hG hr hk ⟨(show fLSum 0 u w i = fLSum 0 u w (LI_count u) from by rw [hi]), rfl⟩ dX6_lineSumLeft_48
      · refine lv_aload_n hx hb dX6_lineSumLeft_17 rfl (lv_at hl 2 rfl) ?_
        refine lv_iload hx hb dX6_lineSumLeft_18 (lv_at hl 0 rfl) ?_
        refine lv_iload_n hx hb dX6_lineSumLeft_20 rfl (lv_at hl 3 rfl) ?_
        refine k_M0_isLeft hC hG i w (q1) (by omega) (by omega) w323 ⟨by decide, by decide⟩ hl.1 (Nat.le_of_ble_eq_true rfl) dX6_lineSumLeft_21 ⟨Nat.zero_le _, Nat.zero_le _⟩ (fun H locs hG => ?_)
        refine bb_eq (tgt := 41) hx hb dX6_lineSumLeft_24 (by decide) (fun h24 => ?_) (fun h24 => ?_)
        · refine lv_iinc (v := (nI (i + 1))) (lv' := [(4, .int (nI (i + 1))), (2, .long (fLSum 0 u w i)), (0, .ref (a 8)), (1, .int (nI w))]) hx hb dX6_lineSumLeft_41 hl (k := 0) rfl (nI_1 _) (by decide) rfl (fun ls hl => ?_)
          refine lv_goto (tgt := 5) hx hb dX6_lineSumLeft_44 (by decide) ?_
          have e5_1 : fLSum 0 u w (i + 1) = fLSum 0 u w i := by simp [fLSum, h14, h24]
          have hl : lv_has ls 5 [(4, .int (nI (i + 1))), (2, .long (fLSum 0 u w (i + 1))), (0, .ref (a 8)), (1, .int (nI w))] := by rw [e5_1]; exact hl
          exact ih5  (i + 1) (by omega) (by omega) H locs hG ls (lv_sub hl [0, 1, 2, 3] rfl)
        · refine lv_lload_n hx hb dX6_lineSumLeft_27 rfl (lv_at hl 1 rfl) ?_
          refine lv_aload_n hx hb dX6_lineSumLeft_28 rfl (lv_at hl 2 rfl) ?_
          refine gf_M0_lines hC hG (hC.2.2.2.2 _ w110) dX6_lineSumLeft_29 ?_
          refine gf_LI_amount hC hG (hC.2.2.2.2 _ w333) dX6_lineSumLeft_32 ?_
          refine lv_iload hx hb dX6_lineSumLeft_35 (lv_at hl 0 rfl) ?_
          refine al_LI_amount hC hG (by omega) dX6_lineSumLeft_37 ?_
          refine lv_i2l hx hb dX6_lineSumLeft_38 rfl ?_
          refine lv_ladd hx hb dX6_lineSumLeft_39 ?_
          refine lv_lstore_n (lv' := [(2, .long (fLSum 0 u w i + ((LI_amount u i).toInt64))), (4, .int (nI i)), (0, .ref (a 8)), (1, .int (nI w))]) hx hb dX6_lineSumLeft_40 rfl hl (by decide) rfl (fun ls hl => ?_)
          refine lv_iinc (v := (nI (i + 1))) (lv' := [(4, .int (nI (i + 1))), (2, .long (fLSum 0 u w i + ((LI_amount u i).toInt64))), (0, .ref (a 8)), (1, .int (nI w))]) hx hb dX6_lineSumLeft_41 hl (k := 1) rfl (nI_1 _) (by decide) rfl (fun ls hl => ?_)
          refine lv_goto (tgt := 5) hx hb dX6_lineSumLeft_44 (by decide) ?_
          have e5_2 : fLSum 0 u w (i + 1) = (fLSum 0 u w i + ((LI_amount u i).toInt64)) := by simp [fLSum, h14, h24]
          have hl : lv_has ls 5 [(4, .int (nI (i + 1))), (2, .long (fLSum 0 u w (i + 1))), (0, .ref (a 8)), (1, .int (nI w))] := by rw [e5_2]; exact hl
          exact ih5  (i + 1) (by omega) (by omega) H locs hG ls (lv_sub hl [0, 1, 2, 3] rfl)
  have e5_3 : fLSum 0 u w 0 = (0 : Int64) := by rfl
  have hl : lv_has ls 5 [(4, .int (nI 0)), (2, .long (fLSum 0 u w 0)), (0, .ref (a 8)), (1, .int (nI w))] := by rw [e5_3]; exact hl
  exact lp5 _ 0 (Nat.lt_succ_self _) (by omega) H locs hG ls (lv_sub hl [0, 1, 2, 3] rfl)
theorem k_M0_lineSumLeft {p : Program} {l : Launch} {e : Env} {R : Room} {s : State} {m : MethodId} {args : Array Value} {below : List Frame} {meth : Method} {c : Code} {H : Heap} {locs : List Loc} {cs ss : Nat} {Q : State → Prop} {cc : ByteArray} {nL pc : Nat} {ls : Array Slot} {rest : List Value} {own : String} {idx : Nat} {D : va_G} {κ : ClassId × ClassId × ClassId} {a : Nat → Nat} {u : TS} {A : Nat → Prop} (hC : CallFix p m c cc nL s args WALL own) (hG : GW D κ a u A s H locs) (w : Nat) (q1 : OK u) (q2 : w < 600) (wl : Cond.methodLink own idx yX6_lineSumLeft ∈ WALL) (hR : 1 + 1 ≤ R.frames ∧ 8 + (5 + 11) + 22 ≤ R.locals) (hls : ls.size = nL) (h8 : (rest.map fun v => v.category).sum ≤ 8) (hd : decode cc pc = .ok (.invokevirtual idx, 3)) (hcs : cs ≤ R.cells ∧ ss ≤ R.slots) (kk : ∀ (H1 : Heap) (locs1 : List Loc), GW D κ a u A s H1 locs1 → W p l e R s m args below meth c H1 locs1 cs ss Q (F0 m (pc + 3) ls (.long (fLSum 0 u w (LI_count u)) :: rest))) : W p l e R s m args below meth c H locs cs ss Q (F0 m pc ls (.int (nI w) :: .ref (a 8) :: rest)) :=
  tc_l hG (tr_V (n := 1) (k := 8) (ci := 6) (As := [.int (nI w)]) hC hG (c_M0_lineSumLeft l D κ a H.size u w q1 q2) rfl rfl wl w35 w390 w388 w389 (by decide +kernel) hR rfl hls rfl h8 hd hcs) (fun r u' H1 locs1 hq hG1 => by obtain ⟨rfl, rfl⟩ := hq; exact kk H1 locs1 hG1)

theorem dX6_legsLeft_0 : decode cX6_legsLeft 0 = .ok (.iconst 0, 1) := by decide +kernel
theorem dX6_legsLeft_1 : decode cX6_legsLeft 1 = .ok (.istore_n 2, 1) := by decide +kernel
theorem dX6_legsLeft_12 : decode cX6_legsLeft 12 = .ok (.if_icmp .ge 21, 3) := by decide +kernel
theorem dX6_legsLeft_15 : decode cX6_legsLeft 15 = .ok (.aload_n 0, 1) := by decide +kernel
theorem dX6_legsLeft_16 : decode cX6_legsLeft 16 = .ok (.iload_n 3, 1) := by decide +kernel
theorem dX6_legsLeft_17 : decode cX6_legsLeft 17 = .ok (.iload_n 1, 1) := by decide +kernel
theorem dX6_legsLeft_18 : decode cX6_legsLeft 18 = .ok (.invokevirtual 84, 3) := by decide +kernel
theorem dX6_legsLeft_2 : decode cX6_legsLeft 2 = .ok (.iconst 0, 1) := by decide +kernel
theorem dX6_legsLeft_21 : decode cX6_legsLeft 21 = .ok (.ifCond .eq 6, 3) := by decide +kernel
theorem dX6_legsLeft_24 : decode cX6_legsLeft 24 = .ok (.iinc 2 1, 3) := by decide +kernel
theorem dX6_legsLeft_27 : decode cX6_legsLeft 27 = .ok (.iinc 3 1, 3) := by decide +kernel
theorem dX6_legsLeft_3 : decode cX6_legsLeft 3 = .ok (.istore_n 3, 1) := by decide +kernel
theorem dX6_legsLeft_30 : decode cX6_legsLeft 30 = .ok (.goto (-26), 3) := by decide +kernel
theorem dX6_legsLeft_33 : decode cX6_legsLeft 33 = .ok (.iload_n 2, 1) := by decide +kernel
theorem dX6_legsLeft_34 : decode cX6_legsLeft 34 = .ok (.ireturn, 1) := by decide +kernel
theorem dX6_legsLeft_4 : decode cX6_legsLeft 4 = .ok (.iload_n 3, 1) := by decide +kernel
theorem dX6_legsLeft_5 : decode cX6_legsLeft 5 = .ok (.aload_n 0, 1) := by decide +kernel
theorem dX6_legsLeft_6 : decode cX6_legsLeft 6 = .ok (.getfield 21, 3) := by decide +kernel
theorem dX6_legsLeft_9 : decode cX6_legsLeft 9 = .ok (.getfield 81, 3) := by decide +kernel
set_option maxHeartbeats 4000000 in
set_option maxRecDepth 100000 in
theorem c_M0_legsLeft (l : Launch) (D : va_G) (κ : ClassId × ClassId × ClassId) (a : Nat → Nat) (sz : Nat) (u : TS) (w : Nat) (q1 : OK u) (q2 : w < 600) : TM l yX6_legsLeft cX6_legsLeft 4 (some .int) 2 43 D κ a u sz [.ref (a 8), .int (nI w)] (QI D κ a sz (fun r u' => r = (nI (fGLeft 0 u w (J_legCount u))) ∧ u' = u)) := by
  refine TM.of (by decide +kernel) (Nat.le_of_ble_eq_true rfl) ?_
  intro p e s m below meth c ls hC hr hk hsz H locs hG hl
  have hx := hC.1
  have hb := hC.2.1
  have hl : lv_has ls 4 [(0, .ref (a 8)), (1, .int (nI w))] := hl
  have qok := q1
  have ⟨n1, n2, n3, n4, n5, n6, n7, n8, n9, n10⟩ := qok.n
  refine lv_iconst (v := nI 0) hx hb dX6_legsLeft_0 (by decide) ?_
  refine lv_istore_n (lv' := [(2, .int (nI 0)), (0, .ref (a 8)), (1, .int (nI w))]) hx hb dX6_legsLeft_1 rfl hl (by decide) rfl (fun ls hl => ?_)
  refine lv_iconst (v := nI 0) hx hb dX6_legsLeft_2 (by decide) ?_
  refine lv_istore_n (lv' := [(3, .int (nI 0)), (2, .int (nI 0)), (0, .ref (a 8)), (1, .int (nI w))]) hx hb dX6_legsLeft_3 rfl hl (by decide) rfl (fun ls hl => ?_)
  have lp4 : ∀ (n : Nat) (i : Nat), J_legCount u - i < n → (i ≤ J_legCount u) → ∀ (H : Heap) (locs : List Loc), GW D κ a u (AA a sz) s H locs → ∀ ls : Array Slot, lv_has ls 4 [(3, .int (nI i)), (2, .int (nI (fGLeft 0 u w i))), (0, .ref (a 8)), (1, .int (nI w))] → W p l e { frames := 2, cells := 0, slots := 0, locals := 43 } s m [.ref (a 8), .int (nI w)].toArray below meth c H locs 0 0 (MQ below (QI D κ a sz (fun r u' => r = (nI (fGLeft 0 u w (J_legCount u))) ∧ u' = u)) [.ref (a 8), .int (nI w)].toArray s 0 0 (AA a sz)) (F0 m 4 ls []) := by
    intro n
    induction n with
    | zero =>
      intro i hm
      exact absurd hm (Nat.not_lt_zero _)
    | succ n ih4 =>
      intro i hm4 c4_1 H locs hG ls hl
      have f1 := fGLeft_le 0 u w i
      refine lv_iload_n hx hb dX6_legsLeft_4 rfl (lv_at hl 0 rfl) ?_
      refine lv_aload_n hx hb dX6_legsLeft_5 rfl (lv_at hl 2 rfl) ?_
      refine gf_M0_journal hC hG (hC.2.2.2.2 _ w109) dX6_legsLeft_6 ?_
      refine gf_J_legCount hC hG (hC.2.2.2.2 _ w331) dX6_legsLeft_9 ?_
      refine bn_ge (tgt := 33) hx hb (by omega) (by omega) dX6_legsLeft_12 (by decide) (fun h12 => ?_) (fun h12 => ?_)
      · refine lv_iload_n hx hb dX6_legsLeft_33 rfl (lv_at hl 1 rfl) ?_
        have hi : i = J_legCount u := by omega
        exact te_i (v := (nI (fGLeft 0 u w i))) hC hG hr hk ⟨(congrArg nI (show fGLeft 0 u w i = fGLeft 0 u w (J_legCount u) from by rw [hi])), rfl⟩ dX6_legsLeft_34
      · refine lv_aload_n hx hb dX6_legsLeft_15 rfl (lv_at hl 2 rfl) ?_
        refine lv_iload_n hx hb dX6_legsLeft_16 rfl (lv_at hl 0 rfl) ?_
        refine lv_iload_n hx hb dX6_legsLeft_17 rfl (lv_at hl 3 rfl) ?_
        refine k_M0_isLegLeft hC hG i w (q1) (by omega) (by omega) w334 ⟨by decide, by decide⟩ hl.1 (Nat.le_of_ble_eq_true rfl) dX6_legsLeft_18 ⟨Nat.zero_le _, Nat.zero_le _⟩ (fun H locs hG => ?_)
        refine bb_eq (tgt := 27) hx hb dX6_legsLeft_21 (by decide) (fun h21 => ?_) (fun h21 => ?_)
        · refine lv_iinc (v := (nI (i + 1))) (lv' := [(3, .int (nI (i + 1))), (2, .int (nI (fGLeft 0 u w i))), (0, .ref (a 8)), (1, .int (nI w))]) hx hb dX6_legsLeft_27 hl (k := 0) rfl (nI_1 _) (by decide) rfl (fun ls hl => ?_)
          refine lv_goto (tgt := 4) hx hb dX6_legsLeft_30 (by decide) ?_
          have e4_1 : fGLeft 0 u w (i + 1) = fGLeft 0 u w i := by simp [fGLeft, h12, h21]
          have hl : lv_has ls 4 [(3, .int (nI (i + 1))), (2, .int (nI (fGLeft 0 u w (i + 1)))), (0, .ref (a 8)), (1, .int (nI w))] := by rw [e4_1]; exact hl
          exact ih4  (i + 1) (by omega) (by omega) H locs hG ls (lv_sub hl [0, 1, 2, 3] rfl)
        · refine lv_iinc (v := (nI (fGLeft 0 u w i + 1))) (lv' := [(2, .int (nI (fGLeft 0 u w i + 1))), (3, .int (nI i)), (0, .ref (a 8)), (1, .int (nI w))]) hx hb dX6_legsLeft_24 hl (k := 1) rfl (nI_1 _) (by decide) rfl (fun ls hl => ?_)
          refine lv_iinc (v := (nI (i + 1))) (lv' := [(3, .int (nI (i + 1))), (2, .int (nI (fGLeft 0 u w i + 1))), (0, .ref (a 8)), (1, .int (nI w))]) hx hb dX6_legsLeft_27 hl (k := 1) rfl (nI_1 _) (by decide) rfl (fun ls hl => ?_)
          refine lv_goto (tgt := 4) hx hb dX6_legsLeft_30 (by decide) ?_
          have e4_2 : fGLeft 0 u w (i + 1) = (fGLeft 0 u w i + 1) := by simp [fGLeft, h12, h21]
          have hl : lv_has ls 4 [(3, .int (nI (i + 1))), (2, .int (nI (fGLeft 0 u w (i + 1)))), (0, .ref (a 8)), (1, .int (nI w))] := by rw [e4_2]; exact hl
          exact ih4  (i + 1) (by omega) (by omega) H locs hG ls (lv_sub hl [0, 1, 2, 3] rfl)
  have e4_3 : fGLeft 0 u w 0 = 0 := by rfl
  have hl : lv_has ls 4 [(3, .int (nI 0)), (2, .int (nI (fGLeft 0 u w 0))), (0, .ref (a 8)), (1, .int (nI w))] := by rw [e4_3]; exact hl
  exact lp4 _ 0 (Nat.lt_succ_self _) (by omega) H locs hG ls (lv_sub hl [0, 1, 2, 3] rfl)
theorem k_M0_legsLeft {p : Program} {l : Launch} {e : Env} {R : Room} {s : State} {m : MethodId} {args : Array Value} {below : List Frame} {meth : Method} {c : Code} {H : Heap} {locs : List Loc} {cs ss : Nat} {Q : State → Prop} {cc : ByteArray} {nL pc : Nat} {ls : Array Slot} {rest : List Value} {own : String} {idx : Nat} {D : va_G} {κ : ClassId × ClassId × ClassId} {a : Nat → Nat} {u : TS} {A : Nat → Prop} (hC : CallFix p m c cc nL s args WALL own) (hG : GW D κ a u A s H locs) (w : Nat) (q1 : OK u) (q2 : w < 600) (wl : Cond.methodLink own idx yX6_legsLeft ∈ WALL) (hR : 2 + 1 ≤ R.frames ∧ 8 + (4 + 11) + 43 ≤ R.locals) (hls : ls.size = nL) (h8 : (rest.map fun v => v.category).sum ≤ 8) (hd : decode cc pc = .ok (.invokevirtual idx, 3)) (hcs : cs ≤ R.cells ∧ ss ≤ R.slots) (kk : ∀ (H1 : Heap) (locs1 : List Loc), GW D κ a u A s H1 locs1 → W p l e R s m args below meth c H1 locs1 cs ss Q (F0 m (pc + 3) ls (.int (nI (fGLeft 0 u w (J_legCount u))) :: rest))) : W p l e R s m args below meth c H locs cs ss Q (F0 m pc ls (.int (nI w) :: .ref (a 8) :: rest)) :=
  tc_i hG (tr_V (n := 1) (k := 8) (ci := 6) (As := [.int (nI w)]) hC hG (c_M0_legsLeft l D κ a H.size u w q1 q2) rfl rfl wl w35 w386 w384 w385 (by decide +kernel) hR rfl hls rfl h8 hd hcs) (fun r u' H1 locs1 hq hG1 => by obtain ⟨rfl, rfl⟩ := hq; exact kk H1 locs1 hG1)

theorem dX6_legSumLeft_0 : decode cX6_legSumLeft 0 = .ok (.lconst 0, 1) := by decide +kernel
theorem dX6_legSumLeft_1 : decode cX6_legSumLeft 1 = .ok (.lstore_n 2, 1) := by decide +kernel
theorem dX6_legSumLeft_11 : decode cX6_legSumLeft 11 = .ok (.getfield 81, 3) := by decide +kernel
theorem dX6_legSumLeft_14 : decode cX6_legSumLeft 14 = .ok (.if_icmp .ge 32, 3) := by decide +kernel
theorem dX6_legSumLeft_17 : decode cX6_legSumLeft 17 = .ok (.aload_n 0, 1) := by decide +kernel
theorem dX6_legSumLeft_18 : decode cX6_legSumLeft 18 = .ok (.iload 4, 2) := by decide +kernel
theorem dX6_legSumLeft_2 : decode cX6_legSumLeft 2 = .ok (.iconst 0, 1) := by decide +kernel
theorem dX6_legSumLeft_20 : decode cX6_legSumLeft 20 = .ok (.iload_n 1, 1) := by decide +kernel
theorem dX6_legSumLeft_21 : decode cX6_legSumLeft 21 = .ok (.invokevirtual 84, 3) := by decide +kernel
theorem dX6_legSumLeft_24 : decode cX6_legSumLeft 24 = .ok (.ifCond .eq 16, 3) := by decide +kernel
theorem dX6_legSumLeft_27 : decode cX6_legSumLeft 27 = .ok (.lload_n 2, 1) := by decide +kernel
theorem dX6_legSumLeft_28 : decode cX6_legSumLeft 28 = .ok (.aload_n 0, 1) := by decide +kernel
theorem dX6_legSumLeft_29 : decode cX6_legSumLeft 29 = .ok (.getfield 21, 3) := by decide +kernel
theorem dX6_legSumLeft_3 : decode cX6_legSumLeft 3 = .ok (.istore 4, 2) := by decide +kernel
theorem dX6_legSumLeft_32 : decode cX6_legSumLeft 32 = .ok (.getfield 87, 3) := by decide +kernel
theorem dX6_legSumLeft_35 : decode cX6_legSumLeft 35 = .ok (.iload 4, 2) := by decide +kernel
theorem dX6_legSumLeft_37 : decode cX6_legSumLeft 37 = .ok (.laload, 1) := by decide +kernel
theorem dX6_legSumLeft_38 : decode cX6_legSumLeft 38 = .ok (.ladd, 1) := by decide +kernel
theorem dX6_legSumLeft_39 : decode cX6_legSumLeft 39 = .ok (.lstore_n 2, 1) := by decide +kernel
theorem dX6_legSumLeft_40 : decode cX6_legSumLeft 40 = .ok (.iinc 4 1, 3) := by decide +kernel
theorem dX6_legSumLeft_43 : decode cX6_legSumLeft 43 = .ok (.goto (-38), 3) := by decide +kernel
theorem dX6_legSumLeft_46 : decode cX6_legSumLeft 46 = .ok (.lload_n 2, 1) := by decide +kernel
theorem dX6_legSumLeft_47 : decode cX6_legSumLeft 47 = .ok (.lreturn, 1) := by decide +kernel
theorem dX6_legSumLeft_5 : decode cX6_legSumLeft 5 = .ok (.iload 4, 2) := by decide +kernel
theorem dX6_legSumLeft_7 : decode cX6_legSumLeft 7 = .ok (.aload_n 0, 1) := by decide +kernel
theorem dX6_legSumLeft_8 : decode cX6_legSumLeft 8 = .ok (.getfield 21, 3) := by decide +kernel
set_option maxHeartbeats 4000000 in
set_option maxRecDepth 100000 in
theorem c_M0_legSumLeft (l : Launch) (D : va_G) (κ : ClassId × ClassId × ClassId) (a : Nat → Nat) (sz : Nat) (u : TS) (w : Nat) (q1 : OK u) (q2 : w < 600) : TM l yX6_legSumLeft cX6_legSumLeft 5 (some .long) 2 43 D κ a u sz [.ref (a 8), .int (nI w)] (QL D κ a sz (fun r u' => r = (fGSum 0 u w (J_legCount u)) ∧ u' = u)) := by
  refine TM.of (by decide +kernel) (Nat.le_of_ble_eq_true rfl) ?_
  intro p e s m below meth c ls hC hr hk hsz H locs hG hl
  have hx := hC.1
  have hb := hC.2.1
  have hl : lv_has ls 5 [(0, .ref (a 8)), (1, .int (nI w))] := hl
  have qok := q1
  have ⟨n1, n2, n3, n4, n5, n6, n7, n8, n9, n10⟩ := qok.n
  refine lv_lconst (v := 0) hx hb dX6_legSumLeft_0 (by decide) ?_
  refine lv_lstore_n (lv' := [(2, .long (0 : Int64)), (0, .ref (a 8)), (1, .int (nI w))]) hx hb dX6_legSumLeft_1 rfl hl (by decide) rfl (fun ls hl => ?_)
  refine lv_iconst (v := nI 0) hx hb dX6_legSumLeft_2 (by decide) ?_
  refine lv_istore (lv' := [(4, .int (nI 0)), (2, .long (0 : Int64)), (0, .ref (a 8)), (1, .int (nI w))]) hx hb dX6_legSumLeft_3 hl (by decide) rfl (fun ls hl => ?_)
  have lp5 : ∀ (n : Nat) (i : Nat), J_legCount u - i < n → (i ≤ J_legCount u) → ∀ (H : Heap) (locs : List Loc), GW D κ a u (AA a sz) s H locs → ∀ ls : Array Slot, lv_has ls 5 [(4, .int (nI i)), (2, .long (fGSum 0 u w i)), (0, .ref (a 8)), (1, .int (nI w))] → W p l e { frames := 2, cells := 0, slots := 0, locals := 43 } s m [.ref (a 8), .int (nI w)].toArray below meth c H locs 0 0 (MQ below (QL D κ a sz (fun r u' => r = (fGSum 0 u w (J_legCount u)) ∧ u' = u)) [.ref (a 8), .int (nI w)].toArray s 0 0 (AA a sz)) (F0 m 5 ls []) := by
    intro n
    induction n with
    | zero =>
      intro i hm
      exact absurd hm (Nat.not_lt_zero _)
    | succ n ih5 =>
      intro i hm5 c5_1 H locs hG ls hl
      refine lv_iload hx hb dX6_legSumLeft_5 (lv_at hl 0 rfl) ?_
      refine lv_aload_n hx hb dX6_legSumLeft_7 rfl (lv_at hl 2 rfl) ?_
      refine gf_M0_journal hC hG (hC.2.2.2.2 _ w109) dX6_legSumLeft_8 ?_
      refine gf_J_legCount hC hG (hC.2.2.2.2 _ w331) dX6_legSumLeft_11 ?_
      refine bn_ge (tgt := 46) hx hb (by omega) (by omega) dX6_legSumLeft_14 (by decide) (fun h14 => ?_) (fun h14 => ?_)
      · refine lv_lload_n hx hb dX6_legSumLeft_46 rfl (lv_at hl 1 rfl) ?_
        have hi : i = J_legCount u := by omega
        exact te_l hC hG hr hk ⟨(show fGSum 0 u w i = fGSum 0 u w (J_legCount u) from by rw [hi]), rfl⟩ dX6_legSumLeft_47
      · refine lv_aload_n hx hb dX6_legSumLeft_17 rfl (lv_at hl 2 rfl) ?_
        refine lv_iload hx hb dX6_legSumLeft_18 (lv_at hl 0 rfl) ?_
        refine lv_iload_n hx hb dX6_legSumLeft_20 rfl (lv_at hl 3 rfl) ?_
        refine k_M0_isLegLeft hC hG i w (q1) (by omega) (by omega) w334 ⟨by decide, by decide⟩ hl.1 (Nat.le_of_ble_eq_true rfl) dX6_legSumLeft_21 ⟨Nat.zero_le _, Nat.zero_le _⟩ (fun H locs hG => ?_)
        refine bb_eq (tgt := 40) hx hb dX6_legSumLeft_24 (by decide) (fun h24 => ?_) (fun h24 => ?_)
        · refine lv_iinc (v := (nI (i + 1))) (lv' := [(4, .int (nI (i + 1))), (2, .long (fGSum 0 u w i)), (0, .ref (a 8)), (1, .int (nI w))]) hx hb dX6_legSumLeft_40 hl (k := 0) rfl (nI_1 _) (by decide) rfl (fun ls hl => ?_)
          refine lv_goto (tgt := 5) hx hb dX6_legSumLeft_43 (by decide) ?_
          have e5_1 : fGSum 0 u w (i + 1) = fGSum 0 u w i := by simp [fGSum, h14, h24]
          have hl : lv_has ls 5 [(4, .int (nI (i + 1))), (2, .long (fGSum 0 u w (i + 1))), (0, .ref (a 8)), (1, .int (nI w))] := by rw [e5_1]; exact hl
          exact ih5  (i + 1) (by omega) (by omega) H locs hG ls (lv_sub hl [0, 1, 2, 3] rfl)
        · refine lv_lload_n hx hb dX6_legSumLeft_27 rfl (lv_at hl 1 rfl) ?_
          refine lv_aload_n hx hb dX6_legSumLeft_28 rfl (lv_at hl 2 rfl) ?_
          refine gf_M0_journal hC hG (hC.2.2.2.2 _ w109) dX6_legSumLeft_29 ?_
          refine gf_J_amount hC hG (hC.2.2.2.2 _ w332) dX6_legSumLeft_32 ?_
          refine lv_iload hx hb dX6_legSumLeft_35 (lv_at hl 0 rfl) ?_
          refine al_J_amount hC hG (by omega) dX6_legSumLeft_37 ?_
          refine lv_ladd hx hb dX6_legSumLeft_38 ?_
          refine lv_lstore_n (lv' := [(2, .long (fGSum 0 u w i + (J_amount u i))), (4, .int (nI i)), (0, .ref (a 8)), (1, .int (nI w))]) hx hb dX6_legSumLeft_39 rfl hl (by decide) rfl (fun ls hl => ?_)
          refine lv_iinc (v := (nI (i + 1))) (lv' := [(4, .int (nI (i + 1))), (2, .long (fGSum 0 u w i + (J_amount u i))), (0, .ref (a 8)), (1, .int (nI w))]) hx hb dX6_legSumLeft_40 hl (k := 1) rfl (nI_1 _) (by decide) rfl (fun ls hl => ?_)
          refine lv_goto (tgt := 5) hx hb dX6_legSumLeft_43 (by decide) ?_
          have e5_2 : fGSum 0 u w (i + 1) = (fGSum 0 u w i + (J_amount u i)) := by simp [fGSum, h14, h24]
          have hl : lv_has ls 5 [(4, .int (nI (i + 1))), (2, .long (fGSum 0 u w (i + 1))), (0, .ref (a 8)), (1, .int (nI w))] := by rw [e5_2]; exact hl
          exact ih5  (i + 1) (by omega) (by omega) H locs hG ls (lv_sub hl [0, 1, 2, 3] rfl)
  have e5_3 : fGSum 0 u w 0 = (0 : Int64) := by rfl
  have hl : lv_has ls 5 [(4, .int (nI 0)), (2, .long (fGSum 0 u w 0)), (0, .ref (a 8)), (1, .int (nI w))] := by rw [e5_3]; exact hl
  exact lp5 _ 0 (Nat.lt_succ_self _) (by omega) H locs hG ls (lv_sub hl [0, 1, 2, 3] rfl)
theorem k_M0_legSumLeft {p : Program} {l : Launch} {e : Env} {R : Room} {s : State} {m : MethodId} {args : Array Value} {below : List Frame} {meth : Method} {c : Code} {H : Heap} {locs : List Loc} {cs ss : Nat} {Q : State → Prop} {cc : ByteArray} {nL pc : Nat} {ls : Array Slot} {rest : List Value} {own : String} {idx : Nat} {D : va_G} {κ : ClassId × ClassId × ClassId} {a : Nat → Nat} {u : TS} {A : Nat → Prop} (hC : CallFix p m c cc nL s args WALL own) (hG : GW D κ a u A s H locs) (w : Nat) (q1 : OK u) (q2 : w < 600) (wl : Cond.methodLink own idx yX6_legSumLeft ∈ WALL) (hR : 2 + 1 ≤ R.frames ∧ 8 + (5 + 11) + 43 ≤ R.locals) (hls : ls.size = nL) (h8 : (rest.map fun v => v.category).sum ≤ 8) (hd : decode cc pc = .ok (.invokevirtual idx, 3)) (hcs : cs ≤ R.cells ∧ ss ≤ R.slots) (kk : ∀ (H1 : Heap) (locs1 : List Loc), GW D κ a u A s H1 locs1 → W p l e R s m args below meth c H1 locs1 cs ss Q (F0 m (pc + 3) ls (.long (fGSum 0 u w (J_legCount u)) :: rest))) : W p l e R s m args below meth c H locs cs ss Q (F0 m pc ls (.int (nI w) :: .ref (a 8) :: rest)) :=
  tc_l hG (tr_V (n := 1) (k := 8) (ci := 6) (As := [.int (nI w)]) hC hG (c_M0_legSumLeft l D κ a H.size u w q1 q2) rfl rfl wl w35 w394 w392 w393 (by decide +kernel) hR rfl hls rfl h8 hd hcs) (fun r u' H1 locs1 hq hG1 => by obtain ⟨rfl, rfl⟩ := hq; exact kk H1 locs1 hG1)

theorem dX6_freeLegsOf_0 : decode cX6_freeLegsOf 0 = .ok (.aload_n 0, 1) := by decide +kernel
theorem dX6_freeLegsOf_1 : decode cX6_freeLegsOf 1 = .ok (.getfield 21, 3) := by decide +kernel
theorem dX6_freeLegsOf_10 : decode cX6_freeLegsOf 10 = .ok (.iload_n 2, 1) := by decide +kernel
theorem dX6_freeLegsOf_11 : decode cX6_freeLegsOf 11 = .ok (.istore_n 3, 1) := by decide +kernel
theorem dX6_freeLegsOf_12 : decode cX6_freeLegsOf 12 = .ok (.iload_n 3, 1) := by decide +kernel
theorem dX6_freeLegsOf_13 : decode cX6_freeLegsOf 13 = .ok (.iload_n 2, 1) := by decide +kernel
theorem dX6_freeLegsOf_14 : decode cX6_freeLegsOf 14 = .ok (.aload_n 0, 1) := by decide +kernel
theorem dX6_freeLegsOf_15 : decode cX6_freeLegsOf 15 = .ok (.getfield 21, 3) := by decide +kernel
theorem dX6_freeLegsOf_18 : decode cX6_freeLegsOf 18 = .ok (.getfield 111, 3) := by decide +kernel
theorem dX6_freeLegsOf_21 : decode cX6_freeLegsOf 21 = .ok (.iload_n 1, 1) := by decide +kernel
theorem dX6_freeLegsOf_22 : decode cX6_freeLegsOf 22 = .ok (.iaload, 1) := by decide +kernel
theorem dX6_freeLegsOf_23 : decode cX6_freeLegsOf 23 = .ok (.iadd, 1) := by decide +kernel
theorem dX6_freeLegsOf_24 : decode cX6_freeLegsOf 24 = .ok (.if_icmp .ge 29, 3) := by decide +kernel
theorem dX6_freeLegsOf_27 : decode cX6_freeLegsOf 27 = .ok (.aload_n 0, 1) := by decide +kernel
theorem dX6_freeLegsOf_28 : decode cX6_freeLegsOf 28 = .ok (.getfield 9, 3) := by decide +kernel
theorem dX6_freeLegsOf_31 : decode cX6_freeLegsOf 31 = .ok (.iload_n 3, 1) := by decide +kernel
theorem dX6_freeLegsOf_32 : decode cX6_freeLegsOf 32 = .ok (.iaload, 1) := by decide +kernel
theorem dX6_freeLegsOf_33 : decode cX6_freeLegsOf 33 = .ok (.iconst (-1), 1) := by decide +kernel
theorem dX6_freeLegsOf_34 : decode cX6_freeLegsOf 34 = .ok (.if_icmp .eq 13, 3) := by decide +kernel
theorem dX6_freeLegsOf_37 : decode cX6_freeLegsOf 37 = .ok (.aload_n 0, 1) := by decide +kernel
theorem dX6_freeLegsOf_38 : decode cX6_freeLegsOf 38 = .ok (.aload_n 0, 1) := by decide +kernel
theorem dX6_freeLegsOf_39 : decode cX6_freeLegsOf 39 = .ok (.getfield 9, 3) := by decide +kernel
theorem dX6_freeLegsOf_4 : decode cX6_freeLegsOf 4 = .ok (.getfield 108, 3) := by decide +kernel
theorem dX6_freeLegsOf_42 : decode cX6_freeLegsOf 42 = .ok (.iload_n 3, 1) := by decide +kernel
theorem dX6_freeLegsOf_43 : decode cX6_freeLegsOf 43 = .ok (.iaload, 1) := by decide +kernel
theorem dX6_freeLegsOf_44 : decode cX6_freeLegsOf 44 = .ok (.invokevirtual 38, 3) := by decide +kernel
theorem dX6_freeLegsOf_47 : decode cX6_freeLegsOf 47 = .ok (.iinc 3 1, 3) := by decide +kernel
theorem dX6_freeLegsOf_50 : decode cX6_freeLegsOf 50 = .ok (.goto (-38), 3) := by decide +kernel
theorem dX6_freeLegsOf_53 : decode cX6_freeLegsOf 53 = .ok (.return_, 1) := by decide +kernel
theorem dX6_freeLegsOf_7 : decode cX6_freeLegsOf 7 = .ok (.iload_n 1, 1) := by decide +kernel
theorem dX6_freeLegsOf_8 : decode cX6_freeLegsOf 8 = .ok (.iaload, 1) := by decide +kernel
theorem dX6_freeLegsOf_9 : decode cX6_freeLegsOf 9 = .ok (.istore_n 2, 1) := by decide +kernel
set_option maxHeartbeats 4000000 in
set_option maxRecDepth 100000 in
theorem c_M0_freeLegsOf (l : Launch) (D : va_G) (κ : ClassId × ClassId × ClassId) (a : Nat → Nat) (sz : Nat) (u : TS) (en : Nat) (q1 : OK u) (q2 : en < J_count u) : TM l yX6_freeLegsOf cX6_freeLegsOf 4 none 1 21 D κ a u sz [.ref (a 8), .int (nI en)] (QV D κ a sz (fun u' => u' = fFrees 0 u (J_firstLeg u en) (J_legsOf u en))) := by
  refine TM.of (by decide +kernel) (Nat.le_of_ble_eq_true rfl) ?_
  intro p e s m below meth c ls hC hr hk hsz H locs hG hl
  have hx := hC.1
  have hb := hC.2.1
  have hl : lv_has ls 4 [(0, .ref (a 8)), (1, .int (nI en))] := hl
  have qok := q1
  have ⟨n1, n2, n3, n4, n5, n6, n7, n8, n9, n10⟩ := qok.n
  have k1 := q1.ent q2
  refine lv_aload_n hx hb dX6_freeLegsOf_0 rfl (lv_at hl 0 rfl) ?_
  refine gf_M0_journal hC hG (hC.2.2.2.2 _ w109) dX6_freeLegsOf_1 ?_
  refine gf_J_firstLeg hC hG (hC.2.2.2.2 _ w286) dX6_freeLegsOf_4 ?_
  refine lv_iload_n hx hb dX6_freeLegsOf_7 rfl (lv_at hl 1 rfl) ?_
  refine al_J_firstLeg hC hG (by omega) dX6_freeLegsOf_8 ?_
  refine lv_istore_n (lv' := [(2, .int (nI (J_firstLeg u en))), (0, .ref (a 8)), (1, .int (nI en))]) hx hb dX6_freeLegsOf_9 rfl hl (by decide) rfl (fun ls hl => ?_)
  refine lv_iload_n hx hb dX6_freeLegsOf_10 rfl (lv_at hl 0 rfl) ?_
  refine lv_istore_n (lv' := [(3, .int (nI (J_firstLeg u en))), (2, .int (nI (J_firstLeg u en))), (0, .ref (a 8)), (1, .int (nI en))]) hx hb dX6_freeLegsOf_11 rfl hl (by decide) rfl (fun ls hl => ?_)
  have lp12 : ∀ (n : Nat) (i : Nat), J_legsOf u en - i < n → (i ≤ J_legsOf u en) → ∀ (H : Heap) (locs : List Loc), GW D κ a (fFrees 0 u (J_firstLeg u en) i) (AA a sz) s H locs → ∀ ls : Array Slot, lv_has ls 4 [(3, .int (nI (J_firstLeg u en + i))), (2, .int (nI (J_firstLeg u en))), (0, .ref (a 8)), (1, .int (nI en))] → W p l e { frames := 1, cells := 0, slots := 0, locals := 21 } s m [.ref (a 8), .int (nI en)].toArray below meth c H locs 0 0 (MQ below (QV D κ a sz (fun u' => u' = fFrees 0 u (J_firstLeg u en) (J_legsOf u en))) [.ref (a 8), .int (nI en)].toArray s 0 0 (AA a sz)) (F0 m 12 ls []) := by
    intro n
    induction n with
    | zero =>
      intro i hm
      exact absurd hm (Nat.not_lt_zero _)
    | succ n ih12 =>
      intro i hm12 c12_1 H locs hG ls hl
      have ⟨f1, f2⟩ := fFrees_J 0 u (J_firstLeg u en) q1 i
      have f3 := f1.cnt
      have f4 := (f2.m0).1 (J_firstLeg u en + i)
      have f5 : J_legsOf (fFrees 0 u (J_firstLeg u en) i) en = J_legsOf u en := congrFun (congrFun f1.2.2.2.1 7) en
      refine lv_iload_n hx hb dX6_freeLegsOf_12 rfl (lv_at hl 0 rfl) ?_
      refine lv_iload_n hx hb dX6_freeLegsOf_13 rfl (lv_at hl 1 rfl) ?_
      refine lv_aload_n hx hb dX6_freeLegsOf_14 rfl (lv_at hl 2 rfl) ?_
      refine gf_M0_journal hC hG (hC.2.2.2.2 _ w109) dX6_freeLegsOf_15 ?_
      refine gf_J_legsOf hC hG (hC.2.2.2.2 _ w287) dX6_freeLegsOf_18 ?_
      refine lv_iload_n hx hb dX6_freeLegsOf_21 rfl (lv_at hl 3 rfl) ?_
      refine al_J_legsOf hC hG (by omega) dX6_freeLegsOf_22 ?_
      refine ar_iadd hx hb dX6_freeLegsOf_23 ?_
      refine bn_ge (tgt := 53) hx hb (by omega) (by omega) dX6_freeLegsOf_24 (by decide) (fun h24 => ?_) (fun h24 => ?_)
      · have hi : i = J_legsOf u en := by omega
        exact te_v hC hG hr hk (by rw [hi]) dX6_freeLegsOf_53
      · refine lv_aload_n hx hb dX6_freeLegsOf_27 rfl (lv_at hl 2 rfl) ?_
        refine gf_M0_lineOfLeg hC hG (hC.2.2.2.2 _ w106) dX6_freeLegsOf_28 ?_
        refine lv_iload_n hx hb dX6_freeLegsOf_31 rfl (lv_at hl 0 rfl) ?_
        refine al_M0_lineOfLeg hC hG (by omega) dX6_freeLegsOf_32 ?_
        refine lv_iconst (v := -1) hx hb dX6_freeLegsOf_33 (by decide) ?_
        refine bo_eq (tgt := 47) hx hb (by intro j9 e9; have := f4 j9 e9; omega) dX6_freeLegsOf_34 (by decide) (fun h34 => ?_) (fun h34 => ?_)
        · refine lv_iinc (v := (nI ((J_firstLeg u en + i) + 1))) (lv' := [(3, .int (nI ((J_firstLeg u en + i) + 1))), (2, .int (nI (J_firstLeg u en))), (0, .ref (a 8)), (1, .int (nI en))]) hx hb dX6_freeLegsOf_47 hl (k := 0) rfl (nI_1 _) (by decide) rfl (fun ls hl => ?_)
          refine lv_goto (tgt := 12) hx hb dX6_freeLegsOf_50 (by decide) ?_
          have e12_1 : (J_firstLeg u en + (i + 1)) = ((J_firstLeg u en + i) + 1) := by omega
          have hl : lv_has ls 4 [(3, .int (nI (J_firstLeg u en + (i + 1)))), (2, .int (nI (J_firstLeg u en))), (0, .ref (a 8)), (1, .int (nI en))] := by rw [e12_1]; exact hl
          have hG : GW D κ a (fFrees 0 u (J_firstLeg u en) (i + 1)) (AA a sz) s H locs := by
            have eu : (fFrees 0 u (J_firstLeg u en) (i + 1)) = (fFrees 0 u (J_firstLeg u en) i) := by simp [fFrees, mLo, h24, h34]
            rw [eu]; exact hG
          exact ih12  (i + 1) (by omega) (by omega) H locs hG ls (lv_sub hl [0, 1, 2, 3] rfl)
        · obtain ⟨j, ej⟩ := Option.ne_none_iff_exists'.mp h34
          refine lv_aload_n hx hb dX6_freeLegsOf_37 rfl (lv_at hl 2 rfl) ?_
          refine lv_aload_n hx hb dX6_freeLegsOf_38 rfl (lv_at hl 2 rfl) ?_
          refine gf_M0_lineOfLeg hC hG (hC.2.2.2.2 _ w106) dX6_freeLegsOf_39 ?_
          refine lv_iload_n hx hb dX6_freeLegsOf_42 rfl (lv_at hl 0 rfl) ?_
          refine al_M0_lineOfLeg hC hG (by omega) dX6_freeLegsOf_43 ?_
          rw [ej]
          refine W.eq (g2 := F0 m 44 ls [.int (nI j), .ref (a 8)]) rfl ?_
          refine k_M0_freeLine hC hG j (f2) (by have := f4 j ej; omega) w288 ⟨by decide, by decide⟩ hl.1 (Nat.le_of_ble_eq_true rfl) dX6_freeLegsOf_44 ⟨Nat.zero_le _, Nat.zero_le _⟩ (fun H locs hG => ?_)
          refine lv_iinc (v := (nI ((J_firstLeg u en + i) + 1))) (lv' := [(3, .int (nI ((J_firstLeg u en + i) + 1))), (2, .int (nI (J_firstLeg u en))), (0, .ref (a 8)), (1, .int (nI en))]) hx hb dX6_freeLegsOf_47 hl (k := 0) rfl (nI_1 _) (by decide) rfl (fun ls hl => ?_)
          refine lv_goto (tgt := 12) hx hb dX6_freeLegsOf_50 (by decide) ?_
          have e12_3 : (J_firstLeg u en + (i + 1)) = ((J_firstLeg u en + i) + 1) := by omega
          have hl : lv_has ls 4 [(3, .int (nI (J_firstLeg u en + (i + 1)))), (2, .int (nI (J_firstLeg u en))), (0, .ref (a 8)), (1, .int (nI en))] := by rw [e12_3]; exact hl
          have hG : GW D κ a (fFrees 0 u (J_firstLeg u en) (i + 1)) (AA a sz) s H locs := by
            have eu : (fFrees 0 u (J_firstLeg u en) (i + 1)) = (fFree 0 (fFrees 0 u (J_firstLeg u en) i) j) := by rw [fFrees]; simp only [mLo, if_pos]; rw [ej]
            rw [eu]; exact hG
          exact ih12  (i + 1) (by omega) (by omega) H locs hG ls (lv_sub hl [0, 1, 2, 3] rfl)
  have e12_5 : (J_firstLeg u en + 0) = (J_firstLeg u en) := by rfl
  have hl : lv_has ls 4 [(3, .int (nI (J_firstLeg u en + 0))), (2, .int (nI (J_firstLeg u en))), (0, .ref (a 8)), (1, .int (nI en))] := by rw [e12_5]; exact hl
  have hG : GW D κ a (fFrees 0 u (J_firstLeg u en) 0) (AA a sz) s H locs := by
    have eu : (fFrees 0 u (J_firstLeg u en) 0) = u := by rfl
    rw [eu]; exact hG
  exact lp12 _ 0 (Nat.lt_succ_self _) (by omega) H locs hG ls (lv_sub hl [0, 1, 2, 3] rfl)
theorem k_M0_freeLegsOf {p : Program} {l : Launch} {e : Env} {R : Room} {s : State} {m : MethodId} {args : Array Value} {below : List Frame} {meth : Method} {c : Code} {H : Heap} {locs : List Loc} {cs ss : Nat} {Q : State → Prop} {cc : ByteArray} {nL pc : Nat} {ls : Array Slot} {rest : List Value} {own : String} {idx : Nat} {D : va_G} {κ : ClassId × ClassId × ClassId} {a : Nat → Nat} {u : TS} {A : Nat → Prop} (hC : CallFix p m c cc nL s args WALL own) (hG : GW D κ a u A s H locs) (en : Nat) (q1 : OK u) (q2 : en < J_count u) (wl : Cond.methodLink own idx yX6_freeLegsOf ∈ WALL) (hR : 1 + 1 ≤ R.frames ∧ 8 + (4 + 11) + 21 ≤ R.locals) (hls : ls.size = nL) (h8 : (rest.map fun v => v.category).sum ≤ 8) (hd : decode cc pc = .ok (.invokevirtual idx, 3)) (hcs : cs ≤ R.cells ∧ ss ≤ R.slots) (kk : ∀ (H1 : Heap) (locs1 : List Loc), GW D κ a (fFrees 0 u (J_firstLeg u en) (J_legsOf u en)) A s H1 locs1 → W p l e R s m args below meth c H1 locs1 cs ss Q (F0 m (pc + 3) ls (rest))) : W p l e R s m args below meth c H locs cs ss Q (F0 m pc ls (.int (nI en) :: .ref (a 8) :: rest)) :=
  tc_v hG (tr_V (n := 1) (k := 8) (ci := 6) (As := [.int (nI en)]) hC hG (c_M0_freeLegsOf l D κ a H.size u en q1 q2) rfl rfl wl w35 w285 w283 w284 (by decide +kernel) hR rfl hls rfl h8 hd hcs) (fun u' H1 locs1 hq hG1 => by subst hq; exact kk H1 locs1 hG1)

theorem dX6_bindNearest_0 : decode cX6_bindNearest 0 = .ok (.iconst (-1), 1) := by decide +kernel
theorem dX6_bindNearest_1 : decode cX6_bindNearest 1 = .ok (.istore_n 3, 1) := by decide +kernel
theorem dX6_bindNearest_100 : decode cX6_bindNearest 100 = .ok (.aload_n 0, 1) := by decide +kernel
theorem dX6_bindNearest_101 : decode cX6_bindNearest 101 = .ok (.iload_n 1, 1) := by decide +kernel
theorem dX6_bindNearest_102 : decode cX6_bindNearest 102 = .ok (.iload_n 3, 1) := by decide +kernel
theorem dX6_bindNearest_103 : decode cX6_bindNearest 103 = .ok (.iconst (-1), 1) := by decide +kernel
theorem dX6_bindNearest_104 : decode cX6_bindNearest 104 = .ok (.invokevirtual 101, 3) := by decide +kernel
theorem dX6_bindNearest_107 : decode cX6_bindNearest 107 = .ok (.return_, 1) := by decide +kernel
theorem dX6_bindNearest_11 : decode cX6_bindNearest 11 = .ok (.getfield 81, 3) := by decide +kernel
theorem dX6_bindNearest_14 : decode cX6_bindNearest 14 = .ok (.if_icmp .ge 81, 3) := by decide +kernel
theorem dX6_bindNearest_17 : decode cX6_bindNearest 17 = .ok (.aload_n 0, 1) := by decide +kernel
theorem dX6_bindNearest_18 : decode cX6_bindNearest 18 = .ok (.iload 4, 2) := by decide +kernel
theorem dX6_bindNearest_2 : decode cX6_bindNearest 2 = .ok (.iconst 0, 1) := by decide +kernel
theorem dX6_bindNearest_20 : decode cX6_bindNearest 20 = .ok (.aload_n 0, 1) := by decide +kernel
theorem dX6_bindNearest_21 : decode cX6_bindNearest 21 = .ok (.getfield 25, 3) := by decide +kernel
theorem dX6_bindNearest_24 : decode cX6_bindNearest 24 = .ok (.getfield 35, 3) := by decide +kernel
theorem dX6_bindNearest_27 : decode cX6_bindNearest 27 = .ok (.iload_n 1, 1) := by decide +kernel
theorem dX6_bindNearest_28 : decode cX6_bindNearest 28 = .ok (.iaload, 1) := by decide +kernel
theorem dX6_bindNearest_29 : decode cX6_bindNearest 29 = .ok (.invokevirtual 84, 3) := by decide +kernel
theorem dX6_bindNearest_3 : decode cX6_bindNearest 3 = .ok (.istore 4, 2) := by decide +kernel
theorem dX6_bindNearest_32 : decode cX6_bindNearest 32 = .ok (.ifCond .eq 57, 3) := by decide +kernel
theorem dX6_bindNearest_35 : decode cX6_bindNearest 35 = .ok (.aload_n 0, 1) := by decide +kernel
theorem dX6_bindNearest_36 : decode cX6_bindNearest 36 = .ok (.getfield 21, 3) := by decide +kernel
theorem dX6_bindNearest_39 : decode cX6_bindNearest 39 = .ok (.getfield 87, 3) := by decide +kernel
theorem dX6_bindNearest_42 : decode cX6_bindNearest 42 = .ok (.iload 4, 2) := by decide +kernel
theorem dX6_bindNearest_44 : decode cX6_bindNearest 44 = .ok (.laload, 1) := by decide +kernel
theorem dX6_bindNearest_45 : decode cX6_bindNearest 45 = .ok (.aload_n 0, 1) := by decide +kernel
theorem dX6_bindNearest_46 : decode cX6_bindNearest 46 = .ok (.getfield 25, 3) := by decide +kernel
theorem dX6_bindNearest_49 : decode cX6_bindNearest 49 = .ok (.getfield 91, 3) := by decide +kernel
theorem dX6_bindNearest_5 : decode cX6_bindNearest 5 = .ok (.iload 4, 2) := by decide +kernel
theorem dX6_bindNearest_52 : decode cX6_bindNearest 52 = .ok (.iload_n 1, 1) := by decide +kernel
theorem dX6_bindNearest_53 : decode cX6_bindNearest 53 = .ok (.iaload, 1) := by decide +kernel
theorem dX6_bindNearest_54 : decode cX6_bindNearest 54 = .ok (.i2l, 1) := by decide +kernel
theorem dX6_bindNearest_55 : decode cX6_bindNearest 55 = .ok (.lcmp, 1) := by decide +kernel
theorem dX6_bindNearest_56 : decode cX6_bindNearest 56 = .ok (.ifCond .ne 33, 3) := by decide +kernel
theorem dX6_bindNearest_59 : decode cX6_bindNearest 59 = .ok (.aload_n 0, 1) := by decide +kernel
theorem dX6_bindNearest_60 : decode cX6_bindNearest 60 = .ok (.iload 4, 2) := by decide +kernel
theorem dX6_bindNearest_62 : decode cX6_bindNearest 62 = .ok (.iload_n 1, 1) := by decide +kernel
theorem dX6_bindNearest_63 : decode cX6_bindNearest 63 = .ok (.invokevirtual 93, 3) := by decide +kernel
theorem dX6_bindNearest_66 : decode cX6_bindNearest 66 = .ok (.iload_n 2, 1) := by decide +kernel
theorem dX6_bindNearest_67 : decode cX6_bindNearest 67 = .ok (.if_icmp .gt 22, 3) := by decide +kernel
theorem dX6_bindNearest_7 : decode cX6_bindNearest 7 = .ok (.aload_n 0, 1) := by decide +kernel
theorem dX6_bindNearest_70 : decode cX6_bindNearest 70 = .ok (.iload_n 3, 1) := by decide +kernel
theorem dX6_bindNearest_71 : decode cX6_bindNearest 71 = .ok (.iconst (-1), 1) := by decide +kernel
theorem dX6_bindNearest_72 : decode cX6_bindNearest 72 = .ok (.if_icmp .eq 14, 3) := by decide +kernel
theorem dX6_bindNearest_75 : decode cX6_bindNearest 75 = .ok (.aload_n 0, 1) := by decide +kernel
theorem dX6_bindNearest_76 : decode cX6_bindNearest 76 = .ok (.iload 4, 2) := by decide +kernel
theorem dX6_bindNearest_78 : decode cX6_bindNearest 78 = .ok (.iload_n 3, 1) := by decide +kernel
theorem dX6_bindNearest_79 : decode cX6_bindNearest 79 = .ok (.iload_n 1, 1) := by decide +kernel
theorem dX6_bindNearest_8 : decode cX6_bindNearest 8 = .ok (.getfield 21, 3) := by decide +kernel
theorem dX6_bindNearest_80 : decode cX6_bindNearest 80 = .ok (.invokevirtual 97, 3) := by decide +kernel
theorem dX6_bindNearest_83 : decode cX6_bindNearest 83 = .ok (.ifCond .eq 6, 3) := by decide +kernel
theorem dX6_bindNearest_86 : decode cX6_bindNearest 86 = .ok (.iload 4, 2) := by decide +kernel
theorem dX6_bindNearest_88 : decode cX6_bindNearest 88 = .ok (.istore_n 3, 1) := by decide +kernel
theorem dX6_bindNearest_89 : decode cX6_bindNearest 89 = .ok (.iinc 4 1, 3) := by decide +kernel
theorem dX6_bindNearest_92 : decode cX6_bindNearest 92 = .ok (.goto (-87), 3) := by decide +kernel
theorem dX6_bindNearest_95 : decode cX6_bindNearest 95 = .ok (.iload_n 3, 1) := by decide +kernel
theorem dX6_bindNearest_96 : decode cX6_bindNearest 96 = .ok (.iconst (-1), 1) := by decide +kernel
theorem dX6_bindNearest_97 : decode cX6_bindNearest 97 = .ok (.if_icmp .eq 10, 3) := by decide +kernel
set_option maxHeartbeats 4000000 in
set_option maxRecDepth 100000 in
theorem c_M0_bindNearest (l : Launch) (D : va_G) (κ : ClassId × ClassId × ClassId) (a : Nat → Nat) (sz : Nat) (u : TS) (x : Nat) (dd : Nat) (q1 : OK u) (q2 : x < LI_count u) (q3 : dd < 600) : TM l yX6_bindNearest cX6_bindNearest 5 none 3 68 D κ a u sz [.ref (a 8), .int (nI x), .int (nI dd)] (QV D κ a sz (fun u' => u' = fNst 0 u x dd)) := by
  refine TM.of (by decide +kernel) (Nat.le_of_ble_eq_true rfl) ?_
  intro p e s m below meth c ls hC hr hk hsz H locs hG hl
  have hx := hC.1
  have hb := hC.2.1
  have hl : lv_has ls 5 [(0, .ref (a 8)), (1, .int (nI x)), (2, .int (nI dd))] := hl
  have qok := q1
  have ⟨n1, n2, n3, n4, n5, n6, n7, n8, n9, n10⟩ := qok.n
  have k0 := q1.line q2
  refine lv_iconst (v := -1) hx hb dX6_bindNearest_0 (by decide) ?_
  refine lv_istore_n (lv' := [(3, .int (-1)), (0, .ref (a 8)), (1, .int (nI x)), (2, .int (nI dd))]) hx hb dX6_bindNearest_1 rfl hl (by decide) rfl (fun ls hl => ?_)
  refine lv_iconst (v := nI 0) hx hb dX6_bindNearest_2 (by decide) ?_
  refine lv_istore (lv' := [(4, .int (nI 0)), (3, .int (-1)), (0, .ref (a 8)), (1, .int (nI x)), (2, .int (nI dd))]) hx hb dX6_bindNearest_3 hl (by decide) rfl (fun ls hl => ?_)
  have lp5 : ∀ (n : Nat) (i : Nat), J_legCount u - i < n → (i ≤ J_legCount u) → ∀ (H : Heap) (locs : List Loc), GW D κ a u (AA a sz) s H locs → ∀ ls : Array Slot, lv_has ls 5 [(4, .int (nI i)), (3, .int (oI (fBest 0 u x dd i))), (0, .ref (a 8)), (1, .int (nI x)), (2, .int (nI dd))] → W p l e { frames := 3, cells := 0, slots := 0, locals := 68 } s m [.ref (a 8), .int (nI x), .int (nI dd)].toArray below meth c H locs 0 0 (MQ below (QV D κ a sz (fun u' => u' = fNst 0 u x dd)) [.ref (a 8), .int (nI x), .int (nI dd)].toArray s 0 0 (AA a sz)) (F0 m 5 ls []) := by
    intro n
    induction n with
    | zero =>
      intro i hm
      exact absurd hm (Nat.not_lt_zero _)
    | succ n ih5 =>
      intro i hm5 c5_1 H locs hG ls hl
      have f1 := fBest_lt 0 u x dd i
      refine lv_iload hx hb dX6_bindNearest_5 (lv_at hl 0 rfl) ?_
      refine lv_aload_n hx hb dX6_bindNearest_7 rfl (lv_at hl 2 rfl) ?_
      refine gf_M0_journal hC hG (hC.2.2.2.2 _ w109) dX6_bindNearest_8 ?_
      refine gf_J_legCount hC hG (hC.2.2.2.2 _ w331) dX6_bindNearest_11 ?_
      refine bn_ge (tgt := 95) hx hb (by omega) (by omega) dX6_bindNearest_14 (by decide) (fun h14 => ?_) (fun h14 => ?_)
      · refine lv_iload_n hx hb dX6_bindNearest_95 rfl (lv_at hl 1 rfl) ?_
        refine lv_iconst (v := -1) hx hb dX6_bindNearest_96 (by decide) ?_
        refine bo_eq (tgt := 107) hx hb (by intro j9 e9; have := f1 j9 e9; omega) dX6_bindNearest_97 (by decide) (fun h97 => ?_) (fun h97 => ?_)
        · have hi : i = J_legCount u := by omega
          exact te_v hC hG hr hk (by unfold fNst; rw [← hi, h97]) dX6_bindNearest_107
        · obtain ⟨j, ej⟩ := Option.ne_none_iff_exists'.mp h97
          have hl0 := hl
          have hl : lv_has ls 5 [(4, .int (nI i)), (3, .int (nI j)), (0, .ref (a 8)), (1, .int (nI x)), (2, .int (nI dd))] := by rw [ej] at hl; exact hl
          refine lv_aload_n hx hb dX6_bindNearest_100 rfl (lv_at hl 2 rfl) ?_
          refine lv_iload_n hx hb dX6_bindNearest_101 rfl (lv_at hl 3 rfl) ?_
          refine lv_iload_n hx hb dX6_bindNearest_102 rfl (lv_at hl 1 rfl) ?_
          refine lv_iconst (v := -1) hx hb dX6_bindNearest_103 (by decide) ?_
          refine W.eq (g2 := F0 m 104 ls [.int (oI none), .int (nI j), .int (nI x), .ref (a 8)]) rfl ?_
          refine k_M0_bind hC hG x j none (q1) (q2) (by have := f1 j ej; omega) (by intro g e9; cases e9) w353 ⟨by decide, by decide⟩ hl.1 (Nat.le_of_ble_eq_true rfl) dX6_bindNearest_104 ⟨Nat.zero_le _, Nat.zero_le _⟩ (fun H locs hG => ?_)
          have hi : i = J_legCount u := by omega
          exact te_v hC hG hr hk (by unfold fNst; rw [← hi, ej]) dX6_bindNearest_107
      · have k1 := q1.leg (g := i) (by omega)
        have k2 := q1.ent k1.1
        have k4 : fDayOf u i ≤ 364 := k2.2.1
        have k3 : fAway u i x ≤ 364 := by unfold fAway; split <;> omega
        refine lv_aload_n hx hb dX6_bindNearest_17 rfl (lv_at hl 2 rfl) ?_
        refine lv_iload hx hb dX6_bindNearest_18 (lv_at hl 0 rfl) ?_
        refine lv_aload_n hx hb dX6_bindNearest_20 rfl (lv_at hl 2 rfl) ?_
        refine gf_M0_lines hC hG (hC.2.2.2.2 _ w110) dX6_bindNearest_21 ?_
        refine gf_LI_account hC hG (hC.2.2.2.2 _ w321) dX6_bindNearest_24 ?_
        refine lv_iload_n hx hb dX6_bindNearest_27 rfl (lv_at hl 3 rfl) ?_
        refine al_LI_account hC hG (by omega) dX6_bindNearest_28 ?_
        refine k_M0_isLegLeft hC hG i (LI_account u x) (q1) (by omega) (by omega) w334 ⟨by decide, by decide⟩ hl.1 (Nat.le_of_ble_eq_true rfl) dX6_bindNearest_29 ⟨Nat.zero_le _, Nat.zero_le _⟩ (fun H locs hG => ?_)
        refine bb_eq (tgt := 89) hx hb dX6_bindNearest_32 (by decide) (fun h32 => ?_) (fun h32 => ?_)
        · refine lv_iinc (v := (nI (i + 1))) (lv' := [(4, .int (nI (i + 1))), (3, .int (oI (fBest 0 u x dd i))), (0, .ref (a 8)), (1, .int (nI x)), (2, .int (nI dd))]) hx hb dX6_bindNearest_89 hl (k := 0) rfl (nI_1 _) (by decide) rfl (fun ls hl => ?_)
          refine lv_goto (tgt := 5) hx hb dX6_bindNearest_92 (by decide) ?_
          have e5_1 : fBest 0 u x dd (i + 1) = fBest 0 u x dd i := by rw [fBest, if_neg]; rintro ⟨p1, p2, p3, p4⟩; first | exact Bool.false_ne_true (h32.symm.trans p1) | exact h55 p2 | omega | (rw [ej] at p4; exact Bool.false_ne_true (h83.symm.trans p4))
          have hl : lv_has ls 5 [(4, .int (nI (i + 1))), (3, .int (oI (fBest 0 u x dd (i + 1)))), (0, .ref (a 8)), (1, .int (nI x)), (2, .int (nI dd))] := by rw [e5_1]; exact hl
          exact ih5  (i + 1) (by omega) (by omega) H locs hG ls (lv_sub hl [0, 1, 2, 3, 4] rfl)
        · refine lv_aload_n hx hb dX6_bindNearest_35 rfl (lv_at hl 2 rfl) ?_
          refine gf_M0_journal hC hG (hC.2.2.2.2 _ w109) dX6_bindNearest_36 ?_
          refine gf_J_amount hC hG (hC.2.2.2.2 _ w332) dX6_bindNearest_39 ?_
          refine lv_iload hx hb dX6_bindNearest_42 (lv_at hl 0 rfl) ?_
          refine al_J_amount hC hG (by omega) dX6_bindNearest_44 ?_
          refine lv_aload_n hx hb dX6_bindNearest_45 rfl (lv_at hl 2 rfl) ?_
          refine gf_M0_lines hC hG (hC.2.2.2.2 _ w110) dX6_bindNearest_46 ?_
          refine gf_LI_amount hC hG (hC.2.2.2.2 _ w333) dX6_bindNearest_49 ?_
          refine lv_iload_n hx hb dX6_bindNearest_52 rfl (lv_at hl 3 rfl) ?_
          refine al_LI_amount hC hG (by omega) dX6_bindNearest_53 ?_
          refine lv_i2l hx hb dX6_bindNearest_54 rfl ?_
          refine bl_ne (tgt := 89) hx hb dX6_bindNearest_55 dX6_bindNearest_56 (by decide) (fun h55 => ?_) (fun h55 => ?_)
          · refine lv_iinc (v := (nI (i + 1))) (lv' := [(4, .int (nI (i + 1))), (3, .int (oI (fBest 0 u x dd i))), (0, .ref (a 8)), (1, .int (nI x)), (2, .int (nI dd))]) hx hb dX6_bindNearest_89 hl (k := 0) rfl (nI_1 _) (by decide) rfl (fun ls hl => ?_)
            refine lv_goto (tgt := 5) hx hb dX6_bindNearest_92 (by decide) ?_
            have e5_2 : fBest 0 u x dd (i + 1) = fBest 0 u x dd i := by rw [fBest, if_neg]; rintro ⟨p1, p2, p3, p4⟩; first | exact Bool.false_ne_true (h32.symm.trans p1) | exact h55 p2 | omega | (rw [ej] at p4; exact Bool.false_ne_true (h83.symm.trans p4))
            have hl : lv_has ls 5 [(4, .int (nI (i + 1))), (3, .int (oI (fBest 0 u x dd (i + 1)))), (0, .ref (a 8)), (1, .int (nI x)), (2, .int (nI dd))] := by rw [e5_2]; exact hl
            exact ih5  (i + 1) (by omega) (by omega) H locs hG ls (lv_sub hl [0, 1, 2, 3, 4] rfl)
          · refine lv_aload_n hx hb dX6_bindNearest_59 rfl (lv_at hl 2 rfl) ?_
            refine lv_iload hx hb dX6_bindNearest_60 (lv_at hl 0 rfl) ?_
            refine lv_iload_n hx hb dX6_bindNearest_62 rfl (lv_at hl 3 rfl) ?_
            refine k_M0_away hC hG i x (q1) (by omega) (q2) w340 ⟨by decide, by decide⟩ hl.1 (Nat.le_of_ble_eq_true rfl) dX6_bindNearest_63 ⟨Nat.zero_le _, Nat.zero_le _⟩ (fun H locs hG => ?_)
            refine lv_iload_n hx hb dX6_bindNearest_66 rfl (lv_at hl 4 rfl) ?_
            refine bn_gt (tgt := 89) hx hb (by omega) (by omega) dX6_bindNearest_67 (by decide) (fun h67 => ?_) (fun h67 => ?_)
            · refine lv_iinc (v := (nI (i + 1))) (lv' := [(4, .int (nI (i + 1))), (3, .int (oI (fBest 0 u x dd i))), (0, .ref (a 8)), (1, .int (nI x)), (2, .int (nI dd))]) hx hb dX6_bindNearest_89 hl (k := 0) rfl (nI_1 _) (by decide) rfl (fun ls hl => ?_)
              refine lv_goto (tgt := 5) hx hb dX6_bindNearest_92 (by decide) ?_
              have e5_3 : fBest 0 u x dd (i + 1) = fBest 0 u x dd i := by rw [fBest, if_neg]; rintro ⟨p1, p2, p3, p4⟩; first | exact Bool.false_ne_true (h32.symm.trans p1) | exact h55 p2 | omega | (rw [ej] at p4; exact Bool.false_ne_true (h83.symm.trans p4))
              have hl : lv_has ls 5 [(4, .int (nI (i + 1))), (3, .int (oI (fBest 0 u x dd (i + 1)))), (0, .ref (a 8)), (1, .int (nI x)), (2, .int (nI dd))] := by rw [e5_3]; exact hl
              exact ih5  (i + 1) (by omega) (by omega) H locs hG ls (lv_sub hl [0, 1, 2, 3, 4] rfl)
            · refine lv_iload_n hx hb dX6_bindNearest_70 rfl (lv_at hl 1 rfl) ?_
              refine lv_iconst (v := -1) hx hb dX6_bindNearest_71 (by decide) ?_
              refine bo_eq (tgt := 86) hx hb (by intro j9 e9; have := f1 j9 e9; omega) dX6_bindNearest_72 (by decide) (fun h72 => ?_) (fun h72 => ?_)
              · refine lv_iload hx hb dX6_bindNearest_86 (lv_at hl 0 rfl) ?_
                refine lv_istore_n (lv' := [(3, .int (nI i)), (4, .int (nI i)), (0, .ref (a 8)), (1, .int (nI x)), (2, .int (nI dd))]) hx hb dX6_bindNearest_88 rfl hl (by decide) rfl (fun ls hl => ?_)
                refine lv_iinc (v := (nI (i + 1))) (lv' := [(4, .int (nI (i + 1))), (3, .int (nI i)), (0, .ref (a 8)), (1, .int (nI x)), (2, .int (nI dd))]) hx hb dX6_bindNearest_89 hl (k := 1) rfl (nI_1 _) (by decide) rfl (fun ls hl => ?_)
                refine lv_goto (tgt := 5) hx hb dX6_bindNearest_92 (by decide) ?_
                have e5_4 : fBest 0 u x dd (i + 1) = (some i) := by rw [fBest, if_pos ⟨h32, h55, h67, by first | (rw [h72]; rfl) | (rw [ej]; exact h83)⟩]
                have hl : lv_has ls 5 [(4, .int (nI (i + 1))), (3, .int (oI (fBest 0 u x dd (i + 1)))), (0, .ref (a 8)), (1, .int (nI x)), (2, .int (nI dd))] := by rw [e5_4]; exact hl
                exact ih5  (i + 1) (by omega) (by omega) H locs hG ls (lv_sub hl [0, 1, 2, 3, 4] rfl)
              · obtain ⟨j, ej⟩ := Option.ne_none_iff_exists'.mp h72
                have hl0 := hl
                have hl : lv_has ls 5 [(4, .int (nI i)), (3, .int (nI j)), (0, .ref (a 8)), (1, .int (nI x)), (2, .int (nI dd))] := by rw [ej] at hl; exact hl
                refine lv_aload_n hx hb dX6_bindNearest_75 rfl (lv_at hl 2 rfl) ?_
                refine lv_iload hx hb dX6_bindNearest_76 (lv_at hl 0 rfl) ?_
                refine lv_iload_n hx hb dX6_bindNearest_78 rfl (lv_at hl 1 rfl) ?_
                refine lv_iload_n hx hb dX6_bindNearest_79 rfl (lv_at hl 3 rfl) ?_
                refine k_M0_isNearer hC hG i j x (q1) (by omega) (by have := f1 j ej; omega) (q2) w349 ⟨by decide, by decide⟩ hl.1 (Nat.le_of_ble_eq_true rfl) dX6_bindNearest_80 ⟨Nat.zero_le _, Nat.zero_le _⟩ (fun H locs hG => ?_)
                refine bb_eq (tgt := 89) hx hb dX6_bindNearest_83 (by decide) (fun h83 => ?_) (fun h83 => ?_)
                · refine lv_iinc (v := (nI (i + 1))) (lv' := [(4, .int (nI (i + 1))), (3, .int (nI j)), (0, .ref (a 8)), (1, .int (nI x)), (2, .int (nI dd))]) hx hb dX6_bindNearest_89 hl (k := 0) rfl (nI_1 _) (by decide) rfl (fun ls hl => ?_)
                  refine lv_goto (tgt := 5) hx hb dX6_bindNearest_92 (by decide) ?_
                  have e5_5 : fBest 0 u x dd (i + 1) = (some j) := by rw [← ej]; rw [fBest, if_neg]; rintro ⟨p1, p2, p3, p4⟩; first | exact Bool.false_ne_true (h32.symm.trans p1) | exact h55 p2 | omega | (rw [ej] at p4; exact Bool.false_ne_true (h83.symm.trans p4))
                  have hl : lv_has ls 5 [(4, .int (nI (i + 1))), (3, .int (oI (fBest 0 u x dd (i + 1)))), (0, .ref (a 8)), (1, .int (nI x)), (2, .int (nI dd))] := by rw [e5_5]; exact hl
                  exact ih5  (i + 1) (by omega) (by omega) H locs hG ls (lv_sub hl [0, 1, 2, 3, 4] rfl)
                · refine lv_iload hx hb dX6_bindNearest_86 (lv_at hl 0 rfl) ?_
                  refine lv_istore_n (lv' := [(3, .int (nI i)), (4, .int (nI i)), (0, .ref (a 8)), (1, .int (nI x)), (2, .int (nI dd))]) hx hb dX6_bindNearest_88 rfl hl (by decide) rfl (fun ls hl => ?_)
                  refine lv_iinc (v := (nI (i + 1))) (lv' := [(4, .int (nI (i + 1))), (3, .int (nI i)), (0, .ref (a 8)), (1, .int (nI x)), (2, .int (nI dd))]) hx hb dX6_bindNearest_89 hl (k := 1) rfl (nI_1 _) (by decide) rfl (fun ls hl => ?_)
                  refine lv_goto (tgt := 5) hx hb dX6_bindNearest_92 (by decide) ?_
                  have e5_6 : fBest 0 u x dd (i + 1) = (some i) := by rw [fBest, if_pos ⟨h32, h55, h67, by first | (rw [h72]; rfl) | (rw [ej]; exact h83)⟩]
                  have hl : lv_has ls 5 [(4, .int (nI (i + 1))), (3, .int (oI (fBest 0 u x dd (i + 1)))), (0, .ref (a 8)), (1, .int (nI x)), (2, .int (nI dd))] := by rw [e5_6]; exact hl
                  exact ih5  (i + 1) (by omega) (by omega) H locs hG ls (lv_sub hl [0, 1, 2, 3, 4] rfl)
  have e5_7 : fBest 0 u x dd 0 = none := by rfl
  have hl : lv_has ls 5 [(4, .int (nI 0)), (3, .int (oI (fBest 0 u x dd 0))), (0, .ref (a 8)), (1, .int (nI x)), (2, .int (nI dd))] := by rw [e5_7]; exact hl
  exact lp5 _ 0 (Nat.lt_succ_self _) (by omega) H locs hG ls (lv_sub hl [0, 1, 2, 3, 4] rfl)
theorem k_M0_bindNearest {p : Program} {l : Launch} {e : Env} {R : Room} {s : State} {m : MethodId} {args : Array Value} {below : List Frame} {meth : Method} {c : Code} {H : Heap} {locs : List Loc} {cs ss : Nat} {Q : State → Prop} {cc : ByteArray} {nL pc : Nat} {ls : Array Slot} {rest : List Value} {own : String} {idx : Nat} {D : va_G} {κ : ClassId × ClassId × ClassId} {a : Nat → Nat} {u : TS} {A : Nat → Prop} (hC : CallFix p m c cc nL s args WALL own) (hG : GW D κ a u A s H locs) (x : Nat) (dd : Nat) (q1 : OK u) (q2 : x < LI_count u) (q3 : dd < 600) (wl : Cond.methodLink own idx yX6_bindNearest ∈ WALL) (hR : 3 + 1 ≤ R.frames ∧ 8 + (5 + 11) + 68 ≤ R.locals) (hls : ls.size = nL) (h8 : (rest.map fun v => v.category).sum ≤ 8) (hd : decode cc pc = .ok (.invokevirtual idx, 3)) (hcs : cs ≤ R.cells ∧ ss ≤ R.slots) (kk : ∀ (H1 : Heap) (locs1 : List Loc), GW D κ a (fNst 0 u x dd) A s H1 locs1 → W p l e R s m args below meth c H1 locs1 cs ss Q (F0 m (pc + 3) ls (rest))) : W p l e R s m args below meth c H locs cs ss Q (F0 m pc ls (.int (nI dd) :: .int (nI x) :: .ref (a 8) :: rest)) :=
  tc_v hG (tr_V (n := 2) (k := 8) (ci := 6) (As := [.int (nI x), .int (nI dd)]) hC hG (c_M0_bindNearest l D κ a H.size u x dd q1 q2 q3) rfl rfl wl w35 w330 w328 w329 (by decide +kernel) hR rfl hls rfl h8 hd hcs) (fun u' H1 locs1 hq hG1 => by subst hq; exact kk H1 locs1 hG1)

theorem dX6_secondBehind_0 : decode cX6_secondBehind 0 = .ok (.iload_n 1, 1) := by decide +kernel
theorem dX6_secondBehind_1 : decode cX6_secondBehind 1 = .ok (.iconst 1, 1) := by decide +kernel
theorem dX6_secondBehind_12 : decode cX6_secondBehind 12 = .ok (.if_icmp .ge 80, 3) := by decide +kernel
theorem dX6_secondBehind_15 : decode cX6_secondBehind 15 = .ok (.aload_n 0, 1) := by decide +kernel
theorem dX6_secondBehind_16 : decode cX6_secondBehind 16 = .ok (.iload_n 3, 1) := by decide +kernel
theorem dX6_secondBehind_17 : decode cX6_secondBehind 17 = .ok (.aload_n 0, 1) := by decide +kernel
theorem dX6_secondBehind_18 : decode cX6_secondBehind 18 = .ok (.getfield 25, 3) := by decide +kernel
theorem dX6_secondBehind_2 : decode cX6_secondBehind 2 = .ok (.iadd, 1) := by decide +kernel
theorem dX6_secondBehind_21 : decode cX6_secondBehind 21 = .ok (.getfield 35, 3) := by decide +kernel
theorem dX6_secondBehind_24 : decode cX6_secondBehind 24 = .ok (.iload_n 2, 1) := by decide +kernel
theorem dX6_secondBehind_25 : decode cX6_secondBehind 25 = .ok (.iaload, 1) := by decide +kernel
theorem dX6_secondBehind_26 : decode cX6_secondBehind 26 = .ok (.invokevirtual 84, 3) := by decide +kernel
theorem dX6_secondBehind_29 : decode cX6_secondBehind 29 = .ok (.ifCond .eq 57, 3) := by decide +kernel
theorem dX6_secondBehind_3 : decode cX6_secondBehind 3 = .ok (.istore_n 3, 1) := by decide +kernel
theorem dX6_secondBehind_32 : decode cX6_secondBehind 32 = .ok (.aload_n 0, 1) := by decide +kernel
theorem dX6_secondBehind_33 : decode cX6_secondBehind 33 = .ok (.getfield 21, 3) := by decide +kernel
theorem dX6_secondBehind_36 : decode cX6_secondBehind 36 = .ok (.iload_n 3, 1) := by decide +kernel
theorem dX6_secondBehind_37 : decode cX6_secondBehind 37 = .ok (.invokevirtual 70, 3) := by decide +kernel
theorem dX6_secondBehind_4 : decode cX6_secondBehind 4 = .ok (.iload_n 3, 1) := by decide +kernel
theorem dX6_secondBehind_40 : decode cX6_secondBehind 40 = .ok (.aload_n 0, 1) := by decide +kernel
theorem dX6_secondBehind_41 : decode cX6_secondBehind 41 = .ok (.getfield 21, 3) := by decide +kernel
theorem dX6_secondBehind_44 : decode cX6_secondBehind 44 = .ok (.iload_n 1, 1) := by decide +kernel
theorem dX6_secondBehind_45 : decode cX6_secondBehind 45 = .ok (.invokevirtual 70, 3) := by decide +kernel
theorem dX6_secondBehind_48 : decode cX6_secondBehind 48 = .ok (.if_icmp .ne 38, 3) := by decide +kernel
theorem dX6_secondBehind_5 : decode cX6_secondBehind 5 = .ok (.aload_n 0, 1) := by decide +kernel
theorem dX6_secondBehind_51 : decode cX6_secondBehind 51 = .ok (.aload_n 0, 1) := by decide +kernel
theorem dX6_secondBehind_52 : decode cX6_secondBehind 52 = .ok (.getfield 21, 3) := by decide +kernel
theorem dX6_secondBehind_55 : decode cX6_secondBehind 55 = .ok (.getfield 87, 3) := by decide +kernel
theorem dX6_secondBehind_58 : decode cX6_secondBehind 58 = .ok (.iload_n 1, 1) := by decide +kernel
theorem dX6_secondBehind_59 : decode cX6_secondBehind 59 = .ok (.laload, 1) := by decide +kernel
theorem dX6_secondBehind_6 : decode cX6_secondBehind 6 = .ok (.getfield 21, 3) := by decide +kernel
theorem dX6_secondBehind_60 : decode cX6_secondBehind 60 = .ok (.aload_n 0, 1) := by decide +kernel
theorem dX6_secondBehind_61 : decode cX6_secondBehind 61 = .ok (.getfield 21, 3) := by decide +kernel
theorem dX6_secondBehind_64 : decode cX6_secondBehind 64 = .ok (.getfield 87, 3) := by decide +kernel
theorem dX6_secondBehind_67 : decode cX6_secondBehind 67 = .ok (.iload_n 3, 1) := by decide +kernel
theorem dX6_secondBehind_68 : decode cX6_secondBehind 68 = .ok (.laload, 1) := by decide +kernel
theorem dX6_secondBehind_69 : decode cX6_secondBehind 69 = .ok (.ladd, 1) := by decide +kernel
theorem dX6_secondBehind_70 : decode cX6_secondBehind 70 = .ok (.aload_n 0, 1) := by decide +kernel
theorem dX6_secondBehind_71 : decode cX6_secondBehind 71 = .ok (.getfield 25, 3) := by decide +kernel
theorem dX6_secondBehind_74 : decode cX6_secondBehind 74 = .ok (.getfield 91, 3) := by decide +kernel
theorem dX6_secondBehind_77 : decode cX6_secondBehind 77 = .ok (.iload_n 2, 1) := by decide +kernel
theorem dX6_secondBehind_78 : decode cX6_secondBehind 78 = .ok (.iaload, 1) := by decide +kernel
theorem dX6_secondBehind_79 : decode cX6_secondBehind 79 = .ok (.i2l, 1) := by decide +kernel
theorem dX6_secondBehind_80 : decode cX6_secondBehind 80 = .ok (.lcmp, 1) := by decide +kernel
theorem dX6_secondBehind_81 : decode cX6_secondBehind 81 = .ok (.ifCond .ne 5, 3) := by decide +kernel
theorem dX6_secondBehind_84 : decode cX6_secondBehind 84 = .ok (.iload_n 3, 1) := by decide +kernel
theorem dX6_secondBehind_85 : decode cX6_secondBehind 85 = .ok (.ireturn, 1) := by decide +kernel
theorem dX6_secondBehind_86 : decode cX6_secondBehind 86 = .ok (.iinc 3 1, 3) := by decide +kernel
theorem dX6_secondBehind_89 : decode cX6_secondBehind 89 = .ok (.goto (-85), 3) := by decide +kernel
theorem dX6_secondBehind_9 : decode cX6_secondBehind 9 = .ok (.getfield 81, 3) := by decide +kernel
theorem dX6_secondBehind_92 : decode cX6_secondBehind 92 = .ok (.iconst (-1), 1) := by decide +kernel
theorem dX6_secondBehind_93 : decode cX6_secondBehind 93 = .ok (.ireturn, 1) := by decide +kernel
set_option maxHeartbeats 4000000 in
set_option maxRecDepth 100000 in
theorem c_M0_secondBehind (l : Launch) (D : va_G) (κ : ClassId × ClassId × ClassId) (a : Nat → Nat) (sz : Nat) (u : TS) (f : Nat) (x : Nat) (q1 : OK u) (q2 : f < J_legCount u) (q3 : x < LI_count u) : TM l yX6_secondBehind cX6_secondBehind 4 (some .int) 2 43 D κ a u sz [.ref (a 8), .int (nI f), .int (nI x)] (QI D κ a sz (fun r u' => r = (oI (fSec 0 u f x (J_legCount u - (f + 1)))) ∧ u' = u)) := by
  refine TM.of (by decide +kernel) (Nat.le_of_ble_eq_true rfl) ?_
  intro p e s m below meth c ls hC hr hk hsz H locs hG hl
  have hx := hC.1
  have hb := hC.2.1
  have hl : lv_has ls 4 [(0, .ref (a 8)), (1, .int (nI f)), (2, .int (nI x))] := hl
  have qok := q1
  have ⟨n1, n2, n3, n4, n5, n6, n7, n8, n9, n10⟩ := qok.n
  have k0 := q1.line q3
  have k9 := q1.leg q2
  have k8 := q1.ent k9.1
  have k7 : fDayOf u f ≤ 364 := k8.2.1
  refine lv_iload_n hx hb dX6_secondBehind_0 rfl (lv_at hl 1 rfl) ?_
  refine lv_iconst (v := nI 1) hx hb dX6_secondBehind_1 (by decide) ?_
  refine ar_iadd hx hb dX6_secondBehind_2 ?_
  refine lv_istore_n (lv' := [(3, .int (nI (f + 1))), (0, .ref (a 8)), (1, .int (nI f)), (2, .int (nI x))]) hx hb dX6_secondBehind_3 rfl hl (by decide) rfl (fun ls hl => ?_)
  have lp4 : ∀ (n : Nat) (i : Nat), J_legCount u - i < n → (i ≤ J_legCount u) → (fSec 0 u f x (J_legCount u - i) = fSec 0 u f x (J_legCount u - (f + 1))) → ∀ (H : Heap) (locs : List Loc), GW D κ a u (AA a sz) s H locs → ∀ ls : Array Slot, lv_has ls 4 [(3, .int (nI i)), (0, .ref (a 8)), (1, .int (nI f)), (2, .int (nI x))] → W p l e { frames := 2, cells := 0, slots := 0, locals := 43 } s m [.ref (a 8), .int (nI f), .int (nI x)].toArray below meth c H locs 0 0 (MQ below (QI D κ a sz (fun r u' => r = (oI (fSec 0 u f x (J_legCount u - (f + 1)))) ∧ u' = u)) [.ref (a 8), .int (nI f), .int (nI x)].toArray s 0 0 (AA a sz)) (F0 m 4 ls []) := by
    intro n
    induction n with
    | zero =>
      intro i hm
      exact absurd hm (Nat.not_lt_zero _)
    | succ n ih4 =>
      intro i hm4 c4_1 c4_2 H locs hG ls hl
      refine lv_iload_n hx hb dX6_secondBehind_4 rfl (lv_at hl 0 rfl) ?_
      refine lv_aload_n hx hb dX6_secondBehind_5 rfl (lv_at hl 1 rfl) ?_
      refine gf_M0_journal hC hG (hC.2.2.2.2 _ w109) dX6_secondBehind_6 ?_
      refine gf_J_legCount hC hG (hC.2.2.2.2 _ w331) dX6_secondBehind_9 ?_
      refine bn_ge (tgt := 92) hx hb (by omega) (by omega) dX6_secondBehind_12 (by decide) (fun h12 => ?_) (fun h12 => ?_)
      · refine lv_iconst (v := -1) hx hb dX6_secondBehind_92 (by decide) ?_
        exact te_i (v := (oI none)) hC hG hr hk ⟨(congrArg oI (show none = fSec 0 u f x (J_legCount u - (f + 1)) from by rw [← c4_2, show J_legCount u - i = 0 by omega]; rfl)), rfl⟩ dX6_secondBehind_93
      · have k1 := q1.leg (g := i) (by omega)
        have k2 := q1.ent k1.1
        have k4 : fDayOf u i ≤ 364 := k2.2.1
        refine lv_aload_n hx hb dX6_secondBehind_15 rfl (lv_at hl 1 rfl) ?_
        refine lv_iload_n hx hb dX6_secondBehind_16 rfl (lv_at hl 0 rfl) ?_
        refine lv_aload_n hx hb dX6_secondBehind_17 rfl (lv_at hl 1 rfl) ?_
        refine gf_M0_lines hC hG (hC.2.2.2.2 _ w110) dX6_secondBehind_18 ?_
        refine gf_LI_account hC hG (hC.2.2.2.2 _ w321) dX6_secondBehind_21 ?_
        refine lv_iload_n hx hb dX6_secondBehind_24 rfl (lv_at hl 3 rfl) ?_
        refine al_LI_account hC hG (by omega) dX6_secondBehind_25 ?_
        refine k_M0_isLegLeft hC hG i (LI_account u x) (q1) (by omega) (by omega) w334 ⟨by decide, by decide⟩ hl.1 (Nat.le_of_ble_eq_true rfl) dX6_secondBehind_26 ⟨Nat.zero_le _, Nat.zero_le _⟩ (fun H locs hG => ?_)
        refine bb_eq (tgt := 86) hx hb dX6_secondBehind_29 (by decide) (fun h29 => ?_) (fun h29 => ?_)
        · refine lv_iinc (v := (nI (i + 1))) (lv' := [(3, .int (nI (i + 1))), (0, .ref (a 8)), (1, .int (nI f)), (2, .int (nI x))]) hx hb dX6_secondBehind_86 hl (k := 0) rfl (nI_1 _) (by decide) rfl (fun ls hl => ?_)
          refine lv_goto (tgt := 4) hx hb dX6_secondBehind_89 (by decide) ?_
          exact ih4  (i + 1) (by omega) (by omega) (by rw [← c4_2]; obtain ⟨r, er⟩ : ∃ r, J_legCount u - i = r + 1 := ⟨J_legCount u - i - 1, by omega⟩; rw [er, fSec, show J_legCount u - (r + 1) = i by omega, if_neg (by rintro ⟨p1, p2, p3⟩; first | exact Bool.false_ne_true (h29.symm.trans p1) | exact h48 p2 | exact h80 p3), show J_legCount u - (i + 1) = r by omega]) H locs hG ls (lv_sub hl [0, 1, 2, 3] rfl)
        · refine lv_aload_n hx hb dX6_secondBehind_32 rfl (lv_at hl 1 rfl) ?_
          refine gf_M0_journal hC hG (hC.2.2.2.2 _ w109) dX6_secondBehind_33 ?_
          refine lv_iload_n hx hb dX6_secondBehind_36 rfl (lv_at hl 0 rfl) ?_
          refine k_J_dayOf hC hG i (by omega) (by omega) w348 ⟨by decide, by decide⟩ hl.1 (Nat.le_of_ble_eq_true rfl) dX6_secondBehind_37 ⟨Nat.zero_le _, Nat.zero_le _⟩ (fun H locs hG => ?_)
          refine lv_aload_n hx hb dX6_secondBehind_40 rfl (lv_at hl 1 rfl) ?_
          refine gf_M0_journal hC hG (hC.2.2.2.2 _ w109) dX6_secondBehind_41 ?_
          refine lv_iload_n hx hb dX6_secondBehind_44 rfl (lv_at hl 2 rfl) ?_
          refine k_J_dayOf hC hG f (by omega) (by omega) w348 ⟨by decide, by decide⟩ hl.1 (Nat.le_of_ble_eq_true rfl) dX6_secondBehind_45 ⟨Nat.zero_le _, Nat.zero_le _⟩ (fun H locs hG => ?_)
          refine bn_ne (tgt := 86) hx hb (by omega) (by omega) dX6_secondBehind_48 (by decide) (fun h48 => ?_) (fun h48 => ?_)
          · refine lv_iinc (v := (nI (i + 1))) (lv' := [(3, .int (nI (i + 1))), (0, .ref (a 8)), (1, .int (nI f)), (2, .int (nI x))]) hx hb dX6_secondBehind_86 hl (k := 0) rfl (nI_1 _) (by decide) rfl (fun ls hl => ?_)
            refine lv_goto (tgt := 4) hx hb dX6_secondBehind_89 (by decide) ?_
            exact ih4  (i + 1) (by omega) (by omega) (by rw [← c4_2]; obtain ⟨r, er⟩ : ∃ r, J_legCount u - i = r + 1 := ⟨J_legCount u - i - 1, by omega⟩; rw [er, fSec, show J_legCount u - (r + 1) = i by omega, if_neg (by rintro ⟨p1, p2, p3⟩; first | exact Bool.false_ne_true (h29.symm.trans p1) | exact h48 p2 | exact h80 p3), show J_legCount u - (i + 1) = r by omega]) H locs hG ls (lv_sub hl [0, 1, 2, 3] rfl)
          · refine lv_aload_n hx hb dX6_secondBehind_51 rfl (lv_at hl 1 rfl) ?_
            refine gf_M0_journal hC hG (hC.2.2.2.2 _ w109) dX6_secondBehind_52 ?_
            refine gf_J_amount hC hG (hC.2.2.2.2 _ w332) dX6_secondBehind_55 ?_
            refine lv_iload_n hx hb dX6_secondBehind_58 rfl (lv_at hl 2 rfl) ?_
            refine al_J_amount hC hG (by omega) dX6_secondBehind_59 ?_
            refine lv_aload_n hx hb dX6_secondBehind_60 rfl (lv_at hl 1 rfl) ?_
            refine gf_M0_journal hC hG (hC.2.2.2.2 _ w109) dX6_secondBehind_61 ?_
            refine gf_J_amount hC hG (hC.2.2.2.2 _ w332) dX6_secondBehind_64 ?_
            refine lv_iload_n hx hb dX6_secondBehind_67 rfl (lv_at hl 0 rfl) ?_
            refine al_J_amount hC hG (by omega) dX6_secondBehind_68 ?_
            refine lv_ladd hx hb dX6_secondBehind_69 ?_
            refine lv_aload_n hx hb dX6_secondBehind_70 rfl (lv_at hl 1 rfl) ?_
            refine gf_M0_lines hC hG (hC.2.2.2.2 _ w110) dX6_secondBehind_71 ?_
            refine gf_LI_amount hC hG (hC.2.2.2.2 _ w333) dX6_secondBehind_74 ?_
            refine lv_iload_n hx hb dX6_secondBehind_77 rfl (lv_at hl 3 rfl) ?_
            refine al_LI_amount hC hG (by omega) dX6_secondBehind_78 ?_
            refine lv_i2l hx hb dX6_secondBehind_79 rfl ?_
            refine bl_ne (tgt := 86) hx hb dX6_secondBehind_80 dX6_secondBehind_81 (by decide) (fun h80 => ?_) (fun h80 => ?_)
            · refine lv_iinc (v := (nI (i + 1))) (lv' := [(3, .int (nI (i + 1))), (0, .ref (a 8)), (1, .int (nI f)), (2, .int (nI x))]) hx hb dX6_secondBehind_86 hl (k := 0) rfl (nI_1 _) (by decide) rfl (fun ls hl => ?_)
              refine lv_goto (tgt := 4) hx hb dX6_secondBehind_89 (by decide) ?_
              exact ih4  (i + 1) (by omega) (by omega) (by rw [← c4_2]; obtain ⟨r, er⟩ : ∃ r, J_legCount u - i = r + 1 := ⟨J_legCount u - i - 1, by omega⟩; rw [er, fSec, show J_legCount u - (r + 1) = i by omega, if_neg (by rintro ⟨p1, p2, p3⟩; first | exact Bool.false_ne_true (h29.symm.trans p1) | exact h48 p2 | exact h80 p3), show J_legCount u - (i + 1) = r by omega]) H locs hG ls (lv_sub hl [0, 1, 2, 3] rfl)
            · refine lv_iload_n hx hb dX6_secondBehind_84 rfl (lv_at hl 0 rfl) ?_
              exact te_i (v := (oI (some i))) hC hG hr hk ⟨(congrArg oI (show (some i) = fSec 0 u f x (J_legCount u - (f + 1)) from by rw [← c4_2]; obtain ⟨r, er⟩ : ∃ r, J_legCount u - i = r + 1 := ⟨J_legCount u - i - 1, by omega⟩; rw [er, fSec, show J_legCount u - (r + 1) = i by omega, if_pos ⟨by assumption, by assumption, by assumption⟩])), rfl⟩ dX6_secondBehind_85
  exact lp4 _ (f + 1) (Nat.lt_succ_self _) (by omega) (rfl) H locs hG ls (lv_sub hl [0, 1, 2, 3] rfl)
theorem k_M0_secondBehind {p : Program} {l : Launch} {e : Env} {R : Room} {s : State} {m : MethodId} {args : Array Value} {below : List Frame} {meth : Method} {c : Code} {H : Heap} {locs : List Loc} {cs ss : Nat} {Q : State → Prop} {cc : ByteArray} {nL pc : Nat} {ls : Array Slot} {rest : List Value} {own : String} {idx : Nat} {D : va_G} {κ : ClassId × ClassId × ClassId} {a : Nat → Nat} {u : TS} {A : Nat → Prop} (hC : CallFix p m c cc nL s args WALL own) (hG : GW D κ a u A s H locs) (f : Nat) (x : Nat) (q1 : OK u) (q2 : f < J_legCount u) (q3 : x < LI_count u) (wl : Cond.methodLink own idx yX6_secondBehind ∈ WALL) (hR : 2 + 1 ≤ R.frames ∧ 8 + (4 + 11) + 43 ≤ R.locals) (hls : ls.size = nL) (h8 : (rest.map fun v => v.category).sum ≤ 8) (hd : decode cc pc = .ok (.invokevirtual idx, 3)) (hcs : cs ≤ R.cells ∧ ss ≤ R.slots) (kk : ∀ (H1 : Heap) (locs1 : List Loc), GW D κ a u A s H1 locs1 → W p l e R s m args below meth c H1 locs1 cs ss Q (F0 m (pc + 3) ls (.int (oI (fSec 0 u f x (J_legCount u - (f + 1)))) :: rest))) : W p l e R s m args below meth c H locs cs ss Q (F0 m pc ls (.int (nI x) :: .int (nI f) :: .ref (a 8) :: rest)) :=
  tc_i hG (tr_V (n := 2) (k := 8) (ci := 6) (As := [.int (nI f), .int (nI x)]) hC hG (c_M0_secondBehind l D κ a H.size u f x q1 q2 q3) rfl rfl wl w35 w364 w362 w363 (by decide +kernel) hR rfl hls rfl h8 hd hcs) (fun r u' H1 locs1 hq hG1 => by obtain ⟨rfl, rfl⟩ := hq; exact kk H1 locs1 hG1)

theorem dX6_bindFirstTwo_0 : decode cX6_bindFirstTwo 0 = .ok (.iconst 0, 1) := by decide +kernel
theorem dX6_bindFirstTwo_1 : decode cX6_bindFirstTwo 1 = .ok (.istore_n 3, 1) := by decide +kernel
theorem dX6_bindFirstTwo_10 : decode cX6_bindFirstTwo 10 = .ok (.if_icmp .ge 59, 3) := by decide +kernel
theorem dX6_bindFirstTwo_13 : decode cX6_bindFirstTwo 13 = .ok (.aload_n 0, 1) := by decide +kernel
theorem dX6_bindFirstTwo_14 : decode cX6_bindFirstTwo 14 = .ok (.iload_n 3, 1) := by decide +kernel
theorem dX6_bindFirstTwo_15 : decode cX6_bindFirstTwo 15 = .ok (.aload_n 0, 1) := by decide +kernel
theorem dX6_bindFirstTwo_16 : decode cX6_bindFirstTwo 16 = .ok (.getfield 25, 3) := by decide +kernel
theorem dX6_bindFirstTwo_19 : decode cX6_bindFirstTwo 19 = .ok (.getfield 35, 3) := by decide +kernel
theorem dX6_bindFirstTwo_2 : decode cX6_bindFirstTwo 2 = .ok (.iload_n 3, 1) := by decide +kernel
theorem dX6_bindFirstTwo_22 : decode cX6_bindFirstTwo 22 = .ok (.iload_n 1, 1) := by decide +kernel
theorem dX6_bindFirstTwo_23 : decode cX6_bindFirstTwo 23 = .ok (.iaload, 1) := by decide +kernel
theorem dX6_bindFirstTwo_24 : decode cX6_bindFirstTwo 24 = .ok (.invokevirtual 84, 3) := by decide +kernel
theorem dX6_bindFirstTwo_27 : decode cX6_bindFirstTwo 27 = .ok (.ifCond .eq 36, 3) := by decide +kernel
theorem dX6_bindFirstTwo_3 : decode cX6_bindFirstTwo 3 = .ok (.aload_n 0, 1) := by decide +kernel
theorem dX6_bindFirstTwo_30 : decode cX6_bindFirstTwo 30 = .ok (.aload_n 0, 1) := by decide +kernel
theorem dX6_bindFirstTwo_31 : decode cX6_bindFirstTwo 31 = .ok (.iload_n 3, 1) := by decide +kernel
theorem dX6_bindFirstTwo_32 : decode cX6_bindFirstTwo 32 = .ok (.iload_n 1, 1) := by decide +kernel
theorem dX6_bindFirstTwo_33 : decode cX6_bindFirstTwo 33 = .ok (.invokevirtual 93, 3) := by decide +kernel
theorem dX6_bindFirstTwo_36 : decode cX6_bindFirstTwo 36 = .ok (.iload_n 2, 1) := by decide +kernel
theorem dX6_bindFirstTwo_37 : decode cX6_bindFirstTwo 37 = .ok (.if_icmp .gt 26, 3) := by decide +kernel
theorem dX6_bindFirstTwo_4 : decode cX6_bindFirstTwo 4 = .ok (.getfield 21, 3) := by decide +kernel
theorem dX6_bindFirstTwo_40 : decode cX6_bindFirstTwo 40 = .ok (.aload_n 0, 1) := by decide +kernel
theorem dX6_bindFirstTwo_41 : decode cX6_bindFirstTwo 41 = .ok (.iload_n 3, 1) := by decide +kernel
theorem dX6_bindFirstTwo_42 : decode cX6_bindFirstTwo 42 = .ok (.iload_n 1, 1) := by decide +kernel
theorem dX6_bindFirstTwo_43 : decode cX6_bindFirstTwo 43 = .ok (.invokevirtual 105, 3) := by decide +kernel
theorem dX6_bindFirstTwo_46 : decode cX6_bindFirstTwo 46 = .ok (.istore 4, 2) := by decide +kernel
theorem dX6_bindFirstTwo_48 : decode cX6_bindFirstTwo 48 = .ok (.iload 4, 2) := by decide +kernel
theorem dX6_bindFirstTwo_50 : decode cX6_bindFirstTwo 50 = .ok (.iconst (-1), 1) := by decide +kernel
theorem dX6_bindFirstTwo_51 : decode cX6_bindFirstTwo 51 = .ok (.if_icmp .eq 12, 3) := by decide +kernel
theorem dX6_bindFirstTwo_54 : decode cX6_bindFirstTwo 54 = .ok (.aload_n 0, 1) := by decide +kernel
theorem dX6_bindFirstTwo_55 : decode cX6_bindFirstTwo 55 = .ok (.iload_n 1, 1) := by decide +kernel
theorem dX6_bindFirstTwo_56 : decode cX6_bindFirstTwo 56 = .ok (.iload_n 3, 1) := by decide +kernel
theorem dX6_bindFirstTwo_57 : decode cX6_bindFirstTwo 57 = .ok (.iload 4, 2) := by decide +kernel
theorem dX6_bindFirstTwo_59 : decode cX6_bindFirstTwo 59 = .ok (.invokevirtual 101, 3) := by decide +kernel
theorem dX6_bindFirstTwo_62 : decode cX6_bindFirstTwo 62 = .ok (.return_, 1) := by decide +kernel
theorem dX6_bindFirstTwo_63 : decode cX6_bindFirstTwo 63 = .ok (.iinc 3 1, 3) := by decide +kernel
theorem dX6_bindFirstTwo_66 : decode cX6_bindFirstTwo 66 = .ok (.goto (-64), 3) := by decide +kernel
theorem dX6_bindFirstTwo_69 : decode cX6_bindFirstTwo 69 = .ok (.return_, 1) := by decide +kernel
theorem dX6_bindFirstTwo_7 : decode cX6_bindFirstTwo 7 = .ok (.getfield 81, 3) := by decide +kernel
set_option maxHeartbeats 4000000 in
set_option maxRecDepth 100000 in
theorem c_M0_bindFirstTwo (l : Launch) (D : va_G) (κ : ClassId × ClassId × ClassId) (a : Nat → Nat) (sz : Nat) (u : TS) (x : Nat) (dd : Nat) (q1 : OK u) (q2 : x < LI_count u) (q3 : dd < 600) : TM l yX6_bindFirstTwo cX6_bindFirstTwo 5 none 3 66 D κ a u sz [.ref (a 8), .int (nI x), .int (nI dd)] (QV D κ a sz (fun u' => u' = fTwo 0 u x dd (J_legCount u))) := by
  refine TM.of (by decide +kernel) (Nat.le_of_ble_eq_true rfl) ?_
  intro p e s m below meth c ls hC hr hk hsz H locs hG hl
  have hx := hC.1
  have hb := hC.2.1
  have hl : lv_has ls 5 [(0, .ref (a 8)), (1, .int (nI x)), (2, .int (nI dd))] := hl
  have qok := q1
  have ⟨n1, n2, n3, n4, n5, n6, n7, n8, n9, n10⟩ := qok.n
  have k0 := q1.line q2
  refine lv_iconst (v := nI 0) hx hb dX6_bindFirstTwo_0 (by decide) ?_
  refine lv_istore_n (lv' := [(3, .int (nI 0)), (0, .ref (a 8)), (1, .int (nI x)), (2, .int (nI dd))]) hx hb dX6_bindFirstTwo_1 rfl hl (by decide) rfl (fun ls hl => ?_)
  have lp2 : ∀ (n : Nat) (i : Nat), J_legCount u - i < n → (i ≤ J_legCount u) → (fTwo 0 u x dd (J_legCount u - i) = fTwo 0 u x dd (J_legCount u)) → ∀ (H : Heap) (locs : List Loc), GW D κ a u (AA a sz) s H locs → ∀ ls : Array Slot, lv_has ls 5 [(3, .int (nI i)), (0, .ref (a 8)), (1, .int (nI x)), (2, .int (nI dd))] → W p l e { frames := 3, cells := 0, slots := 0, locals := 66 } s m [.ref (a 8), .int (nI x), .int (nI dd)].toArray below meth c H locs 0 0 (MQ below (QV D κ a sz (fun u' => u' = fTwo 0 u x dd (J_legCount u))) [.ref (a 8), .int (nI x), .int (nI dd)].toArray s 0 0 (AA a sz)) (F0 m 2 ls []) := by
    intro n
    induction n with
    | zero =>
      intro i hm
      exact absurd hm (Nat.not_lt_zero _)
    | succ n ih2 =>
      intro i hm2 c2_1 c2_2 H locs hG ls hl
      refine lv_iload_n hx hb dX6_bindFirstTwo_2 rfl (lv_at hl 0 rfl) ?_
      refine lv_aload_n hx hb dX6_bindFirstTwo_3 rfl (lv_at hl 1 rfl) ?_
      refine gf_M0_journal hC hG (hC.2.2.2.2 _ w109) dX6_bindFirstTwo_4 ?_
      refine gf_J_legCount hC hG (hC.2.2.2.2 _ w331) dX6_bindFirstTwo_7 ?_
      refine bn_ge (tgt := 69) hx hb (by omega) (by omega) dX6_bindFirstTwo_10 (by decide) (fun h10 => ?_) (fun h10 => ?_)
      · exact te_v hC hG hr hk (by rw [← c2_2, show J_legCount u - i = 0 by omega]; rfl) dX6_bindFirstTwo_69
      · have k1 := q1.leg (g := i) (by omega)
        have k2 := q1.ent k1.1
        have k4 : fDayOf u i ≤ 364 := k2.2.1
        have k3 : fAway u i x ≤ 364 := by unfold fAway; split <;> omega
        have k5 := fSec_lt 0 u i x (J_legCount u - (i + 1))
        refine lv_aload_n hx hb dX6_bindFirstTwo_13 rfl (lv_at hl 1 rfl) ?_
        refine lv_iload_n hx hb dX6_bindFirstTwo_14 rfl (lv_at hl 0 rfl) ?_
        refine lv_aload_n hx hb dX6_bindFirstTwo_15 rfl (lv_at hl 1 rfl) ?_
        refine gf_M0_lines hC hG (hC.2.2.2.2 _ w110) dX6_bindFirstTwo_16 ?_
        refine gf_LI_account hC hG (hC.2.2.2.2 _ w321) dX6_bindFirstTwo_19 ?_
        refine lv_iload_n hx hb dX6_bindFirstTwo_22 rfl (lv_at hl 2 rfl) ?_
        refine al_LI_account hC hG (by omega) dX6_bindFirstTwo_23 ?_
        refine k_M0_isLegLeft hC hG i (LI_account u x) (q1) (by omega) (by omega) w334 ⟨by decide, by decide⟩ hl.1 (Nat.le_of_ble_eq_true rfl) dX6_bindFirstTwo_24 ⟨Nat.zero_le _, Nat.zero_le _⟩ (fun H locs hG => ?_)
        refine bb_eq (tgt := 63) hx hb dX6_bindFirstTwo_27 (by decide) (fun h27 => ?_) (fun h27 => ?_)
        · refine lv_iinc (v := (nI (i + 1))) (lv' := [(3, .int (nI (i + 1))), (0, .ref (a 8)), (1, .int (nI x)), (2, .int (nI dd))]) hx hb dX6_bindFirstTwo_63 hl (k := 0) rfl (nI_1 _) (by decide) rfl (fun ls hl => ?_)
          refine lv_goto (tgt := 2) hx hb dX6_bindFirstTwo_66 (by decide) ?_
          exact ih2  (i + 1) (by omega) (by omega) (by rw [← c2_2]; obtain ⟨r, er⟩ : ∃ r, J_legCount u - i = r + 1 := ⟨J_legCount u - i - 1, by omega⟩; rw [er, fTwo, show J_legCount u - (r + 1) = i by omega, if_neg (by rintro ⟨p1, p2, p3⟩; first | exact Bool.false_ne_true (h27.symm.trans p1) | omega | (rw [show r = J_legCount u - (i + 1) by omega] at p3; exact p3 h51)), show J_legCount u - (i + 1) = r by omega]) H locs hG ls (lv_sub hl [0, 1, 2, 3] rfl)
        · refine lv_aload_n hx hb dX6_bindFirstTwo_30 rfl (lv_at hl 1 rfl) ?_
          refine lv_iload_n hx hb dX6_bindFirstTwo_31 rfl (lv_at hl 0 rfl) ?_
          refine lv_iload_n hx hb dX6_bindFirstTwo_32 rfl (lv_at hl 2 rfl) ?_
          refine k_M0_away hC hG i x (q1) (by omega) (q2) w340 ⟨by decide, by decide⟩ hl.1 (Nat.le_of_ble_eq_true rfl) dX6_bindFirstTwo_33 ⟨Nat.zero_le _, Nat.zero_le _⟩ (fun H locs hG => ?_)
          refine lv_iload_n hx hb dX6_bindFirstTwo_36 rfl (lv_at hl 3 rfl) ?_
          refine bn_gt (tgt := 63) hx hb (by omega) (by omega) dX6_bindFirstTwo_37 (by decide) (fun h37 => ?_) (fun h37 => ?_)
          · refine lv_iinc (v := (nI (i + 1))) (lv' := [(3, .int (nI (i + 1))), (0, .ref (a 8)), (1, .int (nI x)), (2, .int (nI dd))]) hx hb dX6_bindFirstTwo_63 hl (k := 0) rfl (nI_1 _) (by decide) rfl (fun ls hl => ?_)
            refine lv_goto (tgt := 2) hx hb dX6_bindFirstTwo_66 (by decide) ?_
            exact ih2  (i + 1) (by omega) (by omega) (by rw [← c2_2]; obtain ⟨r, er⟩ : ∃ r, J_legCount u - i = r + 1 := ⟨J_legCount u - i - 1, by omega⟩; rw [er, fTwo, show J_legCount u - (r + 1) = i by omega, if_neg (by rintro ⟨p1, p2, p3⟩; first | exact Bool.false_ne_true (h27.symm.trans p1) | omega | (rw [show r = J_legCount u - (i + 1) by omega] at p3; exact p3 h51)), show J_legCount u - (i + 1) = r by omega]) H locs hG ls (lv_sub hl [0, 1, 2, 3] rfl)
          · refine lv_aload_n hx hb dX6_bindFirstTwo_40 rfl (lv_at hl 1 rfl) ?_
            refine lv_iload_n hx hb dX6_bindFirstTwo_41 rfl (lv_at hl 0 rfl) ?_
            refine lv_iload_n hx hb dX6_bindFirstTwo_42 rfl (lv_at hl 2 rfl) ?_
            refine k_M0_secondBehind hC hG i x (q1) (by omega) (q2) w361 ⟨by decide, by decide⟩ hl.1 (Nat.le_of_ble_eq_true rfl) dX6_bindFirstTwo_43 ⟨Nat.zero_le _, Nat.zero_le _⟩ (fun H locs hG => ?_)
            refine lv_istore (lv' := [(4, .int (oI (fSec 0 u i x (J_legCount u - (i + 1))))), (3, .int (nI i)), (0, .ref (a 8)), (1, .int (nI x)), (2, .int (nI dd))]) hx hb dX6_bindFirstTwo_46 hl (by decide) rfl (fun ls hl => ?_)
            refine lv_iload hx hb dX6_bindFirstTwo_48 (lv_at hl 0 rfl) ?_
            refine lv_iconst (v := -1) hx hb dX6_bindFirstTwo_50 (by decide) ?_
            refine bo_eq (tgt := 63) hx hb (by intro j9 e9; have := k5 j9 (by omega) e9; omega) dX6_bindFirstTwo_51 (by decide) (fun h51 => ?_) (fun h51 => ?_)
            · refine lv_iinc (v := (nI (i + 1))) (lv' := [(3, .int (nI (i + 1))), (4, .int (oI (fSec 0 u i x (J_legCount u - (i + 1))))), (0, .ref (a 8)), (1, .int (nI x)), (2, .int (nI dd))]) hx hb dX6_bindFirstTwo_63 hl (k := 1) rfl (nI_1 _) (by decide) rfl (fun ls hl => ?_)
              refine lv_goto (tgt := 2) hx hb dX6_bindFirstTwo_66 (by decide) ?_
              exact ih2  (i + 1) (by omega) (by omega) (by rw [← c2_2]; obtain ⟨r, er⟩ : ∃ r, J_legCount u - i = r + 1 := ⟨J_legCount u - i - 1, by omega⟩; rw [er, fTwo, show J_legCount u - (r + 1) = i by omega, if_neg (by rintro ⟨p1, p2, p3⟩; first | exact Bool.false_ne_true (h27.symm.trans p1) | omega | (rw [show r = J_legCount u - (i + 1) by omega] at p3; exact p3 h51)), show J_legCount u - (i + 1) = r by omega]) H locs hG ls (lv_sub hl [0, 2, 3, 4] rfl)
            · refine lv_aload_n hx hb dX6_bindFirstTwo_54 rfl (lv_at hl 2 rfl) ?_
              refine lv_iload_n hx hb dX6_bindFirstTwo_55 rfl (lv_at hl 3 rfl) ?_
              refine lv_iload_n hx hb dX6_bindFirstTwo_56 rfl (lv_at hl 1 rfl) ?_
              refine lv_iload hx hb dX6_bindFirstTwo_57 (lv_at hl 0 rfl) ?_
              refine k_M0_bind hC hG x i (fSec 0 u i x (J_legCount u - (i + 1))) (q1) (q2) (by omega) (fun g e9 => k5 g (by omega) e9) w353 ⟨by decide, by decide⟩ hl.1 (Nat.le_of_ble_eq_true rfl) dX6_bindFirstTwo_59 ⟨Nat.zero_le _, Nat.zero_le _⟩ (fun H locs hG => ?_)
              exact te_v hC hG hr hk (by rw [← c2_2]; obtain ⟨r, er⟩ : ∃ r, J_legCount u - i = r + 1 := ⟨J_legCount u - i - 1, by omega⟩; rw [er, fTwo, show J_legCount u - (r + 1) = i by omega, show J_legCount u - (i + 1) = r by omega, if_pos ⟨by assumption, by assumption, by rw [show r = J_legCount u - (i + 1) by omega]; assumption⟩]) dX6_bindFirstTwo_62
  exact lp2 _ 0 (Nat.lt_succ_self _) (by omega) (by rw [Nat.sub_zero]) H locs hG ls (lv_sub hl [0, 1, 2, 3] rfl)
theorem k_M0_bindFirstTwo {p : Program} {l : Launch} {e : Env} {R : Room} {s : State} {m : MethodId} {args : Array Value} {below : List Frame} {meth : Method} {c : Code} {H : Heap} {locs : List Loc} {cs ss : Nat} {Q : State → Prop} {cc : ByteArray} {nL pc : Nat} {ls : Array Slot} {rest : List Value} {own : String} {idx : Nat} {D : va_G} {κ : ClassId × ClassId × ClassId} {a : Nat → Nat} {u : TS} {A : Nat → Prop} (hC : CallFix p m c cc nL s args WALL own) (hG : GW D κ a u A s H locs) (x : Nat) (dd : Nat) (q1 : OK u) (q2 : x < LI_count u) (q3 : dd < 600) (wl : Cond.methodLink own idx yX6_bindFirstTwo ∈ WALL) (hR : 3 + 1 ≤ R.frames ∧ 8 + (5 + 11) + 66 ≤ R.locals) (hls : ls.size = nL) (h8 : (rest.map fun v => v.category).sum ≤ 8) (hd : decode cc pc = .ok (.invokevirtual idx, 3)) (hcs : cs ≤ R.cells ∧ ss ≤ R.slots) (kk : ∀ (H1 : Heap) (locs1 : List Loc), GW D κ a (fTwo 0 u x dd (J_legCount u)) A s H1 locs1 → W p l e R s m args below meth c H1 locs1 cs ss Q (F0 m (pc + 3) ls (rest))) : W p l e R s m args below meth c H locs cs ss Q (F0 m pc ls (.int (nI dd) :: .int (nI x) :: .ref (a 8) :: rest)) :=
  tc_v hG (tr_V (n := 2) (k := 8) (ci := 6) (As := [.int (nI x), .int (nI dd)]) hC hG (c_M0_bindFirstTwo l D κ a H.size u x dd q1 q2 q3) rfl rfl wl w35 w360 w358 w359 (by decide +kernel) hR rfl hls rfl h8 hd hcs) (fun u' H1 locs1 hq hG1 => by subst hq; exact kk H1 locs1 hG1)

theorem dX6_pairUp_0 : decode cX6_pairUp 0 = .ok (.iconst 0, 1) := by decide +kernel
theorem dX6_pairUp_1 : decode cX6_pairUp 1 = .ok (.istore_n 3, 1) := by decide +kernel
theorem dX6_pairUp_10 : decode cX6_pairUp 10 = .ok (.if_icmp .ge 27, 3) := by decide +kernel
theorem dX6_pairUp_100 : decode cX6_pairUp 100 = .ok (.aload_n 0, 1) := by decide +kernel
theorem dX6_pairUp_101 : decode cX6_pairUp 101 = .ok (.aload_n 0, 1) := by decide +kernel
theorem dX6_pairUp_102 : decode cX6_pairUp 102 = .ok (.getfield 25, 3) := by decide +kernel
theorem dX6_pairUp_105 : decode cX6_pairUp 105 = .ok (.getfield 42, 3) := by decide +kernel
theorem dX6_pairUp_108 : decode cX6_pairUp 108 = .ok (.iload_n 3, 1) := by decide +kernel
theorem dX6_pairUp_109 : decode cX6_pairUp 109 = .ok (.iaload, 1) := by decide +kernel
theorem dX6_pairUp_110 : decode cX6_pairUp 110 = .ok (.iload_n 1, 1) := by decide +kernel
theorem dX6_pairUp_111 : decode cX6_pairUp 111 = .ok (.invokevirtual 45, 3) := by decide +kernel
theorem dX6_pairUp_114 : decode cX6_pairUp 114 = .ok (.ifCond .eq 17, 3) := by decide +kernel
theorem dX6_pairUp_117 : decode cX6_pairUp 117 = .ok (.aload_n 0, 1) := by decide +kernel
theorem dX6_pairUp_118 : decode cX6_pairUp 118 = .ok (.aload_n 0, 1) := by decide +kernel
theorem dX6_pairUp_119 : decode cX6_pairUp 119 = .ok (.getfield 25, 3) := by decide +kernel
theorem dX6_pairUp_122 : decode cX6_pairUp 122 = .ok (.getfield 42, 3) := by decide +kernel
theorem dX6_pairUp_125 : decode cX6_pairUp 125 = .ok (.iload_n 3, 1) := by decide +kernel
theorem dX6_pairUp_126 : decode cX6_pairUp 126 = .ok (.iaload, 1) := by decide +kernel
theorem dX6_pairUp_127 : decode cX6_pairUp 127 = .ok (.iload_n 2, 1) := by decide +kernel
theorem dX6_pairUp_128 : decode cX6_pairUp 128 = .ok (.invokevirtual 53, 3) := by decide +kernel
theorem dX6_pairUp_13 : decode cX6_pairUp 13 = .ok (.aload_n 0, 1) := by decide +kernel
theorem dX6_pairUp_131 : decode cX6_pairUp 131 = .ok (.iinc 3 1, 3) := by decide +kernel
theorem dX6_pairUp_134 : decode cX6_pairUp 134 = .ok (.goto (-45), 3) := by decide +kernel
theorem dX6_pairUp_137 : decode cX6_pairUp 137 = .ok (.aload_n 0, 1) := by decide +kernel
theorem dX6_pairUp_138 : decode cX6_pairUp 138 = .ok (.getfield 25, 3) := by decide +kernel
theorem dX6_pairUp_14 : decode cX6_pairUp 14 = .ok (.getfield 25, 3) := by decide +kernel
theorem dX6_pairUp_141 : decode cX6_pairUp 141 = .ok (.iload_n 1, 1) := by decide +kernel
theorem dX6_pairUp_142 : decode cX6_pairUp 142 = .ok (.invokevirtual 56, 3) := by decide +kernel
theorem dX6_pairUp_145 : decode cX6_pairUp 145 = .ok (.aload_n 0, 1) := by decide +kernel
theorem dX6_pairUp_146 : decode cX6_pairUp 146 = .ok (.iload_n 1, 1) := by decide +kernel
theorem dX6_pairUp_147 : decode cX6_pairUp 147 = .ok (.invokevirtual 60, 3) := by decide +kernel
theorem dX6_pairUp_150 : decode cX6_pairUp 150 = .ok (.isub, 1) := by decide +kernel
theorem dX6_pairUp_151 : decode cX6_pairUp 151 = .ok (.ireturn, 1) := by decide +kernel
theorem dX6_pairUp_17 : decode cX6_pairUp 17 = .ok (.getfield 35, 3) := by decide +kernel
theorem dX6_pairUp_2 : decode cX6_pairUp 2 = .ok (.iload_n 3, 1) := by decide +kernel
theorem dX6_pairUp_20 : decode cX6_pairUp 20 = .ok (.iload_n 3, 1) := by decide +kernel
theorem dX6_pairUp_21 : decode cX6_pairUp 21 = .ok (.iaload, 1) := by decide +kernel
theorem dX6_pairUp_22 : decode cX6_pairUp 22 = .ok (.iload_n 1, 1) := by decide +kernel
theorem dX6_pairUp_23 : decode cX6_pairUp 23 = .ok (.if_icmp .ne 8, 3) := by decide +kernel
theorem dX6_pairUp_26 : decode cX6_pairUp 26 = .ok (.aload_n 0, 1) := by decide +kernel
theorem dX6_pairUp_27 : decode cX6_pairUp 27 = .ok (.iload_n 3, 1) := by decide +kernel
theorem dX6_pairUp_28 : decode cX6_pairUp 28 = .ok (.invokevirtual 38, 3) := by decide +kernel
theorem dX6_pairUp_3 : decode cX6_pairUp 3 = .ok (.aload_n 0, 1) := by decide +kernel
theorem dX6_pairUp_31 : decode cX6_pairUp 31 = .ok (.iinc 3 1, 3) := by decide +kernel
theorem dX6_pairUp_34 : decode cX6_pairUp 34 = .ok (.goto (-32), 3) := by decide +kernel
theorem dX6_pairUp_37 : decode cX6_pairUp 37 = .ok (.iconst 0, 1) := by decide +kernel
theorem dX6_pairUp_38 : decode cX6_pairUp 38 = .ok (.istore_n 3, 1) := by decide +kernel
theorem dX6_pairUp_39 : decode cX6_pairUp 39 = .ok (.iload_n 3, 1) := by decide +kernel
theorem dX6_pairUp_4 : decode cX6_pairUp 4 = .ok (.getfield 25, 3) := by decide +kernel
theorem dX6_pairUp_40 : decode cX6_pairUp 40 = .ok (.aload_n 0, 1) := by decide +kernel
theorem dX6_pairUp_41 : decode cX6_pairUp 41 = .ok (.getfield 25, 3) := by decide +kernel
theorem dX6_pairUp_44 : decode cX6_pairUp 44 = .ok (.getfield 29, 3) := by decide +kernel
theorem dX6_pairUp_47 : decode cX6_pairUp 47 = .ok (.if_icmp .ge 40, 3) := by decide +kernel
theorem dX6_pairUp_50 : decode cX6_pairUp 50 = .ok (.aload_n 0, 1) := by decide +kernel
theorem dX6_pairUp_51 : decode cX6_pairUp 51 = .ok (.aload_n 0, 1) := by decide +kernel
theorem dX6_pairUp_52 : decode cX6_pairUp 52 = .ok (.getfield 25, 3) := by decide +kernel
theorem dX6_pairUp_55 : decode cX6_pairUp 55 = .ok (.getfield 42, 3) := by decide +kernel
theorem dX6_pairUp_58 : decode cX6_pairUp 58 = .ok (.iload_n 3, 1) := by decide +kernel
theorem dX6_pairUp_59 : decode cX6_pairUp 59 = .ok (.iaload, 1) := by decide +kernel
theorem dX6_pairUp_60 : decode cX6_pairUp 60 = .ok (.iload_n 1, 1) := by decide +kernel
theorem dX6_pairUp_61 : decode cX6_pairUp 61 = .ok (.invokevirtual 45, 3) := by decide +kernel
theorem dX6_pairUp_64 : decode cX6_pairUp 64 = .ok (.ifCond .eq 17, 3) := by decide +kernel
theorem dX6_pairUp_67 : decode cX6_pairUp 67 = .ok (.aload_n 0, 1) := by decide +kernel
theorem dX6_pairUp_68 : decode cX6_pairUp 68 = .ok (.aload_n 0, 1) := by decide +kernel
theorem dX6_pairUp_69 : decode cX6_pairUp 69 = .ok (.getfield 25, 3) := by decide +kernel
theorem dX6_pairUp_7 : decode cX6_pairUp 7 = .ok (.getfield 29, 3) := by decide +kernel
theorem dX6_pairUp_72 : decode cX6_pairUp 72 = .ok (.getfield 42, 3) := by decide +kernel
theorem dX6_pairUp_75 : decode cX6_pairUp 75 = .ok (.iload_n 3, 1) := by decide +kernel
theorem dX6_pairUp_76 : decode cX6_pairUp 76 = .ok (.iaload, 1) := by decide +kernel
theorem dX6_pairUp_77 : decode cX6_pairUp 77 = .ok (.iload_n 2, 1) := by decide +kernel
theorem dX6_pairUp_78 : decode cX6_pairUp 78 = .ok (.invokevirtual 49, 3) := by decide +kernel
theorem dX6_pairUp_81 : decode cX6_pairUp 81 = .ok (.iinc 3 1, 3) := by decide +kernel
theorem dX6_pairUp_84 : decode cX6_pairUp 84 = .ok (.goto (-45), 3) := by decide +kernel
theorem dX6_pairUp_87 : decode cX6_pairUp 87 = .ok (.iconst 0, 1) := by decide +kernel
theorem dX6_pairUp_88 : decode cX6_pairUp 88 = .ok (.istore_n 3, 1) := by decide +kernel
theorem dX6_pairUp_89 : decode cX6_pairUp 89 = .ok (.iload_n 3, 1) := by decide +kernel
theorem dX6_pairUp_90 : decode cX6_pairUp 90 = .ok (.aload_n 0, 1) := by decide +kernel
theorem dX6_pairUp_91 : decode cX6_pairUp 91 = .ok (.getfield 25, 3) := by decide +kernel
theorem dX6_pairUp_94 : decode cX6_pairUp 94 = .ok (.getfield 29, 3) := by decide +kernel
theorem dX6_pairUp_97 : decode cX6_pairUp 97 = .ok (.if_icmp .ge 40, 3) := by decide +kernel
set_option maxHeartbeats 4000000 in
set_option maxRecDepth 100000 in
theorem c_M0_pairUp (l : Launch) (D : va_G) (κ : ClassId × ClassId × ClassId) (a : Nat → Nat) (sz : Nat) (u : TS) (w : Nat) (dd : Nat) (q1 : OK u) (q2 : w < 600) (q3 : dd < 600) : TM l yX6_pairUp cX6_pairUp 4 (some .int) 4 92 D κ a u sz [.ref (a 8), .int (nI w), .int (nI dd)] (QI D κ a sz (fun r u' => r = (nI (fPairN 0 u w dd)) ∧ u' = fPair 0 u w dd)) := by
  refine TM.of (by decide +kernel) (Nat.le_of_ble_eq_true rfl) ?_
  intro p e s m below meth c ls hC hr hk hsz H locs hG hl
  have hx := hC.1
  have hb := hC.2.1
  have hl : lv_has ls 4 [(0, .ref (a 8)), (1, .int (nI w)), (2, .int (nI dd))] := hl
  have qok := q1
  have ⟨n1, n2, n3, n4, n5, n6, n7, n8, n9, n10⟩ := qok.n
  have ⟨g1, g2⟩ := fP1_J 0 u w q1 (LI_count u)
  have g3 := g1.cnt
  have ⟨g4, g5⟩ := fP2_J 0 (fP1 0 u w (LI_count u)) w dd g2 (LI_count u) (by omega)
  have g6 := g4.cnt
  have ⟨g7, g8⟩ := fPair_J 0 u w dd q1
  have g9 := g7.cnt
  have ⟨m1, m2⟩ := fLLeft_le 0 (fPair 0 u w dd) w (LI_count u)
  refine lv_iconst (v := nI 0) hx hb dX6_pairUp_0 (by decide) ?_
  refine lv_istore_n (lv' := [(3, .int (nI 0)), (0, .ref (a 8)), (1, .int (nI w)), (2, .int (nI dd))]) hx hb dX6_pairUp_1 rfl hl (by decide) rfl (fun ls hl => ?_)
  have lp2 : ∀ (n : Nat) (i : Nat), LI_count u - i < n → (i ≤ LI_count u) → ∀ (H : Heap) (locs : List Loc), GW D κ a (fP1 0 u w i) (AA a sz) s H locs → ∀ ls : Array Slot, lv_has ls 4 [(3, .int (nI i)), (0, .ref (a 8)), (1, .int (nI w)), (2, .int (nI dd))] → W p l e { frames := 4, cells := 0, slots := 0, locals := 92 } s m [.ref (a 8), .int (nI w), .int (nI dd)].toArray below meth c H locs 0 0 (MQ below (QI D κ a sz (fun r u' => r = (nI (fPairN 0 u w dd)) ∧ u' = fPair 0 u w dd)) [.ref (a 8), .int (nI w), .int (nI dd)].toArray s 0 0 (AA a sz)) (F0 m 2 ls []) := by
    intro n
    induction n with
    | zero =>
      intro i hm
      exact absurd hm (Nat.not_lt_zero _)
    | succ n ih2 =>
      intro i hm2 c2_1 H locs hG ls hl
      have ⟨f1, f2⟩ := fP1_J 0 u w q1 i
      have f3 := f1.cnt
      refine lv_iload_n hx hb dX6_pairUp_2 rfl (lv_at hl 0 rfl) ?_
      refine lv_aload_n hx hb dX6_pairUp_3 rfl (lv_at hl 1 rfl) ?_
      refine gf_M0_lines hC hG (hC.2.2.2.2 _ w110) dX6_pairUp_4 ?_
      refine gf_LI_count hC hG (hC.2.2.2.2 _ w320) dX6_pairUp_7 ?_
      refine bn_ge (tgt := 37) hx hb (by omega) (by omega) dX6_pairUp_10 (by decide) (fun h10 => ?_) (fun h10 => ?_)
      · refine lv_iconst (v := nI 0) hx hb dX6_pairUp_37 (by decide) ?_
        refine lv_istore_n (lv' := [(3, .int (nI 0)), (0, .ref (a 8)), (1, .int (nI w)), (2, .int (nI dd))]) hx hb dX6_pairUp_38 rfl hl (by decide) rfl (fun ls hl => ?_)
        have lp39 : ∀ (n : Nat) (i : Nat), LI_count u - i < n → (i ≤ LI_count u) → ∀ (H : Heap) (locs : List Loc), GW D κ a (fP2 0 (fP1 0 u w (LI_count u)) w dd i) (AA a sz) s H locs → ∀ ls : Array Slot, lv_has ls 4 [(3, .int (nI i)), (0, .ref (a 8)), (1, .int (nI w)), (2, .int (nI dd))] → W p l e { frames := 4, cells := 0, slots := 0, locals := 92 } s m [.ref (a 8), .int (nI w), .int (nI dd)].toArray below meth c H locs 0 0 (MQ below (QI D κ a sz (fun r u' => r = (nI (fPairN 0 u w dd)) ∧ u' = fPair 0 u w dd)) [.ref (a 8), .int (nI w), .int (nI dd)].toArray s 0 0 (AA a sz)) (F0 m 39 ls []) := by
          intro n
          induction n with
          | zero =>
            intro i hm
            exact absurd hm (Nat.not_lt_zero _)
          | succ n ih39 =>
            intro i hm39 c39_1 H locs hG ls hl
            have ⟨f1, f2⟩ := fP2_J 0 (fP1 0 u w (LI_count u)) w dd g2 i (by omega)
            have f3 := f1.cnt
            refine lv_iload_n hx hb dX6_pairUp_39 rfl (lv_at hl 0 rfl) ?_
            refine lv_aload_n hx hb dX6_pairUp_40 rfl (lv_at hl 1 rfl) ?_
            refine gf_M0_lines hC hG (hC.2.2.2.2 _ w110) dX6_pairUp_41 ?_
            refine gf_LI_count hC hG (hC.2.2.2.2 _ w320) dX6_pairUp_44 ?_
            refine bn_ge (tgt := 87) hx hb (by omega) (by omega) dX6_pairUp_47 (by decide) (fun h47 => ?_) (fun h47 => ?_)
            · refine lv_iconst (v := nI 0) hx hb dX6_pairUp_87 (by decide) ?_
              refine lv_istore_n (lv' := [(3, .int (nI 0)), (0, .ref (a 8)), (1, .int (nI w)), (2, .int (nI dd))]) hx hb dX6_pairUp_88 rfl hl (by decide) rfl (fun ls hl => ?_)
              have lp89 : ∀ (n : Nat) (i : Nat), LI_count u - i < n → (i ≤ LI_count u) → ∀ (H : Heap) (locs : List Loc), GW D κ a (fP3 0 (fP2 0 (fP1 0 u w (LI_count u)) w dd (LI_count u)) w dd i) (AA a sz) s H locs → ∀ ls : Array Slot, lv_has ls 4 [(3, .int (nI i)), (0, .ref (a 8)), (1, .int (nI w)), (2, .int (nI dd))] → W p l e { frames := 4, cells := 0, slots := 0, locals := 92 } s m [.ref (a 8), .int (nI w), .int (nI dd)].toArray below meth c H locs 0 0 (MQ below (QI D κ a sz (fun r u' => r = (nI (fPairN 0 u w dd)) ∧ u' = fPair 0 u w dd)) [.ref (a 8), .int (nI w), .int (nI dd)].toArray s 0 0 (AA a sz)) (F0 m 89 ls []) := by
                intro n
                induction n with
                | zero =>
                  intro i hm
                  exact absurd hm (Nat.not_lt_zero _)
                | succ n ih89 =>
                  intro i hm89 c89_1 H locs hG ls hl
                  have ⟨f1, f2⟩ := fP3_J 0 (fP2 0 (fP1 0 u w (LI_count u)) w dd (LI_count u)) w dd g5 i (by omega)
                  have f3 := f1.cnt
                  refine lv_iload_n hx hb dX6_pairUp_89 rfl (lv_at hl 0 rfl) ?_
                  refine lv_aload_n hx hb dX6_pairUp_90 rfl (lv_at hl 1 rfl) ?_
                  refine gf_M0_lines hC hG (hC.2.2.2.2 _ w110) dX6_pairUp_91 ?_
                  refine gf_LI_count hC hG (hC.2.2.2.2 _ w320) dX6_pairUp_94 ?_
                  refine bn_ge (tgt := 137) hx hb (by omega) (by omega) dX6_pairUp_97 (by decide) (fun h97 => ?_) (fun h97 => ?_)
                  · have hi : i = LI_count u := by omega
                    have hG : GW D κ a (fPair 0 u w dd) (AA a sz) s H locs := by unfold fPair; rw [← hi]; rw [← hi] at hG; exact hG
                    refine lv_aload_n hx hb dX6_pairUp_137 rfl (lv_at hl 1 rfl) ?_
                    refine gf_M0_lines hC hG (hC.2.2.2.2 _ w110) dX6_pairUp_138 ?_
                    refine lv_iload_n hx hb dX6_pairUp_141 rfl (lv_at hl 2 rfl) ?_
                    refine k_LI_countOf hC hG w (g8) (q2) w365 ⟨by decide, by decide⟩ hl.1 (Nat.le_of_ble_eq_true rfl) dX6_pairUp_142 ⟨Nat.zero_le _, Nat.zero_le _⟩ (fun H locs hG => ?_)
                    refine lv_aload_n hx hb dX6_pairUp_145 rfl (lv_at hl 1 rfl) ?_
                    refine lv_iload_n hx hb dX6_pairUp_146 rfl (lv_at hl 2 rfl) ?_
                    refine k_M0_linesLeft hC hG w (g8) (q2) w369 ⟨by decide, by decide⟩ hl.1 (Nat.le_of_ble_eq_true rfl) dX6_pairUp_147 ⟨Nat.zero_le _, Nat.zero_le _⟩ (fun H locs hG => ?_)
                    refine ar_isub hx hb (by rw [g9.2.1]; exact m2) dX6_pairUp_150 ?_
                    exact te_i (v := (nI ((fLCnt (fPair 0 u w dd) w (LI_count (fPair 0 u w dd))) - (fLLeft 0 (fPair 0 u w dd) w (LI_count (fPair 0 u w dd)))))) hC hG hr hk ⟨(congrArg nI (show ((fLCnt (fPair 0 u w dd) w (LI_count (fPair 0 u w dd))) - (fLLeft 0 (fPair 0 u w dd) w (LI_count (fPair 0 u w dd)))) = fPairN 0 u w dd from by unfold fPairN; rw [g9.2.1])), rfl⟩ dX6_pairUp_151
                  · have k1 := f2.line (x := i) (by omega)
                    refine lv_aload_n hx hb dX6_pairUp_100 rfl (lv_at hl 1 rfl) ?_
                    refine lv_aload_n hx hb dX6_pairUp_101 rfl (lv_at hl 1 rfl) ?_
                    refine gf_M0_lines hC hG (hC.2.2.2.2 _ w110) dX6_pairUp_102 ?_
                    refine gf_LI_byDay hC hG (hC.2.2.2.2 _ w322) dX6_pairUp_105 ?_
                    refine lv_iload_n hx hb dX6_pairUp_108 rfl (lv_at hl 0 rfl) ?_
                    refine al_LI_byDay hC hG (by omega) dX6_pairUp_109 ?_
                    refine lv_iload_n hx hb dX6_pairUp_110 rfl (lv_at hl 2 rfl) ?_
                    refine k_M0_isLeft hC hG (LI_byDay (fP3 0 (fP2 0 (fP1 0 u w (LI_count u)) w dd (LI_count u)) w dd i) i) w (f2) (by omega) (q2) w323 ⟨by decide, by decide⟩ hl.1 (Nat.le_of_ble_eq_true rfl) dX6_pairUp_111 ⟨Nat.zero_le _, Nat.zero_le _⟩ (fun H locs hG => ?_)
                    refine bb_eq (tgt := 131) hx hb dX6_pairUp_114 (by decide) (fun h114 => ?_) (fun h114 => ?_)
                    · refine lv_iinc (v := (nI (i + 1))) (lv' := [(3, .int (nI (i + 1))), (0, .ref (a 8)), (1, .int (nI w)), (2, .int (nI dd))]) hx hb dX6_pairUp_131 hl (k := 0) rfl (nI_1 _) (by decide) rfl (fun ls hl => ?_)
                      refine lv_goto (tgt := 89) hx hb dX6_pairUp_134 (by decide) ?_
                      have hG : GW D κ a (fP3 0 (fP2 0 (fP1 0 u w (LI_count u)) w dd (LI_count u)) w dd (i + 1)) (AA a sz) s H locs := by
                        have eu : (fP3 0 (fP2 0 (fP1 0 u w (LI_count u)) w dd (LI_count u)) w dd (i + 1)) = (fP3 0 (fP2 0 (fP1 0 u w (LI_count u)) w dd (LI_count u)) w dd i) := by simp [fP3, h10, h47, h97, h114]
                        rw [eu]; exact hG
                      exact ih89  (i + 1) (by omega) (by omega) H locs hG ls (lv_sub hl [0, 1, 2, 3] rfl)
                    · refine lv_aload_n hx hb dX6_pairUp_117 rfl (lv_at hl 1 rfl) ?_
                      refine lv_aload_n hx hb dX6_pairUp_118 rfl (lv_at hl 1 rfl) ?_
                      refine gf_M0_lines hC hG (hC.2.2.2.2 _ w110) dX6_pairUp_119 ?_
                      refine gf_LI_byDay hC hG (hC.2.2.2.2 _ w322) dX6_pairUp_122 ?_
                      refine lv_iload_n hx hb dX6_pairUp_125 rfl (lv_at hl 0 rfl) ?_
                      refine al_LI_byDay hC hG (by omega) dX6_pairUp_126 ?_
                      refine lv_iload_n hx hb dX6_pairUp_127 rfl (lv_at hl 3 rfl) ?_
                      refine k_M0_bindFirstTwo hC hG (LI_byDay (fP3 0 (fP2 0 (fP1 0 u w (LI_count u)) w dd (LI_count u)) w dd i) i) dd (f2) (by omega) (q3) w357 ⟨by decide, by decide⟩ hl.1 (Nat.le_of_ble_eq_true rfl) dX6_pairUp_128 ⟨Nat.zero_le _, Nat.zero_le _⟩ (fun H locs hG => ?_)
                      refine lv_iinc (v := (nI (i + 1))) (lv' := [(3, .int (nI (i + 1))), (0, .ref (a 8)), (1, .int (nI w)), (2, .int (nI dd))]) hx hb dX6_pairUp_131 hl (k := 0) rfl (nI_1 _) (by decide) rfl (fun ls hl => ?_)
                      refine lv_goto (tgt := 89) hx hb dX6_pairUp_134 (by decide) ?_
                      have hG : GW D κ a (fP3 0 (fP2 0 (fP1 0 u w (LI_count u)) w dd (LI_count u)) w dd (i + 1)) (AA a sz) s H locs := by
                        have eu : (fP3 0 (fP2 0 (fP1 0 u w (LI_count u)) w dd (LI_count u)) w dd (i + 1)) = (fTwo 0 (fP3 0 (fP2 0 (fP1 0 u w (LI_count u)) w dd (LI_count u)) w dd i) (LI_byDay (fP3 0 (fP2 0 (fP1 0 u w (LI_count u)) w dd (LI_count u)) w dd i) i) dd (J_legCount (fP3 0 (fP2 0 (fP1 0 u w (LI_count u)) w dd (LI_count u)) w dd i))) := by simp [fP3, h10, h47, h97, h114]
                        rw [eu]; exact hG
                      exact ih89  (i + 1) (by omega) (by omega) H locs hG ls (lv_sub hl [0, 1, 2, 3] rfl)
              have hG : GW D κ a (fP3 0 (fP2 0 (fP1 0 u w (LI_count u)) w dd (LI_count u)) w dd 0) (AA a sz) s H locs := by
                have eu : (fP3 0 (fP2 0 (fP1 0 u w (LI_count u)) w dd (LI_count u)) w dd 0) = (fP2 0 (fP1 0 u w (LI_count u)) w dd i) := by rw [fP3]; rw [show i = LI_count u by omega]
                rw [eu]; exact hG
              exact lp89 _ 0 (Nat.lt_succ_self _) (by omega) H locs hG ls (lv_sub hl [0, 1, 2, 3] rfl)
            · have k1 := f2.line (x := i) (by omega)
              refine lv_aload_n hx hb dX6_pairUp_50 rfl (lv_at hl 1 rfl) ?_
              refine lv_aload_n hx hb dX6_pairUp_51 rfl (lv_at hl 1 rfl) ?_
              refine gf_M0_lines hC hG (hC.2.2.2.2 _ w110) dX6_pairUp_52 ?_
              refine gf_LI_byDay hC hG (hC.2.2.2.2 _ w322) dX6_pairUp_55 ?_
              refine lv_iload_n hx hb dX6_pairUp_58 rfl (lv_at hl 0 rfl) ?_
              refine al_LI_byDay hC hG (by omega) dX6_pairUp_59 ?_
              refine lv_iload_n hx hb dX6_pairUp_60 rfl (lv_at hl 2 rfl) ?_
              refine k_M0_isLeft hC hG (LI_byDay (fP2 0 (fP1 0 u w (LI_count u)) w dd i) i) w (f2) (by omega) (q2) w323 ⟨by decide, by decide⟩ hl.1 (Nat.le_of_ble_eq_true rfl) dX6_pairUp_61 ⟨Nat.zero_le _, Nat.zero_le _⟩ (fun H locs hG => ?_)
              refine bb_eq (tgt := 81) hx hb dX6_pairUp_64 (by decide) (fun h64 => ?_) (fun h64 => ?_)
              · refine lv_iinc (v := (nI (i + 1))) (lv' := [(3, .int (nI (i + 1))), (0, .ref (a 8)), (1, .int (nI w)), (2, .int (nI dd))]) hx hb dX6_pairUp_81 hl (k := 0) rfl (nI_1 _) (by decide) rfl (fun ls hl => ?_)
                refine lv_goto (tgt := 39) hx hb dX6_pairUp_84 (by decide) ?_
                have hG : GW D κ a (fP2 0 (fP1 0 u w (LI_count u)) w dd (i + 1)) (AA a sz) s H locs := by
                  have eu : (fP2 0 (fP1 0 u w (LI_count u)) w dd (i + 1)) = (fP2 0 (fP1 0 u w (LI_count u)) w dd i) := by simp [fP2, h10, h47, h64]
                  rw [eu]; exact hG
                exact ih39  (i + 1) (by omega) (by omega) H locs hG ls (lv_sub hl [0, 1, 2, 3] rfl)
              · refine lv_aload_n hx hb dX6_pairUp_67 rfl (lv_at hl 1 rfl) ?_
                refine lv_aload_n hx hb dX6_pairUp_68 rfl (lv_at hl 1 rfl) ?_
                refine gf_M0_lines hC hG (hC.2.2.2.2 _ w110) dX6_pairUp_69 ?_
                refine gf_LI_byDay hC hG (hC.2.2.2.2 _ w322) dX6_pairUp_72 ?_
                refine lv_iload_n hx hb dX6_pairUp_75 rfl (lv_at hl 0 rfl) ?_
                refine al_LI_byDay hC hG (by omega) dX6_pairUp_76 ?_
                refine lv_iload_n hx hb dX6_pairUp_77 rfl (lv_at hl 3 rfl) ?_
                refine k_M0_bindNearest hC hG (LI_byDay (fP2 0 (fP1 0 u w (LI_count u)) w dd i) i) dd (f2) (by omega) (q3) w327 ⟨by decide, by decide⟩ hl.1 (Nat.le_of_ble_eq_true rfl) dX6_pairUp_78 ⟨Nat.zero_le _, Nat.zero_le _⟩ (fun H locs hG => ?_)
                refine lv_iinc (v := (nI (i + 1))) (lv' := [(3, .int (nI (i + 1))), (0, .ref (a 8)), (1, .int (nI w)), (2, .int (nI dd))]) hx hb dX6_pairUp_81 hl (k := 0) rfl (nI_1 _) (by decide) rfl (fun ls hl => ?_)
                refine lv_goto (tgt := 39) hx hb dX6_pairUp_84 (by decide) ?_
                have hG : GW D κ a (fP2 0 (fP1 0 u w (LI_count u)) w dd (i + 1)) (AA a sz) s H locs := by
                  have eu : (fP2 0 (fP1 0 u w (LI_count u)) w dd (i + 1)) = (fNst 0 (fP2 0 (fP1 0 u w (LI_count u)) w dd i) (LI_byDay (fP2 0 (fP1 0 u w (LI_count u)) w dd i) i) dd) := by simp [fP2, h10, h47, h64]
                  rw [eu]; exact hG
                exact ih39  (i + 1) (by omega) (by omega) H locs hG ls (lv_sub hl [0, 1, 2, 3] rfl)
        have hG : GW D κ a (fP2 0 (fP1 0 u w (LI_count u)) w dd 0) (AA a sz) s H locs := by
          have eu : (fP2 0 (fP1 0 u w (LI_count u)) w dd 0) = (fP1 0 u w i) := by rw [fP2]; rw [show i = LI_count u by omega]
          rw [eu]; exact hG
        exact lp39 _ 0 (Nat.lt_succ_self _) (by omega) H locs hG ls (lv_sub hl [0, 1, 2, 3] rfl)
      · have k1 := f2.line (x := i) (by omega)
        refine lv_aload_n hx hb dX6_pairUp_13 rfl (lv_at hl 1 rfl) ?_
        refine gf_M0_lines hC hG (hC.2.2.2.2 _ w110) dX6_pairUp_14 ?_
        refine gf_LI_account hC hG (hC.2.2.2.2 _ w321) dX6_pairUp_17 ?_
        refine lv_iload_n hx hb dX6_pairUp_20 rfl (lv_at hl 0 rfl) ?_
        refine al_LI_account hC hG (by omega) dX6_pairUp_21 ?_
        refine lv_iload_n hx hb dX6_pairUp_22 rfl (lv_at hl 2 rfl) ?_
        refine bn_ne (tgt := 31) hx hb (by omega) (by omega) dX6_pairUp_23 (by decide) (fun h23 => ?_) (fun h23 => ?_)
        · refine lv_iinc (v := (nI (i + 1))) (lv' := [(3, .int (nI (i + 1))), (0, .ref (a 8)), (1, .int (nI w)), (2, .int (nI dd))]) hx hb dX6_pairUp_31 hl (k := 0) rfl (nI_1 _) (by decide) rfl (fun ls hl => ?_)
          refine lv_goto (tgt := 2) hx hb dX6_pairUp_34 (by decide) ?_
          have hG : GW D κ a (fP1 0 u w (i + 1)) (AA a sz) s H locs := by
            have eu : (fP1 0 u w (i + 1)) = (fP1 0 u w i) := by simp [fP1, h10, h23]
            rw [eu]; exact hG
          exact ih2  (i + 1) (by omega) (by omega) H locs hG ls (lv_sub hl [0, 1, 2, 3] rfl)
        · refine lv_aload_n hx hb dX6_pairUp_26 rfl (lv_at hl 1 rfl) ?_
          refine lv_iload_n hx hb dX6_pairUp_27 rfl (lv_at hl 0 rfl) ?_
          refine k_M0_freeLine hC hG i (f2) (by omega) w288 ⟨by decide, by decide⟩ hl.1 (Nat.le_of_ble_eq_true rfl) dX6_pairUp_28 ⟨Nat.zero_le _, Nat.zero_le _⟩ (fun H locs hG => ?_)
          refine lv_iinc (v := (nI (i + 1))) (lv' := [(3, .int (nI (i + 1))), (0, .ref (a 8)), (1, .int (nI w)), (2, .int (nI dd))]) hx hb dX6_pairUp_31 hl (k := 0) rfl (nI_1 _) (by decide) rfl (fun ls hl => ?_)
          refine lv_goto (tgt := 2) hx hb dX6_pairUp_34 (by decide) ?_
          have hG : GW D κ a (fP1 0 u w (i + 1)) (AA a sz) s H locs := by
            have eu : (fP1 0 u w (i + 1)) = (fFree 0 (fP1 0 u w i) i) := by simp [fP1, h10, h23]
            rw [eu]; exact hG
          exact ih2  (i + 1) (by omega) (by omega) H locs hG ls (lv_sub hl [0, 1, 2, 3] rfl)
  have hG : GW D κ a (fP1 0 u w 0) (AA a sz) s H locs := by
    have eu : (fP1 0 u w 0) = u := by rfl
    rw [eu]; exact hG
  exact lp2 _ 0 (Nat.lt_succ_self _) (by omega) H locs hG ls (lv_sub hl [0, 1, 2, 3] rfl)
theorem k_M0_pairUp {p : Program} {l : Launch} {e : Env} {R : Room} {s : State} {m : MethodId} {args : Array Value} {below : List Frame} {meth : Method} {c : Code} {H : Heap} {locs : List Loc} {cs ss : Nat} {Q : State → Prop} {cc : ByteArray} {nL pc : Nat} {ls : Array Slot} {rest : List Value} {own : String} {idx : Nat} {D : va_G} {κ : ClassId × ClassId × ClassId} {a : Nat → Nat} {u : TS} {A : Nat → Prop} (hC : CallFix p m c cc nL s args WALL own) (hG : GW D κ a u A s H locs) (w : Nat) (dd : Nat) (q1 : OK u) (q2 : w < 600) (q3 : dd < 600) (wl : Cond.methodLink own idx yX6_pairUp ∈ WALL) (hR : 4 + 1 ≤ R.frames ∧ 8 + (4 + 11) + 92 ≤ R.locals) (hls : ls.size = nL) (h8 : (rest.map fun v => v.category).sum ≤ 8) (hd : decode cc pc = .ok (.invokevirtual idx, 3)) (hcs : cs ≤ R.cells ∧ ss ≤ R.slots) (kk : ∀ (H1 : Heap) (locs1 : List Loc), GW D κ a (fPair 0 u w dd) A s H1 locs1 → W p l e R s m args below meth c H1 locs1 cs ss Q (F0 m (pc + 3) ls (.int (nI (fPairN 0 u w dd)) :: rest))) : W p l e R s m args below meth c H locs cs ss Q (F0 m pc ls (.int (nI dd) :: .int (nI w) :: .ref (a 8) :: rest)) :=
  tc_i hG (tr_V (n := 2) (k := 8) (ci := 6) (As := [.int (nI w), .int (nI dd)]) hC hG (c_M0_pairUp l D κ a H.size u w dd q1 q2 q3) rfl rfl wl w35 w319 w317 w318 (by decide +kernel) hR rfl hls rfl h8 hd hcs) (fun r u' H1 locs1 hq hG1 => by obtain ⟨rfl, rfl⟩ := hq; exact kk H1 locs1 hG1)
end
