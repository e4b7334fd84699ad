theorem arr_known {s : State} {args : Array Value} {ty : FieldType} (hty : ty = .int ∨ ty = .long ∨ ty = .boolean) (h : (Cond.arrayClass ty).before args s = true) : ∃ cA, ArrOfT s cA ty ∧ va_RA s cA ty := by
  obtain ⟨cA, kA, comp, h1, h2, h3⟩ := Cond.arrayClass_spec h
  refine ⟨cA, fun n z => ⟨fun k h => (by cases h), kA, h2, comp, h3⟩, ?_⟩
  rcases hty with rfl | rfl | rfl <;> exact h1
theorem arr_knownO {s : State} (h : va_AO "java/lang/Object" s) : ∃ cA, ArrOfT s cA (.object "java/lang/Object") ∧ va_RA s cA (.object "java/lang/Object") := by
  obtain ⟨comp, cA, kA, h1, h2, h3, h4, h5⟩ := Cond.arrayOver_spec (va_AO.use (A := #[]) h)
  exact ⟨cA, fun n z => ⟨fun k h => (by cases h), kA, h3, comp, h4⟩, kA, comp, h3, h4, h1, h5⟩
theorem i_rng (x : Int32) : -2147483648 ≤ x.toInt ∧ x.toInt ≤ 2147483647 := by
  have h1 := Int32.le_toInt x
  have h2 := Int32.toInt_lt x
  omega
set_option maxRecDepth 100000 in
theorem st_c0 : Cond.castable "java/lang/IllegalArgumentException" "java/lang/IllegalArgumentException" ∈ lw_tbl := List.mem_of_getElem? (i := 482) (by decide +kernel)
set_option maxRecDepth 100000 in
theorem st_c1 : Cond.castable "java/lang/IllegalStateException" "java/lang/IllegalStateException" ∈ lw_tbl := List.mem_of_getElem? (i := 730) (by decide +kernel)
set_option maxRecDepth 100000 in
theorem st_c2 : Cond.castable "java/lang/IndexOutOfBoundsException" "java/lang/IndexOutOfBoundsException" ∈ lw_tbl := List.mem_of_getElem? (i := 566) (by decide +kernel)
set_option maxRecDepth 100000 in
theorem st_c3 : Cond.castable "TollgateModel$Account" "java/lang/Object" ∈ lw_tbl := List.mem_of_getElem? (i := 1940) (by decide +kernel)
set_option maxRecDepth 100000 in
theorem st_d0 : Cond.declares ⟨"java/lang/RuntimeException", "<init>", "(Ljava/lang/String;)V"⟩ ∈ lw_tbl := List.mem_of_getElem? (i := 484) (by decide +kernel)
set_option maxRecDepth 100000 in
theorem st_d1 : Cond.declares ⟨"java/lang/Exception", "<init>", "(Ljava/lang/String;)V"⟩ ∈ lw_tbl := List.mem_of_getElem? (i := 486) (by decide +kernel)
set_option maxRecDepth 100000 in
theorem st_d2 : Cond.declares ⟨"java/lang/Throwable", "<init>", "(Ljava/lang/String;)V"⟩ ∈ lw_tbl := List.mem_of_getElem? (i := 488) (by decide +kernel)
set_option maxRecDepth 100000 in
theorem st_s0 : Cond.stringRef "Tollgate" 343 "what is 0 to 5" ∈ lw_tbl := List.mem_of_getElem? (i := 521) (by decide +kernel)
set_option maxRecDepth 100000 in
theorem st_s1 : Cond.stringRef "Tollgate" 404 "no such account" ∈ lw_tbl := List.mem_of_getElem? (i := 573) (by decide +kernel)
set_option maxRecDepth 100000 in
theorem st_s2 : Cond.stringRef "Tollgate" 327 "what is 0 to 4" ∈ lw_tbl := List.mem_of_getElem? (i := 592) (by decide +kernel)
set_option maxRecDepth 100000 in
theorem st_s3 : Cond.stringRef "Tollgate" 196 "no such entry" ∈ lw_tbl := List.mem_of_getElem? (i := 680) (by decide +kernel)
set_option maxRecDepth 100000 in
theorem st_s4 : Cond.stringRef "Tollgate" 220 "what is 0 to 3" ∈ lw_tbl := List.mem_of_getElem? (i := 681) (by decide +kernel)
set_option maxRecDepth 100000 in
theorem st_s5 : Cond.stringRef "Tollgate" 222 "no such leg" ∈ lw_tbl := List.mem_of_getElem? (i := 686) (by decide +kernel)
set_option maxRecDepth 100000 in
theorem st_s6 : Cond.stringRef "Tollgate" 329 "no such line" ∈ lw_tbl := List.mem_of_getElem? (i := 691) (by decide +kernel)
set_option maxRecDepth 100000 in
theorem st_s7 : Cond.stringRef "Tollgate" 351 "no such kind" ∈ lw_tbl := List.mem_of_getElem? (i := 696) (by decide +kernel)
set_option maxRecDepth 100000 in
theorem st_s8 : Cond.stringRef "Tollgate" 131 "no such day" ∈ lw_tbl := List.mem_of_getElem? (i := 704) (by decide +kernel)
set_option maxRecDepth 100000 in
theorem st_s9 : Cond.stringRef "Tollgate" 73 "no such currency or rate" ∈ lw_tbl := List.mem_of_getElem? (i := 723) (by decide +kernel)
set_option maxRecDepth 100000 in
theorem st_s10 : Cond.stringRef "Tollgate" 84 "an account has that currency" ∈ lw_tbl := List.mem_of_getElem? (i := 737) (by decide +kernel)
set_option maxRecDepth 100000 in
theorem st_s11 : Cond.stringRef "Tollgate" 91 "no such kind or currency" ∈ lw_tbl := List.mem_of_getElem? (i := 751) (by decide +kernel)
set_option maxRecDepth 100000 in
theorem st_s12 : Cond.stringRef "Tollgate" 96 "there are as many accounts as there can be" ∈ lw_tbl := List.mem_of_getElem? (i := 752) (by decide +kernel)
set_option maxRecDepth 100000 in
theorem st_s13 : Cond.stringRef "Tollgate" 107 "no such floor" ∈ lw_tbl := List.mem_of_getElem? (i := 766) (by decide +kernel)
set_option maxRecDepth 100000 in
theorem st_s14 : Cond.stringRef "Tollgate" 117 "the account is below that floor" ∈ lw_tbl := List.mem_of_getElem? (i := 767) (by decide +kernel)
set_option maxRecDepth 100000 in
theorem st_s15 : Cond.stringRef "Tollgate" 129 "the account is of another currency than 0" ∈ lw_tbl := List.mem_of_getElem? (i := 775) (by decide +kernel)
set_option maxRecDepth 100000 in
theorem st_s16 : Cond.stringRef "Tollgate" 136 "no such note" ∈ lw_tbl := List.mem_of_getElem? (i := 790) (by decide +kernel)
set_option maxRecDepth 100000 in
theorem st_s17 : Cond.stringRef "Tollgate" 415 "no such amount" ∈ lw_tbl := List.mem_of_getElem? (i := 807) (by decide +kernel)
set_option maxRecDepth 100000 in
theorem st_s18 : Cond.stringRef "Tollgate" 153 "no draft that takes a leg" ∈ lw_tbl := List.mem_of_getElem? (i := 808) (by decide +kernel)
set_option maxRecDepth 100000 in
theorem st_s19 : Cond.stringRef "Tollgate" 170 "the draft cannot be posted" ∈ lw_tbl := List.mem_of_getElem? (i := 816) (by decide +kernel)
set_option maxRecDepth 100000 in
theorem st_s20 : Cond.stringRef "Tollgate" 202 "a closing is not turned back" ∈ lw_tbl := List.mem_of_getElem? (i := 837) (by decide +kernel)
set_option maxRecDepth 100000 in
theorem st_s21 : Cond.stringRef "Tollgate" 422 "no such entry can be made today" ∈ lw_tbl := List.mem_of_getElem? (i := 846) (by decide +kernel)
set_option maxRecDepth 100000 in
theorem st_s22 : Cond.stringRef "Tollgate" 243 "no such hold can be" ∈ lw_tbl := List.mem_of_getElem? (i := 862) (by decide +kernel)
set_option maxRecDepth 100000 in
theorem st_s23 : Cond.stringRef "Tollgate" 246 "there were as many holds as there can be" ∈ lw_tbl := List.mem_of_getElem? (i := 863) (by decide +kernel)
set_option maxRecDepth 100000 in
theorem st_s24 : Cond.stringRef "Tollgate" 252 "less is to be had" ∈ lw_tbl := List.mem_of_getElem? (i := 864) (by decide +kernel)
set_option maxRecDepth 100000 in
theorem st_s25 : Cond.stringRef "Tollgate" 406 "no such hold" ∈ lw_tbl := List.mem_of_getElem? (i := 880) (by decide +kernel)
set_option maxRecDepth 100000 in
theorem st_s26 : Cond.stringRef "Tollgate" 263 "that cannot be taken from the hold" ∈ lw_tbl := List.mem_of_getElem? (i := 881) (by decide +kernel)
set_option maxRecDepth 100000 in
theorem st_s27 : Cond.stringRef "Tollgate" 412 "the hold is not open" ∈ lw_tbl := List.mem_of_getElem? (i := 887) (by decide +kernel)
set_option maxRecDepth 100000 in
theorem st_s28 : Cond.stringRef "Tollgate" 275 "no closing up to that day, or not into that account" ∈ lw_tbl := List.mem_of_getElem? (i := 906) (by decide +kernel)
set_option maxRecDepth 100000 in
theorem st_s29 : Cond.stringRef "Tollgate" 284 "that day is locked, or no entry can be made" ∈ lw_tbl := List.mem_of_getElem? (i := 907) (by decide +kernel)
set_option maxRecDepth 100000 in
theorem st_s30 : Cond.stringRef "Tollgate" 296 "nothing is closed" ∈ lw_tbl := List.mem_of_getElem? (i := 916) (by decide +kernel)
set_option maxRecDepth 100000 in
theorem st_s31 : Cond.stringRef "Tollgate" 302 "there are as many lines as there can be" ∈ lw_tbl := List.mem_of_getElem? (i := 928) (by decide +kernel)
set_option maxRecDepth 100000 in
theorem st_s32 : Cond.stringRef "Tollgate" 417 "days are 0 to 30" ∈ lw_tbl := List.mem_of_getElem? (i := 947) (by decide +kernel)
set_option maxRecDepth 100000 in
theorem st_s33 : Cond.stringRef "Tollgate" 359 "no such day from today on" ∈ lw_tbl := List.mem_of_getElem? (i := 993) (by decide +kernel)
set_option maxRecDepth 100000 in
theorem wt_over : Cond.arrayOver (.object "java/lang/Object") ∈ lw_tbl := List.mem_of_getElem? (i := 1209) (by decide +kernel)
set_option maxRecDepth 100000 in
theorem st_l0 : Cond.laysStatic Bundle.tN "UNASSIGNED_STACK" Bundle.steD ∈ lw_tbl := List.mem_of_getElem? (i := 507) (by decide +kernel)
set_option maxRecDepth 100000 in
theorem st_l1 : Cond.laysStatic Bundle.tN "SUPPRESSED_SENTINEL" Bundle.listD ∈ lw_tbl := List.mem_of_getElem? (i := 509) (by decide +kernel)
set_option maxRecDepth 100000 in
theorem st_l2 : Cond.laysStatic "java/util/ArrayList" "DEFAULTCAPACITY_EMPTY_ELEMENTDATA" "[Ljava/lang/Object;" ∈ lw_tbl := List.mem_of_getElem? (i := 1024) (by decide +kernel)
set_option maxRecDepth 100000 in
theorem st_i0 : Cond.initialized Bundle.tN ∈ lw_tbl := List.mem_of_getElem? (i := 80) (by decide +kernel)
set_option maxRecDepth 100000 in
theorem st_i2 : Cond.initialized "java/util/ArrayList" ∈ lw_tbl := List.mem_of_getElem? (i := 79) (by decide +kernel)
theorem st_R {args : Array Value} {s : State} {k : Nat} {tx : String} {cur : Nat} (hc : s.vm.findClass "Tollgate" = some cur) (h : (Cond.stringRef "Tollgate" k tx).before args s = true) : ∃ sa, vk_R RX7 k tx sa s := by
  obtain ⟨_, _, _, sa, _, _, _, _, _, hev⟩ := Cond.stringRef_spec hc h
  exact ⟨sa, vk_R.of (A := args) h hev⟩
theorem et_start {s : State} {sb : Nat} {cur : Nat} (hc7 : s.vm.findClass "Tollgate" = some cur) (hts0 : ∀ w ∈ lw_tbl, w.before #[Value.ref sb] s = true) (hgv : (Jvm.Cond.and given_1 narrow_1).before #[Value.ref sb] s = true) : ET s := by
  have hs := flat_of_before _ hgv
  refine ⟨fun q hq => ?_, fun x hx => ?_, fun q hq => ?_, fun q hq => ?_, va_AO.of (hts0 _ wt_over)⟩
  · simp only [EVC, List.mem_cons, List.not_mem_nil, or_false] at hq
    rcases hq with rfl | rfl | rfl | rfl
    · exact va_Nw.of rfl (hts0 _ st_c0)
    · exact va_Nw.of rfl (hts0 _ st_c1)
    · exact va_Nw.of rfl (hts0 _ st_c2)
    · exact va_Nw.of rfl (hts0 _ st_c3)
  · simp only [EVD, List.mem_cons, List.not_mem_nil, or_false] at hx
    rcases hx with rfl | rfl | rfl
    · exact va_Nw.of rfl (hts0 _ st_d0)
    · exact va_Nw.of rfl (hts0 _ st_d1)
    · exact va_Nw.of rfl (hts0 _ st_d2)
  · simp only [EVN, List.mem_cons, List.not_mem_nil, or_false] at hq
    rcases hq with rfl | rfl | rfl | rfl | rfl | rfl
    · exact va_Nc.of (hs (Cond.not (.castable "java/lang/IllegalArgumentException" "java/lang/IllegalStateException")) (by decide +kernel))
    · exact va_Nc.of (hs (Cond.not (.castable "java/lang/IllegalArgumentException" "java/lang/IndexOutOfBoundsException")) (by decide +kernel))
    · exact va_Nc.of (hs (Cond.not (.castable "java/lang/IllegalStateException" "java/lang/IllegalArgumentException")) (by decide +kernel))
    · exact va_Nc.of (hs (Cond.not (.castable "java/lang/IllegalStateException" "java/lang/IndexOutOfBoundsException")) (by decide +kernel))
    · exact va_Nc.of (hs (Cond.not (.castable "java/lang/IndexOutOfBoundsException" "java/lang/IllegalArgumentException")) (by decide +kernel))
    · exact va_Nc.of (hs (Cond.not (.castable "java/lang/IndexOutOfBoundsException" "java/lang/IllegalStateException")) (by decide +kernel))
  · simp only [EVS, List.mem_cons, List.not_mem_nil, or_false] at hq
    rcases hq with rfl | rfl | rfl | rfl | rfl | rfl | rfl | rfl | rfl | rfl | rfl | rfl | rfl | rfl | rfl | rfl | rfl | rfl | rfl | rfl | rfl | rfl | rfl | rfl | rfl | rfl | rfl | rfl | rfl | rfl | rfl | rfl | rfl | rfl
    · exact st_R hc7 (hts0 _ st_s0)
    · exact st_R hc7 (hts0 _ st_s1)
    · exact st_R hc7 (hts0 _ st_s2)
    · exact st_R hc7 (hts0 _ st_s3)
    · exact st_R hc7 (hts0 _ st_s4)
    · exact st_R hc7 (hts0 _ st_s5)
    · exact st_R hc7 (hts0 _ st_s6)
    · exact st_R hc7 (hts0 _ st_s7)
    · exact st_R hc7 (hts0 _ st_s8)
    · exact st_R hc7 (hts0 _ st_s9)
    · exact st_R hc7 (hts0 _ st_s10)
    · exact st_R hc7 (hts0 _ st_s11)
    · exact st_R hc7 (hts0 _ st_s12)
    · exact st_R hc7 (hts0 _ st_s13)
    · exact st_R hc7 (hts0 _ st_s14)
    · exact st_R hc7 (hts0 _ st_s15)
    · exact st_R hc7 (hts0 _ st_s16)
    · exact st_R hc7 (hts0 _ st_s17)
    · exact st_R hc7 (hts0 _ st_s18)
    · exact st_R hc7 (hts0 _ st_s19)
    · exact st_R hc7 (hts0 _ st_s20)
    · exact st_R hc7 (hts0 _ st_s21)
    · exact st_R hc7 (hts0 _ st_s22)
    · exact st_R hc7 (hts0 _ st_s23)
    · exact st_R hc7 (hts0 _ st_s24)
    · exact st_R hc7 (hts0 _ st_s25)
    · exact st_R hc7 (hts0 _ st_s26)
    · exact st_R hc7 (hts0 _ st_s27)
    · exact st_R hc7 (hts0 _ st_s28)
    · exact st_R hc7 (hts0 _ st_s29)
    · exact st_R hc7 (hts0 _ st_s30)
    · exact st_R hc7 (hts0 _ st_s31)
    · exact st_R hc7 (hts0 _ st_s32)
    · exact st_R hc7 (hts0 _ st_s33)
theorem ea_start {D : va_G} {κ : K4} {s : State} {sb : Nat} (hts0 : ∀ w ∈ lw_tbl, w.before #[Value.ref sb] s = true) (hgv : (Jvm.Cond.and given_1 narrow_1).before #[Value.ref sb] s = true) : ∃ E0, EA E0 D κ (fun q => s.heap.size ≤ q) s s.heap := by
  have hs := flat_of_before _ hgv
  have hA : ∀ a : Nat, a < s.heap.size → ¬ (s.heap.size ≤ a) := fun a h => Nat.not_le_of_lt h
  have q0 : (Cond.isRef (.static Bundle.tN "UNASSIGNED_STACK" Bundle.steD)).before #[Value.ref sb] s = true := hs _ (by decide +kernel)
  have q1 : (Cond.isRef (.static Bundle.tN "SUPPRESSED_SENTINEL" Bundle.listD)).before #[Value.ref sb] s = true := hs _ (by decide +kernel)
  have q2 : (Cond.eq (.length (.static "java/util/ArrayList" "DEFAULTCAPACITY_EMPTY_ELEMENTDATA" "[Ljava/lang/Object;")) (.int 0)).before #[Value.ref sb] s = true := hs _ (by decide +kernel)
  have q3 : (Cond.arrayOf (.static "java/util/ArrayList" "DEFAULTCAPACITY_EMPTY_ELEMENTDATA" "[Ljava/lang/Object;") (.object "java/lang/Object")).before #[Value.ref sb] s = true := hs _ (by decide +kernel)
  cases hv : (Term.length (.static "java/util/ArrayList" "DEFAULTCAPACITY_EMPTY_ELEMENTDATA" "[Ljava/lang/Object;")).eval #[Value.ref sb] s none [] s with
  | none => simp [Cond.before, Cond.holds, Cond.value, hv] at q2
  | some v =>
    obtain ⟨E0, cell, h1, h2, rfl⟩ := Term.length_spec hv
    have h3 := Cond.eq_ints hv (show (Term.int 0).eval #[Value.ref sb] s none [] s = some (.int 0) from rfl)
    have h4 : cell.slots.size.toInt32 = 0 := by
      have h5 : (Cond.eq (.length (.static "java/util/ArrayList" "DEFAULTCAPACITY_EMPTY_ELEMENTDATA" "[Ljava/lang/Object;")) (.int 0)).holds #[Value.ref sb] s none s [] = true := q2
      simpa [Cond.holds, h3] using h5
    have h6 := (State.arrayAt?_spec h2).1
    refine ⟨E0, vx_Zqof (hts0 _ st_l0) (hts0 _ st_i0) q0 hA, vx_Zqof (hts0 _ st_l1) (hts0 _ st_i0) q1 hA, va_Zref (hts0 _ st_l2) (hts0 _ st_i2) h1 hA, ⟨cell, h6, (Cond.arrayOf_spec q3 h1 h6).1, h4⟩, ?_⟩
    exact hA _ (Array.getElem?_eq_some_iff.mp h6).1


theorem dL_law_0 : decode code 0 = .ok (.new 8, 3) := by decide +kernel
theorem dL_law_11 : decode code 11 = .ok (.dup, 1) := by decide +kernel
theorem dL_law_12 : decode code 12 = .ok (.invokespecial 109, 3) := by decide +kernel
theorem dL_law_15 : decode code 15 = .ok (.astore_n 2, 1) := by decide +kernel
theorem dL_law_16 : decode code 16 = .ok (.iconst 1, 1) := by decide +kernel
theorem dL_law_17 : decode code 17 = .ok (.newarray .long, 2) := by decide +kernel
theorem dL_law_19 : decode code 19 = .ok (.astore_n 3, 1) := by decide +kernel
theorem dL_law_20 : decode code 20 = .ok (.iconst 0, 1) := by decide +kernel
theorem dL_law_21 : decode code 21 = .ok (.istore 4, 2) := by decide +kernel
theorem dL_law_3 : decode code 3 = .ok (.dup, 1) := by decide +kernel
theorem dL_law_32 : decode code 32 = .ok (.aload_n 0, 1) := by decide +kernel
theorem dL_law_33 : decode code 33 = .ok (.iload 4, 2) := by decide +kernel
theorem dL_law_35 : decode code 35 = .ok (.iaload, 1) := by decide +kernel
theorem dL_law_36 : decode code 36 = .ok (.bipush 31, 2) := by decide +kernel
theorem dL_law_38 : decode code 38 = .ok (.iand, 1) := by decide +kernel
theorem dL_law_39 : decode code 39 = .ok (.tableswitch 2003 0 30 #[137, 205, 273, 340, 396, 452, 520, 587, 631, 644, 700, 768, 847, 927, 1007, 1063, 1131, 1175, 1255, 1323, 1390, 1446, 1502, 1569, 1636, 1691, 1758, 1825, 1893, 1948, 1989], 137) := by decide +kernel
theorem dL_law_4 : decode code 4 = .ok (.invokespecial 106, 3) := by decide +kernel
theorem dL_law_7 : decode code 7 = .ok (.astore_n 1, 1) := by decide +kernel
theorem dL_law_8 : decode code 8 = .ok (.new 107, 3) := by decide +kernel
set_option maxHeartbeats 8000000 in
set_option maxRecDepth 100000 in
theorem whole_start {p : Program} {e : Env} {s : State} {m : MethodId} {below : List Frame} {meth : Method} {c : Code} (l : Launch) (hflags : l.flags = flags0) {sb L : Nat} {xs : Nat → Int32} (hL : L ≤ 4) (C0 : lw_At p s m meth c sb L xs) : W p l e room_1 s m #[Value.ref sb] below meth c s.heap [] 0 0 (lw_Z below #[Value.ref sb] s) (entryFrame m ([Value.ref sb] : List Value).toArray 9) := by
  obtain ⟨hx, hb, hr, hml, hown, hts0, hX, hbl, hlocks, hgv⟩ := id C0
  have hst : l.stackTraces = false := by unfold Launch.stackTraces; rw [hflags]; decide +kernel
  have hts : ∀ w ∈ WALL, w.before #[Value.ref sb] s = true := fun w h => hts0 w (WALL_in w h)
  have hC : CallFix p m c code 9 s #[Value.ref sb] WALL RL := ⟨hx, hb, hml, hown, hts⟩
  obtain ⟨c0, iS0, hKn0⟩ := u_known (C := RX0) (T := TX0) (N := 6) (n := 6) hts iwX0 (hts _ w14)
  obtain ⟨c1, iS1, hKn1⟩ := u_known (C := RX1) (T := TX1) (N := 4) (n := 4) hts iwX1 (hts _ w18)
  obtain ⟨c2, iS2, hKn2⟩ := u_known (C := RX2) (T := TX2) (N := 5) (n := 5) hts iwX2 (hts _ w26)
  obtain ⟨c3, iS3, hKn3⟩ := u_known (C := RX3) (T := TX3) (N := 12) (n := 12) hts iwX3 (hts _ w22)
  obtain ⟨c4, iS4, hKn4⟩ := u_known (C := RX4) (T := TX4) (N := 4) (n := 4) hts iwX4 (hts _ w39)
  obtain ⟨c5, iS5, hKn5⟩ := u_known (C := RX5) (T := TX5) (N := 5) (n := 5) hts iwX5 (hts _ w30)
  obtain ⟨c6, iS6, hKn6⟩ := u_known (C := RX6) (T := TX6) (N := 5) (n := 5) hts iwX6 (hts _ w34)
  obtain ⟨c7, iS7, hKn7⟩ := u_known (C := RX7) (T := TX7) (N := 10) (n := 10) hts iwX7 (hts _ w1)
  obtain ⟨c8, iS8, hKn8⟩ := u_known (C := RX8) (T := TX8) (N := 5) (n := 5) hts iwX8 (hts _ w221)
  obtain ⟨c9, iS9, hKn9⟩ := u_known (C := RX14) (T := TX14) (N := 15) (n := 15) hts iwX14 (hts _ w4)
  obtain ⟨c10, iS10, hKn10⟩ := u_known (C := RJx4a65c) (T := TJx4a65c) (N := 3) (n := 3) hts iwJA (hts _ w116)
  obtain ⟨D, hKc⟩ : ∃ D : va_G, ∀ (k : Nat) (q : vw_C), vwM[k]? = some q → u_Kn s q.1 q.2.1 q.2.2 (D.1 k) (D.2 k) := by
    refine ⟨(fun k => match k with | 0 => c0 | 1 => c1 | 2 => c2 | 3 => c3 | 4 => c4 | 5 => c5 | 6 => c6 | 7 => c7 | 8 => c8 | 9 => c9 | _ => c10, fun k => match k with | 0 => iS0 | 1 => iS1 | 2 => iS2 | 3 => iS3 | 4 => iS4 | 5 => iS5 | 6 => iS6 | 7 => iS7 | 8 => iS8 | 9 => iS9 | _ => iS10), ?_⟩
    intro k q hq
    match k, hq with
    | 0, hq => cases hq; exact hKn0
    | 1, hq => cases hq; exact hKn1
    | 2, hq => cases hq; exact hKn2
    | 3, hq => cases hq; exact hKn3
    | 4, hq => cases hq; exact hKn4
    | 5, hq => cases hq; exact hKn5
    | 6, hq => cases hq; exact hKn6
    | 7, hq => cases hq; exact hKn7
    | 8, hq => cases hq; exact hKn8
    | 9, hq => cases hq; exact hKn9
    | 10, hq => cases hq; exact hKn10
    | k + 11, hq => simp [vwM] at hq
  obtain ⟨kA, eA, fA⟩ := arr_known (ty := .int) (by decide) (hts _ w47)
  obtain ⟨kB, eB, fB⟩ := arr_known (ty := .long) (by decide) (hts _ w6)
  obtain ⟨kZ, eZ, fZ⟩ := arr_known (ty := .boolean) (by decide) (hts _ w52)
  obtain ⟨kO, eO, fO⟩ := arr_knownO (va_AO.of (hts0 _ wt_over))
  obtain ⟨κ, eκ⟩ : ∃ κ : K4, κ = (kA, kB, kZ, kO) := ⟨_, rfl⟩
  have hK : va_K D vwM (tysA κ) s := by
    refine ⟨hKc, fun k q h => ?_⟩
    subst eκ
    match k, h with
    | 0, h => cases h; exact ⟨eA, fA⟩
    | 1, h => cases h; exact ⟨eB, fB⟩
    | 2, h => cases h; exact ⟨eZ, fZ⟩
    | 3, h => cases h; exact ⟨eO, fO⟩
    | k + 4, h => simp [tysA] at h
  have hG : BW D κ [] (fun q : Nat => s.heap.size ≤ q) s s.heap [] := ⟨hK, fun k q h => by simp at h, ⟨fun i j p q h => by simp at h, fun k q h => by simp at h⟩, va_S.rf, fun _ h => h⟩
  have hT : ET s := et_start (hKc 7 _ rfl).2.1 hts0 hgv
  obtain ⟨E0, hE⟩ := ea_start (D := D) (κ := κ) hts0 hgv
  have hX7 : XN [(RX7, 11, yX0_init), (RX7, 18, yX1_init), (RX1, 9, yX4_init), (RX7, 25, yX3_init), (RX7, 32, yX2_init), (RX7, 39, yX5_init), (RX7, 58, yX4_init)] s := by
    intro w hw
    simp only [List.mem_cons, List.not_mem_nil, or_false] at hw
    rcases hw with rfl | rfl | rfl | rfl | rfl | rfl | rfl
    · exact va_Nw.of rfl (hts0 _ wn_RX7_11)
    · exact va_Nw.of rfl (hts0 _ wn_RX7_18)
    · exact va_Nw.of rfl (hts0 _ wn_RX1_9)
    · exact va_Nw.of rfl (hts0 _ wn_RX7_25)
    · exact va_Nw.of rfl (hts0 _ wn_RX7_32)
    · exact va_Nw.of rfl (hts0 _ wn_RX7_39)
    · exact va_Nw.of rfl (hts0 _ wn_RX7_58)
  have hl := lv_entry ([.ref sb]) (n := 9) (Nat.le_of_ble_eq_true rfl)
  rw [lg_entry_eq]
  generalize (lg_sl ([.ref sb]) ++ List.replicate (9 - (lg_sl ([.ref sb])).length) Slot.unset).toArray = ls at hl ⊢
  have hl : lv_has ls 9 [(0, .ref sb)] := hl
  refine bw_new (C := RX7) (T := TX7) (N := 10) (ci := 7) (fs := [.null, .null, .null, .null, .null, .null, .null, .null, .int 0, .int 0]) hC hG iwX7 tyX7_ok w0 w1 w2 rfl (fun j hj => by rcases (show j = 0 ∨ j = 1 ∨ j = 2 ∨ j = 3 ∨ j = 4 ∨ j = 5 ∨ j = 6 ∨ j = 7 ∨ j = 8 ∨ j = 9 by omega) with rfl | rfl | rfl | rfl | rfl | rfl | rfl | rfl | rfl | rfl <;> rfl) (Nat.le_of_ble_eq_true rfl) (Nat.le_of_ble_eq_true rfl) dL_law_0 (fun h0 H hG => ?_)
  have hG : BW D κ [(h0, .inr (7, [.null, .null, .null, .null, .null, .null, .null, .null, .int 0, .int 0]))] (fun q : Nat => s.heap.size ≤ q) s H [] := hG
  refine lv_dup hx hb dL_law_3 rfl ?_
  refine bw_run (wc := [(h0, .inr (7, [.null, .null, .null, .null, .null, .null, .null, .null, .int 0, .int 0]))]) (wr := []) hG [0] [] rfl rfl (by decide) (by decide) (va_runI (As := []) (rest := [.ref h0]) hC (c_init_7 l D κ H.size h0) (cwI 0 hC.2.2.2.2 (fun w h => by rcases List.mem_cons.mp h with rfl | h; exact wl_in _ w9; exact wl_in _ h) rfl rfl rfl (hC.2.2.2.2 _ w2) (hC.2.2.2.2 _ w7) (hC.2.2.2.2 _ w8) rfl (by decide +kernel) ⟨(Nat.le_of_ble_eq_true rfl), (Nat.le_of_ble_eq_true rfl)⟩) ⟨fun x U g mk q => ⟨q.1, q.2.1, ⟨va_K.moved (u := U) (U := U.calling g mk x) (Vm.Alike.refl U.vm) q.2.2.1.1, q.2.2.1.2⟩, XN.same rfl q.2.2.2⟩, fun U hU hW => ⟨rfl, by rw [hU], ⟨va_K.moved hW.alike hG.1, by rw [hU]; exact hG.2.1, hG.2.2.1.weaken (fun _ _ _ _ => trivial)⟩, XN.warm hW hX7 (fun _ h => h)⟩⟩ rfl rfl hl.1 rfl (lv_room (Nat.le_of_ble_eq_true rfl)) dL_law_4 ⟨(Nat.le_of_ble_eq_true rfl), (Nat.le_of_ble_eq_true rfl)⟩) (fun qs H locs hG => ?_)
  obtain ⟨a, ea⟩ : ∃ a : Nat → Nat, a = fun k => match k with | 0 => h0 | k + 1 => qs k := ⟨_, rfl⟩
  have hG : BW D κ (xw κ a) (fun q : Nat => s.heap.size ≤ q) s H locs := by subst ea; exact hG
  have eh : h0 = a 0 := by subst ea; rfl
  rw [eh]
  refine lv_astore_n (lv' := [(1, .ref (a 0)), (0, .ref sb)]) hx hb dL_law_7 rfl hl (by decide) rfl (fun ls hl => ?_)
  refine bw_new (C := RX14) (T := TX14) (N := 15) (ci := 9) (fs := [.int 0, .null, .null, .null, .null, .null, .null, .null, .null, .int 0, .int 0, .int 0, .int 0, .int 0, .null]) hC hG iwX14 tyX14_ok w3 w4 w5 rfl (fun j hj => by rcases (show j = 0 ∨ j = 1 ∨ j = 2 ∨ j = 3 ∨ j = 4 ∨ j = 5 ∨ j = 6 ∨ j = 7 ∨ j = 8 ∨ j = 9 ∨ j = 10 ∨ j = 11 ∨ j = 12 ∨ j = 13 ∨ j = 14 by omega) with rfl | rfl | rfl | rfl | rfl | rfl | rfl | rfl | rfl | rfl | rfl | rfl | rfl | rfl | rfl <;> rfl) (Nat.le_of_ble_eq_true rfl) (Nat.le_of_ble_eq_true rfl) dL_law_8 (fun m0 H hG => ?_)
  refine lv_dup hx hb dL_law_11 rfl ?_
  have cut12 : Cut (xw κ a ++ [(m0, .inr (9, [.int 0, .null, .null, .null, .null, .null, .null, .null, .null, .int 0, .int 0, .int 0, .int 0, .int 0, .null]))]) [(m0, .inr (9, [.int 0, .null, .null, .null, .null, .null, .null, .null, .null, .int 0, .int 0, .int 0, .int 0, .int 0, .null]))] (xw κ a) := Cut.idx [45] [0, 1, 2, 3, 4, 5, 6, 7, 8, 9, 10, 11, 12, 13, 14, 15, 16, 17, 18, 19, 20, 21, 22, 23, 24, 25, 26, 27, 28, 29, 30, 31, 32, 33, 34, 35, 36, 37, 38, 39, 40, 41, 42, 43, 44] rfl rfl (by decide) (by decide) (by decide)
  refine zc_v hG cut12 (zr_I (n := 0) (As := []) (rest := [.ref m0]) hC hG hE hT cut12 (z_287_init l hst D κ E0 H.size m0) w110 w5 w112 w111 rfl (by decide +kernel) ⟨(Nat.le_of_ble_eq_true rfl), (Nat.le_of_ble_eq_true rfl)⟩ rfl hl.1 rfl (Nat.le_of_ble_eq_true rfl) dL_law_12 ⟨(Nat.le_of_ble_eq_true rfl), (Nat.le_of_ble_eq_true rfl)⟩) (fun z H locs hG => ?_)
  obtain ⟨b, eb⟩ : ∃ b : Nat → Nat, b = fun k => match k with | 0 => m0 | 1 => z 0 | 2 => z 1 | 3 => z 2 | 4 => z 3 | 5 => z 4 | 6 => z 5 | 7 => z 6 | _ => z 7 := ⟨_, rfl⟩
  have hG := hG.arrI 46 (g := fun _ => 1000) rfl (fun j hj => by rcases (show j = 0 ∨ j = 1 ∨ j = 2 ∨ j = 3 by omega) with rfl | rfl | rfl | rfl <;> rfl)
  have hG := hG.at (ws' := mw κ b E0 0 ++ xw κ a) [45, 46, 47, 48, 49, 50, 51, 52, 53, 0, 1, 2, 3, 4, 5, 6, 7, 8, 9, 10, 11, 12, 13, 14, 15, 16, 17, 18, 19, 20, 21, 22, 23, 24, 25, 26, 27, 28, 29, 30, 31, 32, 33, 34, 35, 36, 37, 38, 39, 40, 41, 42, 43, 44] (by decide) (by subst eb; rfl)
  have em : m0 = b 0 := by subst eb; rfl
  rw [em]
  refine lv_astore_n (lv' := [(2, .ref (b 0)), (1, .ref (a 0)), (0, .ref sb)]) hx hb dL_law_15 rfl hl (by decide) rfl (fun ls hl => ?_)
  refine lv_iconst (v := 1) hx hb dL_law_16 (by decide) ?_
  refine W.eq (g2 := F0 m 17 ls [.int (nI 1)]) rfl ?_
  refine bw_nJ hC hG (by decide) w6 (Nat.le_of_ble_eq_true rfl) (Nat.le_of_ble_eq_true rfl) dL_law_17 (fun o H hG => ?_)
  refine lv_astore_n (lv' := [(3, .ref o), (2, .ref (b 0)), (1, .ref (a 0)), (0, .ref sb)]) hx hb dL_law_19 rfl hl (by decide) rfl (fun ls hl => ?_)
  have hG := hG.at (ws' := (xw κ a ++ [(o, .inl (κ.2.1, 1, .inr (.inl (fun _ => 0))))]) ++ mw κ b E0 0) [9, 10, 11, 12, 13, 14, 15, 16, 17, 18, 19, 20, 21, 22, 23, 24, 25, 26, 27, 28, 29, 30, 31, 32, 33, 34, 35, 36, 37, 38, 39, 40, 41, 42, 43, 44, 45, 46, 47, 48, 49, 50, 51, 52, 53, 54, 0, 1, 2, 3, 4, 5, 6, 7, 8] (by decide) rfl
  refine W.widen (k := 100) (n := 6000) (Nat.le_of_ble_eq_true rfl) (Nat.le_of_ble_eq_true rfl) ?_
  refine lv_iconst (v := 0) hx hb dL_law_20 (by decide) ?_
  refine lv_istore (lv' := [(4, .int 0), (3, .ref o), (2, .ref (b 0)), (1, .ref (a 0)), (0, .ref sb)]) hx hb dL_law_21 hl (by decide) rfl (fun ls hl => ?_)
  refine lv_iload hx hb dL_law_23 (lv_at hl 0 rfl) ?_
  refine lv_aload_n hx hb dL_law_25 rfl (lv_at hl 4 rfl) ?_
  refine va_slen hx hb hX hbl (Nat.not_le_of_lt hbl) hG.2.2.2.1 dL_law_26 ?_
  refine lv_iconst (v := 4) hx hb dL_law_27 (by decide) ?_
  refine lv_isub hx hb dL_law_28 ?_
  rcases (show L = 0 ∨ L = 1 ∨ L = 2 ∨ L = 3 ∨ L = 4 from by omega) with hL4 | hL4 | hL4 | hL4 | hL4
  · refine lv_icmp_gt (tgt := 2048) hx hb dL_law_29 (by decide) (fun _ => ?_) (fun h9 => absurd (by rw [hL4]; decide) h9)
    refine lv_iconst (v := 1) hx hb dL_law_2048 (by decide) ?_
    refine W.widen (k := 600002) (n := 7302232) (Nat.le_of_ble_eq_true rfl) (Nat.le_of_ble_eq_true rfl) ?_
    refine va_forget (fun q hq => hG.2.2.2.1.2.2 q hq) ?_
    refine W.base ?_
    exact lw_ret (Drawn.sameBut.refl s.drawn lw_cs) hx hb hr hlocks dL_law_2049
  · refine lv_icmp_gt (tgt := 2048) hx hb dL_law_29 (by decide) (fun _ => ?_) (fun h9 => absurd (by rw [hL4]; decide) h9)
    refine lv_iconst (v := 1) hx hb dL_law_2048 (by decide) ?_
    refine W.widen (k := 600002) (n := 7302232) (Nat.le_of_ble_eq_true rfl) (Nat.le_of_ble_eq_true rfl) ?_
    refine va_forget (fun q hq => hG.2.2.2.1.2.2 q hq) ?_
    refine W.base ?_
    exact lw_ret (Drawn.sameBut.refl s.drawn lw_cs) hx hb hr hlocks dL_law_2049
  · refine lv_icmp_gt (tgt := 2048) hx hb dL_law_29 (by decide) (fun _ => ?_) (fun h9 => absurd (by rw [hL4]; decide) h9)
    refine lv_iconst (v := 1) hx hb dL_law_2048 (by decide) ?_
    refine W.widen (k := 600002) (n := 7302232) (Nat.le_of_ble_eq_true rfl) (Nat.le_of_ble_eq_true rfl) ?_
    refine va_forget (fun q hq => hG.2.2.2.1.2.2 q hq) ?_
    refine W.base ?_
    exact lw_ret (Drawn.sameBut.refl s.drawn lw_cs) hx hb hr hlocks dL_law_2049
  · refine lv_icmp_gt (tgt := 2048) hx hb dL_law_29 (by decide) (fun _ => ?_) (fun h9 => absurd (by rw [hL4]; decide) h9)
    refine lv_iconst (v := 1) hx hb dL_law_2048 (by decide) ?_
    refine W.widen (k := 600002) (n := 7302232) (Nat.le_of_ble_eq_true rfl) (Nat.le_of_ble_eq_true rfl) ?_
    refine va_forget (fun q hq => hG.2.2.2.1.2.2 q hq) ?_
    refine W.base ?_
    exact lw_ret (Drawn.sameBut.refl s.drawn lw_cs) hx hb hr hlocks dL_law_2049
  refine lv_icmp_gt (tgt := 2048) hx hb dL_law_29 (by decide) (fun h9 => absurd h9 (by rw [hL4]; decide)) (fun _ => ?_)
  refine lv_aload_n hx hb dL_law_32 rfl (lv_at hl 4 rfl) ?_
  refine lv_iload hx hb dL_law_33 (lv_at hl 0 rfl) ?_
  refine va_sld hx hb hX hbl (Nat.not_le_of_lt hbl) hG.2.2.2.1 (vp_box (by decide) (by rw [hL4]; decide)) dL_law_35 ?_
  refine lv_bipush (v := 31) hx hb dL_law_36 (by decide) ?_
  refine lv_iand hx hb dL_law_38 ?_
  obtain ⟨j, hj, ej⟩ := pk_andE (xs (0 : Int32).toNatClampNeg) (m := 31) 5 (by decide)
  rw [ej]
  have r1 := i_rng (xs 1)
  have r2 := i_rng (xs 2)
  have r3 := i_rng (xs 3)
  rcases (show j = 0 ∨ j = 1 ∨ j = 2 ∨ j = 3 ∨ j = 4 ∨ j = 5 ∨ j = 6 ∨ j = 7 ∨ j = 8 ∨ j = 9 ∨ j = 10 ∨ j = 11 ∨ j = 12 ∨ j = 13 ∨ j = 14 ∨ j = 15 ∨ j = 16 ∨ j = 17 ∨ j = 18 ∨ j = 19 ∨ j = 20 ∨ j = 21 ∨ j = 22 ∨ j = 23 ∨ j = 24 ∨ j = 25 ∨ j = 26 ∨ j = 27 ∨ j = 28 ∨ j = 29 ∨ j = 30 ∨ j = 31 from by omega) with rfl | rfl | rfl | rfl | rfl | rfl | rfl | rfl | rfl | rfl | rfl | rfl | rfl | rfl | rfl | rfl | rfl | rfl | rfl | rfl | rfl | rfl | rfl | rfl | rfl | rfl | rfl | rfl | rfl | rfl | rfl | rfl
  · refine lv_tableIn (off := 137) (tgt := 176) hx hb dL_law_39 (by decide) (by decide) (by decide) (by decide) ?_
    rcases (show ((xs 1).toInt ≤ 0) ∨ (4 ≤ (xs 1).toInt) ∨ (1 ≤ (xs 1).toInt ∧ (xs 1).toInt ≤ 3 ∧ (xs 2).toInt ≤ 0) ∨ (1 ≤ (xs 1).toInt ∧ (xs 1).toInt ≤ 3 ∧ 100001 ≤ (xs 2).toInt) ∨ (1 ≤ (xs 1).toInt ∧ (xs 1).toInt ≤ 3 ∧ 1 ≤ (xs 2).toInt ∧ (xs 2).toInt ≤ 100000) from by omega) with h9 | h9 | h9 | h9 | h9
    · exact leaf_0 l hst hC hr hlocks hX hbl hL4 hE hT ⟨by omega, by omega⟩ ⟨by omega, by omega⟩ H locs hG ls hl
    · exact leaf_1 l hst hC hr hlocks hX hbl hL4 hE hT ⟨by omega, by omega⟩ ⟨by omega, by omega⟩ H locs hG ls hl
    · exact leaf_2 l hst hC hr hlocks hX hbl hL4 hE hT ⟨by omega, by omega⟩ ⟨by omega, by omega⟩ H locs hG ls hl
    · exact leaf_3 l hst hC hr hlocks hX hbl hL4 hE hT ⟨by omega, by omega⟩ ⟨by omega, by omega⟩ H locs hG ls hl
    · exact leaf_4 l hst hC hr hlocks hX hbl hL4 hE hT ⟨by omega, by omega⟩ ⟨by omega, by omega⟩ H locs hG ls hl
  · refine lv_tableIn (off := 205) (tgt := 244) hx hb dL_law_39 (by decide) (by decide) (by decide) (by decide) ?_
    rcases (show ((xs 1).toInt ≤ -1) ∨ (5 ≤ (xs 1).toInt) ∨ (0 ≤ (xs 1).toInt ∧ (xs 1).toInt ≤ 4 ∧ (xs 2).toInt ≤ -1) ∨ (0 ≤ (xs 1).toInt ∧ (xs 1).toInt ≤ 4 ∧ 4 ≤ (xs 2).toInt) ∨ (0 ≤ (xs 1).toInt ∧ (xs 1).toInt ≤ 4 ∧ 0 ≤ (xs 2).toInt ∧ (xs 2).toInt ≤ 3) from by omega) with h9 | h9 | h9 | h9 | h9
    · exact leaf_5 l hst hC hr hlocks hX hbl hL4 hE hT ⟨by omega, by omega⟩ ⟨by omega, by omega⟩ H locs hG ls hl
    · exact leaf_6 l hst hC hr hlocks hX hbl hL4 hE hT ⟨by omega, by omega⟩ ⟨by omega, by omega⟩ H locs hG ls hl
    · exact leaf_7 l hst hC hr hlocks hX hbl hL4 hE hT ⟨by omega, by omega⟩ ⟨by omega, by omega⟩ H locs hG ls hl
    · exact leaf_8 l hst hC hr hlocks hX hbl hL4 hE hT ⟨by omega, by omega⟩ ⟨by omega, by omega⟩ H locs hG ls hl
    · exact leaf_9 l hst hC hr hlocks hX hbl hL4 hE hT ⟨by omega, by omega⟩ ⟨by omega, by omega⟩ H locs hG ls hl
  · refine lv_tableIn (off := 273) (tgt := 312) hx hb dL_law_39 (by decide) (by decide) (by decide) (by decide) ?_
    exact leaf_10 l hst hC hr hlocks hX hbl hL4 hE hT ⟨by omega, by omega⟩ ⟨by omega, by omega⟩ ⟨by omega, by omega⟩ H locs hG ls hl
  · refine lv_tableIn (off := 340) (tgt := 379) hx hb dL_law_39 (by decide) (by decide) (by decide) (by decide) ?_
    exact leaf_11 l hst hC hr hlocks hX hbl hL4 hE hT ⟨by omega, by omega⟩ ⟨by omega, by omega⟩ ⟨by omega, by omega⟩ H locs hG ls hl
  · refine lv_tableIn (off := 396) (tgt := 435) hx hb dL_law_39 (by decide) (by decide) (by decide) (by decide) ?_
    rcases (show ((xs 1).toInt ≤ -1) ∨ (365 ≤ (xs 1).toInt) ∨ (0 ≤ (xs 1).toInt ∧ (xs 1).toInt ≤ 364) from by omega) with h9 | h9 | h9
    · exact leaf_28 l hst hC hr hlocks hX hbl hL4 hE hT ⟨by omega, by omega⟩ H locs hG ls hl
    · exact leaf_29 l hst hC hr hlocks hX hbl hL4 hE hT ⟨by omega, by omega⟩ H locs hG ls hl
    · exact leaf_30 l hst hC hr hlocks hX hbl hL4 hE hT ⟨by omega, by omega⟩ H locs hG ls hl
  · refine lv_tableIn (off := 452) (tgt := 491) hx hb dL_law_39 (by decide) (by decide) (by decide) (by decide) ?_
    rcases (show ((xs 1).toInt ≤ -1) ∨ (365 ≤ (xs 1).toInt) ∨ (0 ≤ (xs 1).toInt ∧ (xs 1).toInt ≤ 364 ∧ (xs 2).toInt ≤ -1) ∨ (0 ≤ (xs 1).toInt ∧ (xs 1).toInt ≤ 364 ∧ 1000 ≤ (xs 2).toInt) ∨ (0 ≤ (xs 1).toInt ∧ (xs 1).toInt ≤ 364 ∧ 0 ≤ (xs 2).toInt ∧ (xs 2).toInt ≤ 999) from by omega) with h9 | h9 | h9 | h9 | h9
    · exact leaf_31 l hst hC hr hlocks hX hbl hL4 hE hT ⟨by omega, by omega⟩ ⟨by omega, by omega⟩ H locs hG ls hl
    · exact leaf_32 l hst hC hr hlocks hX hbl hL4 hE hT ⟨by omega, by omega⟩ ⟨by omega, by omega⟩ H locs hG ls hl
    · exact leaf_33 l hst hC hr hlocks hX hbl hL4 hE hT ⟨by omega, by omega⟩ ⟨by omega, by omega⟩ H locs hG ls hl
    · exact leaf_34 l hst hC hr hlocks hX hbl hL4 hE hT ⟨by omega, by omega⟩ ⟨by omega, by omega⟩ H locs hG ls hl
    · exact leaf_35 l hst hC hr hlocks hX hbl hL4 hE hT ⟨by omega, by omega⟩ ⟨by omega, by omega⟩ H locs hG ls hl
  · refine lv_tableIn (off := 520) (tgt := 559) hx hb dL_law_39 (by decide) (by decide) (by decide) (by decide) ?_
    exact leaf_12 l hst hC hr hlocks hX hbl hL4 hE hT ⟨by omega, by omega⟩ ⟨by omega, by omega⟩ ⟨by omega, by omega⟩ H locs hG ls hl
  · refine lv_tableIn (off := 587) (tgt := 626) hx hb dL_law_39 (by decide) (by decide) (by decide) (by decide) ?_
    exact leaf_36 l hst hC hr hlocks hX hbl hL4 hE hT H locs hG ls hl
  · refine lv_tableIn (off := 631) (tgt := 670) hx hb dL_law_39 (by decide) (by decide) (by decide) (by decide) ?_
    exact leaf_37 l hst hC hr hlocks hX hbl hL4 hE hT H locs hG ls hl
  · refine lv_tableIn (off := 644) (tgt := 683) hx hb dL_law_39 (by decide) (by decide) (by decide) (by decide) ?_
    exact leaf_13 l hst hC hr hlocks hX hbl hL4 hE hT ⟨by omega, by omega⟩ ⟨by omega, by omega⟩ ⟨by omega, by omega⟩ H locs hG ls hl
  · refine lv_tableIn (off := 700) (tgt := 739) hx hb dL_law_39 (by decide) (by decide) (by decide) (by decide) ?_
    exact leaf_14 l hst hC hr hlocks hX hbl hL4 hE hT ⟨by omega, by omega⟩ ⟨by omega, by omega⟩ ⟨by omega, by omega⟩ H locs hG ls hl
  · refine lv_tableIn (off := 768) (tgt := 807) hx hb dL_law_39 (by decide) (by decide) (by decide) (by decide) ?_
    exact leaf_15 l hst hC hr hlocks hX hbl hL4 hE hT ⟨by omega, by omega⟩ ⟨by omega, by omega⟩ ⟨by omega, by omega⟩ H locs hG ls hl
  · refine lv_tableIn (off := 847) (tgt := 886) hx hb dL_law_39 (by decide) (by decide) (by decide) (by decide) ?_
    exact leaf_16 l hst hC hr hlocks hX hbl hL4 hE hT ⟨by omega, by omega⟩ ⟨by omega, by omega⟩ ⟨by omega, by omega⟩ H locs hG ls hl
  · refine lv_tableIn (off := 927) (tgt := 966) hx hb dL_law_39 (by decide) (by decide) (by decide) (by decide) ?_
    exact leaf_17 l hst hC hr hlocks hX hbl hL4 hE hT ⟨by omega, by omega⟩ ⟨by omega, by omega⟩ ⟨by omega, by omega⟩ H locs hG ls hl
  · refine lv_tableIn (off := 1007) (tgt := 1046) hx hb dL_law_39 (by decide) (by decide) (by decide) (by decide) ?_
    exact leaf_18 l hst hC hr hlocks hX hbl hL4 hE hT ⟨by omega, by omega⟩ ⟨by omega, by omega⟩ ⟨by omega, by omega⟩ H locs hG ls hl
  · refine lv_tableIn (off := 1063) (tgt := 1102) hx hb dL_law_39 (by decide) (by decide) (by decide) (by decide) ?_
    exact leaf_19 l hst hC hr hlocks hX hbl hL4 hE hT ⟨by omega, by omega⟩ ⟨by omega, by omega⟩ ⟨by omega, by omega⟩ H locs hG ls hl
  · refine lv_tableIn (off := 1131) (tgt := 1170) hx hb dL_law_39 (by decide) (by decide) (by decide) (by decide) ?_
    exact leaf_38 l hst hC hr hlocks hX hbl hL4 hE hT H locs hG ls hl
  · refine lv_tableIn (off := 1175) (tgt := 1214) hx hb dL_law_39 (by decide) (by decide) (by decide) (by decide) ?_
    exact leaf_20 l hst hC hr hlocks hX hbl hL4 hE hT ⟨by omega, by omega⟩ ⟨by omega, by omega⟩ ⟨by omega, by omega⟩ H locs hG ls hl
  · refine lv_tableIn (off := 1255) (tgt := 1294) hx hb dL_law_39 (by decide) (by decide) (by decide) (by decide) ?_
    exact leaf_21 l hst hC hr hlocks hX hbl hL4 hE hT ⟨by omega, by omega⟩ ⟨by omega, by omega⟩ ⟨by omega, by omega⟩ H locs hG ls hl
  · refine lv_tableIn (off := 1323) (tgt := 1362) hx hb dL_law_39 (by decide) (by decide) (by decide) (by decide) ?_
    exact leaf_22 l hst hC hr hlocks hX hbl hL4 hE hT ⟨by omega, by omega⟩ ⟨by omega, by omega⟩ ⟨by omega, by omega⟩ H locs hG ls hl
  · refine lv_tableIn (off := 1390) (tgt := 1429) hx hb dL_law_39 (by decide) (by decide) (by decide) (by decide) ?_
    exact leaf_23 l hst hC hr hlocks hX hbl hL4 hE hT ⟨by omega, by omega⟩ ⟨by omega, by omega⟩ ⟨by omega, by omega⟩ H locs hG ls hl
  · refine lv_tableIn (off := 1446) (tgt := 1485) hx hb dL_law_39 (by decide) (by decide) (by decide) (by decide) ?_
    rcases (show ((xs 1).toInt ≤ -1) ∨ (6 ≤ (xs 1).toInt) ∨ ((xs 1).toInt = 0) ∨ ((xs 1).toInt = 1) ∨ ((xs 1).toInt = 2) ∨ ((xs 1).toInt = 3) ∨ ((xs 1).toInt = 4) ∨ ((xs 1).toInt = 5) from by omega) with h9 | h9 | h9 | h9 | h9 | h9 | h9 | h9
    · exact leaf_39 l hst hC hr hlocks hX hbl hL4 hE hT ⟨by omega, by omega⟩ H locs hG ls hl
    · exact leaf_40 l hst hC hr hlocks hX hbl hL4 hE hT ⟨by omega, by omega⟩ H locs hG ls hl
    · exact leaf_41 l hst hC hr hlocks hX hbl hL4 hE hT (i_cases h9 0 (by decide)) H locs hG ls hl
    · exact leaf_42 l hst hC hr hlocks hX hbl hL4 hE hT (i_cases h9 1 (by decide)) H locs hG ls hl
    · exact leaf_43 l hst hC hr hlocks hX hbl hL4 hE hT (i_cases h9 2 (by decide)) H locs hG ls hl
    · exact leaf_44 l hst hC hr hlocks hX hbl hL4 hE hT (i_cases h9 3 (by decide)) H locs hG ls hl
    · exact leaf_45 l hst hC hr hlocks hX hbl hL4 hE hT (i_cases h9 4 (by decide)) H locs hG ls hl
    · exact leaf_46 l hst hC hr hlocks hX hbl hL4 hE hT (i_cases h9 5 (by decide)) H locs hG ls hl
  · refine lv_tableIn (off := 1502) (tgt := 1541) hx hb dL_law_39 (by decide) (by decide) (by decide) (by decide) ?_
    exact leaf_24 l hst hC hr hlocks hX hbl hL4 hE hT ⟨by omega, by omega⟩ ⟨by omega, by omega⟩ ⟨by omega, by omega⟩ H locs hG ls hl
  · refine lv_tableIn (off := 1569) (tgt := 1608) hx hb dL_law_39 (by decide) (by decide) (by decide) (by decide) ?_
    exact leaf_25 l hst hC hr hlocks hX hbl hL4 hE hT ⟨by omega, by omega⟩ ⟨by omega, by omega⟩ ⟨by omega, by omega⟩ H locs hG ls hl
  · refine lv_tableIn (off := 1636) (tgt := 1675) hx hb dL_law_39 (by decide) (by decide) (by decide) (by decide) ?_
    rcases (show ((xs 1).toInt ≤ -1) ∨ (5 ≤ (xs 1).toInt) ∨ (0 ≤ (xs 1).toInt ∧ (xs 1).toInt ≤ 4) from by omega) with h9 | h9 | h9
    · exact leaf_47 l hst hC hr hlocks hX hbl hL4 hE hT ⟨by omega, by omega⟩ H locs hG ls hl
    · exact leaf_48 l hst hC hr hlocks hX hbl hL4 hE hT ⟨by omega, by omega⟩ H locs hG ls hl
    · exact leaf_49 l hst hC hr hlocks hX hbl hL4 hE hT ⟨by omega, by omega⟩ H locs hG ls hl
  · refine lv_tableIn (off := 1691) (tgt := 1730) hx hb dL_law_39 (by decide) (by decide) (by decide) (by decide) ?_
    rcases (show ((xs 1).toInt ≤ -1) ∨ (365 ≤ (xs 1).toInt) ∨ (0 ≤ (xs 1).toInt ∧ (xs 1).toInt ≤ 364 ∧ (xs 2).toInt ≤ -1) ∨ (0 ≤ (xs 1).toInt ∧ (xs 1).toInt ≤ 364 ∧ 365 ≤ (xs 2).toInt) ∨ (0 ≤ (xs 1).toInt ∧ (xs 1).toInt ≤ 364 ∧ 0 ≤ (xs 2).toInt ∧ (xs 2).toInt ≤ 364) from by omega) with h9 | h9 | h9 | h9 | h9
    · exact leaf_50 l hst hC hr hlocks hX hbl hL4 hE hT ⟨by omega, by omega⟩ ⟨by omega, by omega⟩ H locs hG ls hl
    · exact leaf_51 l hst hC hr hlocks hX hbl hL4 hE hT ⟨by omega, by omega⟩ ⟨by omega, by omega⟩ H locs hG ls hl
    · exact leaf_52 l hst hC hr hlocks hX hbl hL4 hE hT ⟨by omega, by omega⟩ ⟨by omega, by omega⟩ H locs hG ls hl
    · exact leaf_53 l hst hC hr hlocks hX hbl hL4 hE hT ⟨by omega, by omega⟩ ⟨by omega, by omega⟩ H locs hG ls hl
    · exact leaf_54 l hst hC hr hlocks hX hbl hL4 hE hT ⟨by omega, by omega⟩ ⟨by omega, by omega⟩ H locs hG ls hl
  · refine lv_tableIn (off := 1758) (tgt := 1797) hx hb dL_law_39 (by decide) (by decide) (by decide) (by decide) ?_
    exact leaf_26 l hst hC hr hlocks hX hbl hL4 hE hT ⟨by omega, by omega⟩ ⟨by omega, by omega⟩ ⟨by omega, by omega⟩ H locs hG ls hl
  · refine lv_tableIn (off := 1825) (tgt := 1864) hx hb dL_law_39 (by decide) (by decide) (by decide) (by decide) ?_
    exact leaf_27 l hst hC hr hlocks hX hbl hL4 hE hT ⟨by omega, by omega⟩ ⟨by omega, by omega⟩ ⟨by omega, by omega⟩ H locs hG ls hl
  · refine lv_tableIn (off := 1893) (tgt := 1932) hx hb dL_law_39 (by decide) (by decide) (by decide) (by decide) ?_
    rcases (show ((xs 1).toInt ≤ -1) ∨ (365 ≤ (xs 1).toInt) ∨ (0 ≤ (xs 1).toInt ∧ (xs 1).toInt ≤ 364) from by omega) with h9 | h9 | h9
    · exact leaf_55 l hst hC hr hlocks hX hbl hL4 hE hT ⟨by omega, by omega⟩ H locs hG ls hl
    · exact leaf_56 l hst hC hr hlocks hX hbl hL4 hE hT ⟨by omega, by omega⟩ H locs hG ls hl
    · exact leaf_57 l hst hC hr hlocks hX hbl hL4 hE hT ⟨by omega, by omega⟩ H locs hG ls hl
  · refine lv_tableIn (off := 1948) (tgt := 1987) hx hb dL_law_39 (by decide) (by decide) (by decide) (by decide) ?_
    exact leaf_58 l hst hC hr hlocks hX hbl hL4 hE hT H locs hG ls hl
  · refine lv_tableIn (off := 1989) (tgt := 2028) hx hb dL_law_39 (by decide) (by decide) (by decide) (by decide) ?_
    exact leaf_59 l hst hC hr hlocks hX hbl hL4 hE hT H locs hG ls hl
  · refine lv_tableOut (tgt := 2042) hx hb dL_law_39 (by decide) (by decide) ?_
    exact leaf_60 l hst hC hr hlocks hX hbl hL4 hE hT H locs hG ls hl
