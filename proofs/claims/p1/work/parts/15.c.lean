theorem dX14_hadOn_0 : decode cX14_hadOn 0 = .ok (.aload_n 0, 1) := by decide +kernel
theorem dX14_hadOn_1 : decode cX14_hadOn 1 = .ok (.iload_n 1, 1) := by decide +kernel
theorem dX14_hadOn_2 : decode cX14_hadOn 2 = .ok (.invokevirtual 157, 3) := by decide +kernel
theorem dX14_hadOn_35 : decode cX14_hadOn 35 = .ok (.lconst 0, 1) := by decide +kernel
theorem dX14_hadOn_36 : decode cX14_hadOn 36 = .ok (.goto 19, 3) := by decide +kernel
theorem dX14_hadOn_5 : decode cX14_hadOn 5 = .ok (.ifCond .ne 30, 3) := by decide +kernel
theorem dX14_hadOn_55 : decode cX14_hadOn 55 = .ok (.lreturn, 1) := by decide +kernel
set_option maxHeartbeats 4000000 in
set_option maxRecDepth 100000 in
theorem z_120_hadOn (l : Launch) (hst : l.stackTraces = false) (D : va_G) (κ : K4) (E0 : Nat) (sz : Nat) (b : Nat → Nat) (x0 : Int32) (x1 : Int32) (k_x0 : -2147483648 ≤ x0.toInt ∧ x0.toInt ≤ 2147483647) (k_x1 : -2147483648 ≤ x1.toInt ∧ x1.toInt ≤ 2147483647) : NM l yX14_hadOn cX14_hadOn 3 (some .long) 3 65 0 0 E0 D κ (mw κ b E0 0) sz [.ref (b 0), .int x0, .int x1] (QL D κ (mw κ b E0 0) sz 0 (fun qs : W1 => mw κ b E0 1)) := by
  refine NM.of (by decide +kernel) (Nat.le_of_ble_eq_true rfl) ?_
  intro p e s m below meth c ls hC hr hk hin hsz hE hT H locs hG hl
  have hx := hC.1
  have hb := hC.2.1
  have hl : lv_has ls 3 [(0, .ref (b 0)), (1, .int x0), (2, .int x1)] := hl
  refine lv_aload_n hx hb dX14_hadOn_0 rfl (lv_at hl 0 rfl) ?_
  refine lv_iload_n hx hb dX14_hadOn_1 rfl (lv_at hl 1 rfl) ?_
  have cut2 : Cut (mw κ b E0 0) (mw κ b E0 0) ([]) := (Cut.all 9 rfl (by decide))
  refine zc_i hG cut2 (zr_V (k := 0) (ci := 9) (n := 1) (As := [.int x0]) (rest := []) hC hG hE hT cut2 (z_63_isNoAccount l hst D κ E0 H.size b x0 ⟨by omega, by omega⟩) rfl rfl w335 w5 w338 w336 w337 (by decide +kernel) ⟨Nat.le_of_ble_eq_true rfl, Nat.le_of_ble_eq_true rfl⟩ rfl hl.1 rfl (Nat.le_of_ble_eq_true rfl) dX14_hadOn_2 ⟨Nat.le_of_ble_eq_true rfl, Nat.le_of_ble_eq_true rfl⟩) (fun z1 H locs hG => ?_)
  have hG : BW D κ (mw κ b E0 1) _ s H locs := hG
  refine lv_if_ne (tgt := 35) hx hb dX14_hadOn_5 (by decide) (fun _ => ?_) (fun h5 => absurd h5 (by decide))
  refine lv_lconst (v := 0) hx hb dX14_hadOn_35 (by decide) ?_
  refine lv_goto (tgt := 55) hx hb dX14_hadOn_36 (by decide) ?_
  exact ze_l (qs := fun _ => 0) hC hG rfl rfl hr hk (Nat.le_of_ble_eq_true rfl) (Nat.le_of_ble_eq_true rfl) dX14_hadOn_55
theorem dX7_wouldMatch_0 : decode cX7_wouldMatch 0 = .ok (.aload_n 0, 1) := by decide +kernel
theorem dX7_wouldMatch_1 : decode cX7_wouldMatch 1 = .ok (.iload_n 1, 1) := by decide +kernel
theorem dX7_wouldMatch_2 : decode cX7_wouldMatch 2 = .ok (.invokevirtual 102, 3) := by decide +kernel
set_option maxHeartbeats 4000000 in
set_option maxRecDepth 100000 in
theorem z_121_wouldMatch (l : Launch) (hst : l.stackTraces = false) (D : va_G) (κ : K4) (E0 : Nat) (sz : Nat) (a : Nat → Nat) (x0 : Int32) (x1 : Int32) (k_x0 : -2147483648 ≤ x0.toInt ∧ x0.toInt ≤ 2147483647) (k_x1 : -2147483648 ≤ x1.toInt ∧ x1.toInt ≤ 2147483647) : XM l yX7_wouldMatch cX7_wouldMatch 3 (some .int) 7 103 1 6 E0 D κ (xw κ a) sz [.ref (a 0), .int x0, .int x1] "java/lang/IndexOutOfBoundsException" (NI (xw κ a) sz) := by
  refine XM.of (by decide +kernel) (Nat.le_of_ble_eq_true rfl) ?_
  intro p e s m below meth c ls hC hk hno hsz hE hT H locs hG hl
  have hx := hC.1
  have hb := hC.2.1
  have hl : lv_has ls 3 [(0, .ref (a 0)), (1, .int x0), (2, .int x1)] := hl
  refine lv_aload_n hx hb dX7_wouldMatch_0 rfl (lv_at hl 0 rfl) ?_
  refine lv_iload_n hx hb dX7_wouldMatch_1 rfl (lv_at hl 1 rfl) ?_
  have cut2 : Cut (xw κ a) (xw κ a) ([]) := (Cut.all 45 rfl (by decide))
  refine zt_v hG cut2 (zx_V (k := 0) (ci := 7) (n := 1) (As := [.int x0]) (rest := []) hC hG hE hT cut2 (z_58_needAccount l hst D κ E0 H.size a x0 ⟨by omega, by omega⟩) rfl rfl w293 w2 w296 w294 w295 (by decide +kernel) ⟨Nat.le_of_ble_eq_true rfl, Nat.le_of_ble_eq_true rfl⟩ rfl hl.1 rfl (Nat.le_of_ble_eq_true rfl) dX7_wouldMatch_2 ⟨Nat.le_of_ble_eq_true rfl, Nat.le_of_ble_eq_true rfl⟩) (fun ce q9 H locs hG hz1 hz2 hz3 => ?_)
  exact zt_out hno hk hG hz1 hz2 hz3 (Nat.le_of_ble_eq_true rfl) (Nat.le_of_ble_eq_true rfl)
theorem dL_wouldMatch_0 : decode cL_wouldMatch 0 = .ok (.aload_n 3, 1) := by decide +kernel
theorem dL_wouldMatch_1 : decode cL_wouldMatch 1 = .ok (.iconst 0, 1) := by decide +kernel
theorem dL_wouldMatch_13 : decode cL_wouldMatch 13 = .ok (.astore 4, 2) := by decide +kernel
theorem dL_wouldMatch_15 : decode cL_wouldMatch 15 = .ok (.iconst 1, 1) := by decide +kernel
theorem dL_wouldMatch_16 : decode cL_wouldMatch 16 = .ok (.ireturn, 1) := by decide +kernel
theorem dL_wouldMatch_2 : decode cL_wouldMatch 2 = .ok (.aload_n 0, 1) := by decide +kernel
theorem dL_wouldMatch_3 : decode cL_wouldMatch 3 = .ok (.iload_n 1, 1) := by decide +kernel
theorem dL_wouldMatch_4 : decode cL_wouldMatch 4 = .ok (.iload_n 2, 1) := by decide +kernel
theorem dL_wouldMatch_5 : decode cL_wouldMatch 5 = .ok (.invokevirtual 100, 3) := by decide +kernel
set_option maxHeartbeats 4000000 in
set_option maxRecDepth 100000 in
theorem z_122_wouldMatch (l : Launch) (hst : l.stackTraces = false) (D : va_G) (κ : K4) (E0 : Nat) (sz : Nat) (a : Nat → Nat) (x0 : Int32) (x1 : Int32) (o : Nat) (k_x0 : -2147483648 ≤ x0.toInt ∧ x0.toInt ≤ 2147483647) (k_x1 : -2147483648 ≤ x1.toInt ∧ x1.toInt ≤ 2147483647) : NH l yL_wouldMatch cL_wouldMatch 5 (some .int) [(0, 10, 13, 24), (0, 10, 17, 13)] 8 125 1 6 E0 D κ (xw κ a ++ [(o, .inl (κ.2.1, 1, .inr (.inl (fun _ => 0))))]) sz [.ref (a 0), .int x0, .int x1, .ref o] (QI D κ (xw κ a ++ [(o, .inl (κ.2.1, 1, .inr (.inl (fun _ => 0))))]) sz 1 (fun qs : W1 => [(o, .inl (κ.2.1, 1, .inr (.inl (fun _ => 0))))])) := by
  refine NH.of (by decide +kernel) (Nat.le_of_ble_eq_true rfl) ?_
  intro p e s m below meth c ls hC hr hk htab hsz hE hT H locs hG hl
  have hx := hC.1
  have hb := hC.2.1
  have hl : lv_has ls 5 [(0, .ref (a 0)), (1, .int x0), (2, .int x1), (3, .ref o)] := hl
  refine lv_aload_n hx hb dL_wouldMatch_0 rfl (lv_at hl 3 rfl) ?_
  refine lv_iconst (v := 0) hx hb dL_wouldMatch_1 (by decide) ?_
  refine lv_aload_n hx hb dL_wouldMatch_2 rfl (lv_at hl 0 rfl) ?_
  refine lv_iload_n hx hb dL_wouldMatch_3 rfl (lv_at hl 1 rfl) ?_
  refine lv_iload_n hx hb dL_wouldMatch_4 rfl (lv_at hl 2 rfl) ?_
  have cut5 : Cut (xw κ a ++ [(o, .inl (κ.2.1, 1, .inr (.inl (fun _ => 0))))]) (xw κ a) ([(o, .inl (κ.2.1, 1, .inr (.inl (fun _ => 0))))]) := (Cut.one 45 rfl (by decide))
  refine zt_i hG cut5 (zx_V (k := 0) (ci := 7) (n := 2) (As := [.int x0, .int x1]) (rest := [.int 0, .ref o]) hC hG hE hT cut5 (z_121_wouldMatch l hst D κ E0 H.size a x0 x1 ⟨by omega, by omega⟩ ⟨by omega, by omega⟩) rfl rfl w1159 w2 w1162 w1160 w1161 (by decide +kernel) ⟨Nat.le_of_ble_eq_true rfl, Nat.le_of_ble_eq_true rfl⟩ rfl hl.1 rfl (Nat.le_of_ble_eq_true rfl) dL_wouldMatch_5 ⟨Nat.le_of_ble_eq_true rfl, Nat.le_of_ble_eq_true rfl⟩) (fun ce q9 H locs hG hz1 hz2 hz3 => ?_)
  refine vx_catch (own := RL) (name := "java/lang/IndexOutOfBoundsException") (E := "java/lang/IndexOutOfBoundsException") hC.2.2.2.1 [] ⟨0, 10, 13, 24⟩ [⟨0, 10, 17, 13⟩] htab (fun z hz => by simp at hz) (by decide) (by decide) (hC.2.2.2.2 _ w285) (va_Nw.use rfl (hT.1 ("java/lang/IndexOutOfBoundsException", "java/lang/IndexOutOfBoundsException") (by decide))) hz1 hz2 hz3 ?_
  refine lv_astore (lv' := [(4, .ref q9), (0, .ref (a 0)), (1, .int x0), (2, .int x1), (3, .ref o)]) hx hb dL_wouldMatch_13 hl (by decide) rfl (fun ls hl => ?_)
  refine lv_iconst (v := 1) hx hb dL_wouldMatch_15 (by decide) ?_
  exact ze_i (qs := fun _ => 0) hC hG rfl rfl hr rfl hk (Nat.le_of_ble_eq_true rfl) (Nat.le_of_ble_eq_true rfl) dL_wouldMatch_16
theorem dX14_wouldMatch_0 : decode cX14_wouldMatch 0 = .ok (.aload_n 0, 1) := by decide +kernel
theorem dX14_wouldMatch_1 : decode cX14_wouldMatch 1 = .ok (.iload_n 1, 1) := by decide +kernel
theorem dX14_wouldMatch_2 : decode cX14_wouldMatch 2 = .ok (.invokevirtual 157, 3) := by decide +kernel
theorem dX14_wouldMatch_31 : decode cX14_wouldMatch 31 = .ok (.iconst 0, 1) := by decide +kernel
theorem dX14_wouldMatch_32 : decode cX14_wouldMatch 32 = .ok (.goto 19, 3) := by decide +kernel
theorem dX14_wouldMatch_5 : decode cX14_wouldMatch 5 = .ok (.ifCond .ne 26, 3) := by decide +kernel
theorem dX14_wouldMatch_51 : decode cX14_wouldMatch 51 = .ok (.ireturn, 1) := by decide +kernel
set_option maxHeartbeats 4000000 in
set_option maxRecDepth 100000 in
theorem z_123_wouldMatch (l : Launch) (hst : l.stackTraces = false) (D : va_G) (κ : K4) (E0 : Nat) (sz : Nat) (b : Nat → Nat) (x0 : Int32) (x1 : Int32) (k_x0 : -2147483648 ≤ x0.toInt ∧ x0.toInt ≤ 2147483647) (k_x1 : -2147483648 ≤ x1.toInt ∧ x1.toInt ≤ 2147483647) : NM l yX14_wouldMatch cX14_wouldMatch 3 (some .int) 3 65 0 0 E0 D κ (mw κ b E0 0) sz [.ref (b 0), .int x0, .int x1] (QI D κ (mw κ b E0 0) sz 0 (fun qs : W1 => mw κ b E0 1)) := by
  refine NM.of (by decide +kernel) (Nat.le_of_ble_eq_true rfl) ?_
  intro p e s m below meth c ls hC hr hk hin hsz hE hT H locs hG hl
  have hx := hC.1
  have hb := hC.2.1
  have hl : lv_has ls 3 [(0, .ref (b 0)), (1, .int x0), (2, .int x1)] := hl
  refine lv_aload_n hx hb dX14_wouldMatch_0 rfl (lv_at hl 0 rfl) ?_
  refine lv_iload_n hx hb dX14_wouldMatch_1 rfl (lv_at hl 1 rfl) ?_
  have cut2 : Cut (mw κ b E0 0) (mw κ b E0 0) ([]) := (Cut.all 9 rfl (by decide))
  refine zc_i hG cut2 (zr_V (k := 0) (ci := 9) (n := 1) (As := [.int x0]) (rest := []) hC hG hE hT cut2 (z_63_isNoAccount l hst D κ E0 H.size b x0 ⟨by omega, by omega⟩) rfl rfl w335 w5 w338 w336 w337 (by decide +kernel) ⟨Nat.le_of_ble_eq_true rfl, Nat.le_of_ble_eq_true rfl⟩ rfl hl.1 rfl (Nat.le_of_ble_eq_true rfl) dX14_wouldMatch_2 ⟨Nat.le_of_ble_eq_true rfl, Nat.le_of_ble_eq_true rfl⟩) (fun z1 H locs hG => ?_)
  have hG : BW D κ (mw κ b E0 1) _ s H locs := hG
  refine lv_if_ne (tgt := 31) hx hb dX14_wouldMatch_5 (by decide) (fun _ => ?_) (fun h5 => absurd h5 (by decide))
  refine lv_iconst (v := 0) hx hb dX14_wouldMatch_31 (by decide) ?_
  refine lv_goto (tgt := 51) hx hb dX14_wouldMatch_32 (by decide) ?_
  exact ze_i (qs := fun _ => 0) hC hG rfl rfl hr rfl hk (Nat.le_of_ble_eq_true rfl) (Nat.le_of_ble_eq_true rfl) dX14_wouldMatch_51
theorem dX7_pass_0 : decode cX7_pass 0 = .ok (.iload_n 1, 1) := by decide +kernel
theorem dX7_pass_1 : decode cX7_pass 1 = .ok (.ifCond .lt 15, 3) := by decide +kernel
theorem dX7_pass_16 : decode cX7_pass 16 = .ok (.new 71, 3) := by decide +kernel
theorem dX7_pass_19 : decode cX7_pass 19 = .ok (.dup, 1) := by decide +kernel
theorem dX7_pass_20 : decode cX7_pass 20 = .ok (.ldc 131, 2) := by decide +kernel
theorem dX7_pass_22 : decode cX7_pass 22 = .ok (.invokespecial 75, 3) := by decide +kernel
theorem dX7_pass_25 : decode cX7_pass 25 = .ok (.athrow, 1) := by decide +kernel
set_option maxHeartbeats 4000000 in
set_option maxRecDepth 100000 in
theorem z_124_pass (l : Launch) (hst : l.stackTraces = false) (D : va_G) (κ : K4) (E0 : Nat) (sz : Nat) (a : Nat → Nat) (x0 : Int32) (k_x0 : -2147483648 ≤ x0.toInt ∧ x0.toInt ≤ -1) : XM l yX7_pass cX7_pass 2 (some .int) 6 82 1 6 E0 D κ (xw κ a) sz [.ref (a 0), .int x0] "java/lang/IllegalArgumentException" (NI (xw κ a) sz) := by
  refine XM.of (by decide +kernel) (Nat.le_of_ble_eq_true rfl) ?_
  intro p e s m below meth c ls hC hk hno hsz hE hT H locs hG hl
  have hx := hC.1
  have hb := hC.2.1
  have hl : lv_has ls 2 [(0, .ref (a 0)), (1, .int x0)] := hl
  refine lv_iload_n hx hb dX7_pass_0 rfl (lv_at hl 1 rfl) ?_
  refine lv_if_lt (tgt := 16) hx hb dX7_pass_1 (by decide) (fun _ => ?_) (fun h1 => absurd (Int32.lt_iff_toInt_lt.mpr (by have e1 : (0 : Int32).toInt = 0 := (by decide); omega)) h1)
  exact th_IA hC hst hE hT hno hk hG hl.1 (List.mem_of_getElem? (i := 8) rfl) w150 w151 dX7_pass_16 dX7_pass_19 dX7_pass_20 dX7_pass_22 dX7_pass_25 (Nat.le_of_ble_eq_true rfl) (Nat.le_of_ble_eq_true rfl) (Nat.le_of_ble_eq_true rfl) (Nat.le_of_ble_eq_true rfl) (Nat.le_of_ble_eq_true rfl) (Nat.le_of_ble_eq_true rfl)
theorem dL_pass_0 : decode cL_pass 0 = .ok (.aload_n 2, 1) := by decide +kernel
theorem dL_pass_1 : decode cL_pass 1 = .ok (.iconst 0, 1) := by decide +kernel
theorem dL_pass_12 : decode cL_pass 12 = .ok (.astore_n 3, 1) := by decide +kernel
theorem dL_pass_13 : decode cL_pass 13 = .ok (.iconst 1, 1) := by decide +kernel
theorem dL_pass_14 : decode cL_pass 14 = .ok (.ireturn, 1) := by decide +kernel
theorem dL_pass_2 : decode cL_pass 2 = .ok (.aload_n 0, 1) := by decide +kernel
theorem dL_pass_3 : decode cL_pass 3 = .ok (.iload_n 1, 1) := by decide +kernel
theorem dL_pass_4 : decode cL_pass 4 = .ok (.invokevirtual 30, 3) := by decide +kernel
set_option maxHeartbeats 4000000 in
set_option maxRecDepth 100000 in
theorem z_125_pass (l : Launch) (hst : l.stackTraces = false) (D : va_G) (κ : K4) (E0 : Nat) (sz : Nat) (a : Nat → Nat) (x0 : Int32) (o : Nat) (k_x0 : -2147483648 ≤ x0.toInt ∧ x0.toInt ≤ -1) : NH l yL_pass cL_pass 4 (some .int) [(0, 9, 12, 13)] 7 103 1 6 E0 D κ (xw κ a ++ [(o, .inl (κ.2.1, 1, .inr (.inl (fun _ => 0))))]) sz [.ref (a 0), .int x0, .ref o] (QI D κ (xw κ a ++ [(o, .inl (κ.2.1, 1, .inr (.inl (fun _ => 0))))]) sz 1 (fun qs : W1 => [(o, .inl (κ.2.1, 1, .inr (.inl (fun _ => 0))))])) := by
  refine NH.of (by decide +kernel) (Nat.le_of_ble_eq_true rfl) ?_
  intro p e s m below meth c ls hC hr hk htab hsz hE hT H locs hG hl
  have hx := hC.1
  have hb := hC.2.1
  have hl : lv_has ls 4 [(0, .ref (a 0)), (1, .int x0), (2, .ref o)] := hl
  refine lv_aload_n hx hb dL_pass_0 rfl (lv_at hl 2 rfl) ?_
  refine lv_iconst (v := 0) hx hb dL_pass_1 (by decide) ?_
  refine lv_aload_n hx hb dL_pass_2 rfl (lv_at hl 0 rfl) ?_
  refine lv_iload_n hx hb dL_pass_3 rfl (lv_at hl 1 rfl) ?_
  have cut4 : Cut (xw κ a ++ [(o, .inl (κ.2.1, 1, .inr (.inl (fun _ => 0))))]) (xw κ a) ([(o, .inl (κ.2.1, 1, .inr (.inl (fun _ => 0))))]) := (Cut.one 45 rfl (by decide))
  refine zt_i hG cut4 (zx_V (k := 0) (ci := 7) (n := 1) (As := [.int x0]) (rest := [.int 0, .ref o]) hC hG hE hT cut4 (z_124_pass l hst D κ E0 H.size a x0 ⟨by omega, by omega⟩) rfl rfl w396 w2 w399 w397 w398 (by decide +kernel) ⟨Nat.le_of_ble_eq_true rfl, Nat.le_of_ble_eq_true rfl⟩ rfl hl.1 rfl (Nat.le_of_ble_eq_true rfl) dL_pass_4 ⟨Nat.le_of_ble_eq_true rfl, Nat.le_of_ble_eq_true rfl⟩) (fun ce q9 H locs hG hz1 hz2 hz3 => ?_)
  refine vx_catch (own := RL) (name := "java/lang/IllegalArgumentException") (E := "java/lang/IllegalArgumentException") hC.2.2.2.1 [] ⟨0, 9, 12, 13⟩ [] htab (fun z hz => by simp at hz) (by decide) (by decide) (hC.2.2.2.2 _ w145) (va_Nw.use rfl (hT.1 ("java/lang/IllegalArgumentException", "java/lang/IllegalArgumentException") (by decide))) hz1 hz2 hz3 ?_
  refine lv_astore_n (lv' := [(3, .ref q9), (0, .ref (a 0)), (1, .int x0), (2, .ref o)]) hx hb dL_pass_12 rfl hl (by decide) rfl (fun ls hl => ?_)
  refine lv_iconst (v := 1) hx hb dL_pass_13 (by decide) ?_
  exact ze_i (qs := fun _ => 0) hC hG rfl rfl hr rfl hk (Nat.le_of_ble_eq_true rfl) (Nat.le_of_ble_eq_true rfl) dL_pass_14
set_option maxHeartbeats 4000000 in
set_option maxRecDepth 100000 in
theorem z_126_isIn (l : Launch) (hst : l.stackTraces = false) (D : va_G) (κ : K4) (E0 : Nat) (sz : Nat) (b : Nat → Nat) (x0 : Int32) (k_x0 : -2147483648 ≤ x0.toInt ∧ x0.toInt ≤ -1) : NM l yX14_isIn cX14_isIn 3 (some .boolean) 0 0 0 0 E0 D κ (mw κ b E0 0) sz [.int x0, .int 0, .int 364] (QI D κ (mw κ b E0 0) sz 0 (fun qs : W1 => mw κ b E0 0)) := by
  refine NM.of (by decide +kernel) (Nat.le_of_ble_eq_true rfl) ?_
  intro p e s m below meth c ls hC hr hk hin hsz hE hT H locs hG hl
  have hx := hC.1
  have hb := hC.2.1
  have hl : lv_has ls 3 [(0, .int x0), (1, .int 0), (2, .int 364)] := hl
  refine lv_iload_n hx hb dX14_isIn_0 rfl (lv_at hl 0 rfl) ?_
  refine lv_iload_n hx hb dX14_isIn_1 rfl (lv_at hl 1 rfl) ?_
  refine lv_icmp_lt (tgt := 14) hx hb dX14_isIn_2 (by decide) (fun _ => ?_) (fun h2 => absurd (Int32.lt_iff_toInt_lt.mpr (by have e1 : (0 : Int32).toInt = 0 := (by decide); omega)) h2)
  refine lv_iconst (v := 0) hx hb dX14_isIn_14 (by decide) ?_
  exact ze_i (qs := fun _ => 0) hC hG rfl rfl hr rfl hk (Nat.le_of_ble_eq_true rfl) (Nat.le_of_ble_eq_true rfl) dX14_isIn_15
theorem dX14_pass_0 : decode cX14_pass 0 = .ok (.aload_n 0, 1) := by decide +kernel
theorem dX14_pass_1 : decode cX14_pass 1 = .ok (.iload_n 1, 1) := by decide +kernel
theorem dX14_pass_10 : decode cX14_pass 10 = .ok (.isub, 1) := by decide +kernel
theorem dX14_pass_11 : decode cX14_pass 11 = .ok (.invokestatic 53, 3) := by decide +kernel
theorem dX14_pass_14 : decode cX14_pass 14 = .ok (.ifCond .ne 7, 3) := by decide +kernel
theorem dX14_pass_17 : decode cX14_pass 17 = .ok (.iconst 1, 1) := by decide +kernel
theorem dX14_pass_18 : decode cX14_pass 18 = .ok (.goto 4, 3) := by decide +kernel
theorem dX14_pass_2 : decode cX14_pass 2 = .ok (.iconst 0, 1) := by decide +kernel
theorem dX14_pass_22 : decode cX14_pass 22 = .ok (.iconst 1, 1) := by decide +kernel
theorem dX14_pass_23 : decode cX14_pass 23 = .ok (.invokevirtual 61, 3) := by decide +kernel
theorem dX14_pass_26 : decode cX14_pass 26 = .ok (.ifCond .eq 5, 3) := by decide +kernel
theorem dX14_pass_29 : decode cX14_pass 29 = .ok (.iconst 0, 1) := by decide +kernel
theorem dX14_pass_3 : decode cX14_pass 3 = .ok (.sipush 364, 3) := by decide +kernel
theorem dX14_pass_30 : decode cX14_pass 30 = .ok (.ireturn, 1) := by decide +kernel
theorem dX14_pass_6 : decode cX14_pass 6 = .ok (.aload_n 0, 1) := by decide +kernel
theorem dX14_pass_7 : decode cX14_pass 7 = .ok (.getfield 143, 3) := by decide +kernel
set_option maxHeartbeats 4000000 in
set_option maxRecDepth 100000 in
theorem z_127_pass (l : Launch) (hst : l.stackTraces = false) (D : va_G) (κ : K4) (E0 : Nat) (sz : Nat) (b : Nat → Nat) (x0 : Int32) (k_x0 : -2147483648 ≤ x0.toInt ∧ x0.toInt ≤ -1) : NM l yX14_pass cX14_pass 2 (some .int) 2 44 0 0 E0 D κ (mw κ b E0 0) sz [.ref (b 0), .int x0] (QI D κ (mw κ b E0 0) sz 0 (fun qs : W1 => mw κ b E0 1)) := by
  refine NM.of (by decide +kernel) (Nat.le_of_ble_eq_true rfl) ?_
  intro p e s m below meth c ls hC hr hk hin hsz hE hT H locs hG hl
  have hx := hC.1
  have hb := hC.2.1
  have hl : lv_has ls 2 [(0, .ref (b 0)), (1, .int x0)] := hl
  refine lv_aload_n hx hb dX14_pass_0 rfl (lv_at hl 0 rfl) ?_
  refine lv_iload_n hx hb dX14_pass_1 rfl (lv_at hl 1 rfl) ?_
  refine lv_iconst (v := 0) hx hb dX14_pass_2 (by decide) ?_
  refine lv_sipush (v := 364) hx hb dX14_pass_3 (by decide) ?_
  refine lv_aload_n hx hb dX14_pass_6 rfl (lv_at hl 0 rfl) ?_
  refine bw_get (C := RX14) (T := TX14) (N := 15) (ci := 9) (v := .int 0) 9 (by decide) 0 hC hG iwX14 rfl rfl w332 rfl rfl dX14_pass_7 ?_
  refine lv_isub hx hb dX14_pass_10 ?_
  refine W.eq (g2 := F0 m 11 ls [.int 364, .int 0, .int x0, .ref (b 0)]) rfl ?_
  have cut11 : Cut (mw κ b E0 0) (mw κ b E0 0) ([]) := (Cut.all 9 rfl (by decide))
  refine zc_i hG cut11 (zr_S (n := 3) (As := [.int x0, .int 0, .int 364]) (rest := [.ref (b 0)]) hC hG hE hT cut11 (z_126_isIn l hst D κ E0 H.size b x0 ⟨by omega, by omega⟩) w167 w5 w169 w168 (by decide +kernel) ⟨Nat.le_of_ble_eq_true rfl, Nat.le_of_ble_eq_true rfl⟩ rfl hl.1 rfl (Nat.le_of_ble_eq_true rfl) dX14_pass_11 ⟨Nat.le_of_ble_eq_true rfl, Nat.le_of_ble_eq_true rfl⟩) (fun z1 H locs hG => ?_)
  have hG : BW D κ (mw κ b E0 0) _ s H locs := hG
  refine lv_if_ne (tgt := 21) hx hb dX14_pass_14 (by decide) (fun h14 => absurd (by decide) h14) (fun _ => ?_)
  refine lv_iconst (v := 1) hx hb dX14_pass_17 (by decide) ?_
  refine lv_goto (tgt := 22) hx hb dX14_pass_18 (by decide) ?_
  refine lv_iconst (v := 1) hx hb dX14_pass_22 (by decide) ?_
  have cut23 : Cut (mw κ b E0 0) (mw κ b E0 0) ([]) := (Cut.all 9 rfl (by decide))
  refine zc_i hG cut23 (zr_V (k := 0) (ci := 9) (n := 2) (As := [.int 1, .int 1]) (rest := []) hC hG hE hT cut23 (z_4_start l hst D κ E0 H.size b) rfl rfl w170 w5 w173 w171 w172 (by decide +kernel) ⟨Nat.le_of_ble_eq_true rfl, Nat.le_of_ble_eq_true rfl⟩ rfl hl.1 rfl (Nat.le_of_ble_eq_true rfl) dX14_pass_23 ⟨Nat.le_of_ble_eq_true rfl, Nat.le_of_ble_eq_true rfl⟩) (fun z2 H locs hG => ?_)
  have hG : BW D κ (mw κ b E0 1) _ s H locs := hG
  refine lv_if_eq (tgt := 31) hx hb dX14_pass_26 (by decide) (fun h26 => absurd h26 (by decide)) (fun _ => ?_)
  refine lv_iconst (v := 0) hx hb dX14_pass_29 (by decide) ?_
  exact ze_i (qs := fun _ => 0) hC hG rfl rfl hr rfl hk (Nat.le_of_ble_eq_true rfl) (Nat.le_of_ble_eq_true rfl) dX14_pass_30
theorem dX7_pass_12 : decode cX7_pass 12 = .ok (.isub, 1) := by decide +kernel
theorem dX7_pass_13 : decode cX7_pass 13 = .ok (.if_icmp .le 13, 3) := by decide +kernel
theorem dX7_pass_4 : decode cX7_pass 4 = .ok (.iload_n 1, 1) := by decide +kernel
theorem dX7_pass_5 : decode cX7_pass 5 = .ok (.sipush 364, 3) := by decide +kernel
theorem dX7_pass_8 : decode cX7_pass 8 = .ok (.aload_n 0, 1) := by decide +kernel
theorem dX7_pass_9 : decode cX7_pass 9 = .ok (.getfield 67, 3) := by decide +kernel
set_option maxHeartbeats 4000000 in
set_option maxRecDepth 100000 in
theorem z_128_pass (l : Launch) (hst : l.stackTraces = false) (D : va_G) (κ : K4) (E0 : Nat) (sz : Nat) (a : Nat → Nat) (x0 : Int32) (k_x0 : 365 ≤ x0.toInt ∧ x0.toInt ≤ 2147483647) : XM l yX7_pass cX7_pass 2 (some .int) 6 82 1 6 E0 D κ (xw κ a) sz [.ref (a 0), .int x0] "java/lang/IllegalArgumentException" (NI (xw κ a) sz) := by
  refine XM.of (by decide +kernel) (Nat.le_of_ble_eq_true rfl) ?_
  intro p e s m below meth c ls hC hk hno hsz hE hT H locs hG hl
  have hx := hC.1
  have hb := hC.2.1
  have hl : lv_has ls 2 [(0, .ref (a 0)), (1, .int x0)] := hl
  refine lv_iload_n hx hb dX7_pass_0 rfl (lv_at hl 1 rfl) ?_
  refine lv_if_lt (tgt := 16) hx hb dX7_pass_1 (by decide) (fun h1 => absurd h1 (mt Int32.lt_iff_toInt_lt.mp (by have e1 : (0 : Int32).toInt = 0 := (by decide); omega))) (fun _ => ?_)
  refine lv_iload_n hx hb dX7_pass_4 rfl (lv_at hl 1 rfl) ?_
  refine lv_sipush (v := 364) hx hb dX7_pass_5 (by decide) ?_
  refine lv_aload_n hx hb dX7_pass_8 rfl (lv_at hl 0 rfl) ?_
  refine bw_get (C := RX7) (T := TX7) (N := 10) (ci := 7) (v := .int 0) 9 (by decide) 0 hC hG iwX7 (xw_0 κ a) rfl w43 rfl rfl dX7_pass_9 ?_
  refine lv_isub hx hb dX7_pass_12 ?_
  refine W.eq (g2 := F0 m 13 ls [.int 364, .int x0]) rfl ?_
  refine lv_icmp_le (tgt := 26) hx hb dX7_pass_13 (by decide) (fun h13 => absurd h13 (mt Int32.le_iff_toInt_le.mp (by have e0 : (364 : Int32).toInt = 364 := (by decide); omega))) (fun _ => ?_)
  exact th_IA hC hst hE hT hno hk hG hl.1 (List.mem_of_getElem? (i := 8) rfl) w150 w151 dX7_pass_16 dX7_pass_19 dX7_pass_20 dX7_pass_22 dX7_pass_25 (Nat.le_of_ble_eq_true rfl) (Nat.le_of_ble_eq_true rfl) (Nat.le_of_ble_eq_true rfl) (Nat.le_of_ble_eq_true rfl) (Nat.le_of_ble_eq_true rfl) (Nat.le_of_ble_eq_true rfl)
set_option maxHeartbeats 4000000 in
set_option maxRecDepth 100000 in
theorem z_129_pass (l : Launch) (hst : l.stackTraces = false) (D : va_G) (κ : K4) (E0 : Nat) (sz : Nat) (a : Nat → Nat) (x0 : Int32) (o : Nat) (k_x0 : 365 ≤ x0.toInt ∧ x0.toInt ≤ 2147483647) : NH l yL_pass cL_pass 4 (some .int) [(0, 9, 12, 13)] 7 103 1 6 E0 D κ (xw κ a ++ [(o, .inl (κ.2.1, 1, .inr (.inl (fun _ => 0))))]) sz [.ref (a 0), .int x0, .ref o] (QI D κ (xw κ a ++ [(o, .inl (κ.2.1, 1, .inr (.inl (fun _ => 0))))]) sz 1 (fun qs : W1 => [(o, .inl (κ.2.1, 1, .inr (.inl (fun _ => 0))))])) := by
  refine NH.of (by decide +kernel) (Nat.le_of_ble_eq_true rfl) ?_
  intro p e s m below meth c ls hC hr hk htab hsz hE hT H locs hG hl
  have hx := hC.1
  have hb := hC.2.1
  have hl : lv_has ls 4 [(0, .ref (a 0)), (1, .int x0), (2, .ref o)] := hl
  refine lv_aload_n hx hb dL_pass_0 rfl (lv_at hl 2 rfl) ?_
  refine lv_iconst (v := 0) hx hb dL_pass_1 (by decide) ?_
  refine lv_aload_n hx hb dL_pass_2 rfl (lv_at hl 0 rfl) ?_
  refine lv_iload_n hx hb dL_pass_3 rfl (lv_at hl 1 rfl) ?_
  have cut4 : Cut (xw κ a ++ [(o, .inl (κ.2.1, 1, .inr (.inl (fun _ => 0))))]) (xw κ a) ([(o, .inl (κ.2.1, 1, .inr (.inl (fun _ => 0))))]) := (Cut.one 45 rfl (by decide))
  refine zt_i hG cut4 (zx_V (k := 0) (ci := 7) (n := 1) (As := [.int x0]) (rest := [.int 0, .ref o]) hC hG hE hT cut4 (z_128_pass l hst D κ E0 H.size a x0 ⟨by omega, by omega⟩) rfl rfl w396 w2 w399 w397 w398 (by decide +kernel) ⟨Nat.le_of_ble_eq_true rfl, Nat.le_of_ble_eq_true rfl⟩ rfl hl.1 rfl (Nat.le_of_ble_eq_true rfl) dL_pass_4 ⟨Nat.le_of_ble_eq_true rfl, Nat.le_of_ble_eq_true rfl⟩) (fun ce q9 H locs hG hz1 hz2 hz3 => ?_)
  refine vx_catch (own := RL) (name := "java/lang/IllegalArgumentException") (E := "java/lang/IllegalArgumentException") hC.2.2.2.1 [] ⟨0, 9, 12, 13⟩ [] htab (fun z hz => by simp at hz) (by decide) (by decide) (hC.2.2.2.2 _ w145) (va_Nw.use rfl (hT.1 ("java/lang/IllegalArgumentException", "java/lang/IllegalArgumentException") (by decide))) hz1 hz2 hz3 ?_
  refine lv_astore_n (lv' := [(3, .ref q9), (0, .ref (a 0)), (1, .int x0), (2, .ref o)]) hx hb dL_pass_12 rfl hl (by decide) rfl (fun ls hl => ?_)
  refine lv_iconst (v := 1) hx hb dL_pass_13 (by decide) ?_
  exact ze_i (qs := fun _ => 0) hC hG rfl rfl hr rfl hk (Nat.le_of_ble_eq_true rfl) (Nat.le_of_ble_eq_true rfl) dL_pass_14
set_option maxHeartbeats 4000000 in
set_option maxRecDepth 100000 in
theorem z_130_isIn (l : Launch) (hst : l.stackTraces = false) (D : va_G) (κ : K4) (E0 : Nat) (sz : Nat) (b : Nat → Nat) (x0 : Int32) (k_x0 : 365 ≤ x0.toInt ∧ x0.toInt ≤ 2147483647) : NM l yX14_isIn cX14_isIn 3 (some .boolean) 0 0 0 0 E0 D κ (mw κ b E0 0) sz [.int x0, .int 0, .int 364] (QI D κ (mw κ b E0 0) sz 0 (fun qs : W1 => mw κ b E0 0)) := by
  refine NM.of (by decide +kernel) (Nat.le_of_ble_eq_true rfl) ?_
  intro p e s m below meth c ls hC hr hk hin hsz hE hT H locs hG hl
  have hx := hC.1
  have hb := hC.2.1
  have hl : lv_has ls 3 [(0, .int x0), (1, .int 0), (2, .int 364)] := hl
  refine lv_iload_n hx hb dX14_isIn_0 rfl (lv_at hl 0 rfl) ?_
  refine lv_iload_n hx hb dX14_isIn_1 rfl (lv_at hl 1 rfl) ?_
  refine lv_icmp_lt (tgt := 14) hx hb dX14_isIn_2 (by decide) (fun h2 => absurd h2 (mt Int32.lt_iff_toInt_lt.mp (by have e1 : (0 : Int32).toInt = 0 := (by decide); omega))) (fun _ => ?_)
  refine lv_iload_n hx hb dX14_isIn_5 rfl (lv_at hl 0 rfl) ?_
  refine lv_iload_n hx hb dX14_isIn_6 rfl (lv_at hl 2 rfl) ?_
  refine lv_icmp_gt (tgt := 14) hx hb dX14_isIn_7 (by decide) (fun _ => ?_) (fun h7 => absurd (Int32.lt_iff_toInt_lt.mpr (by have e0 : (364 : Int32).toInt = 364 := (by decide); omega)) h7)
  refine lv_iconst (v := 0) hx hb dX14_isIn_14 (by decide) ?_
  exact ze_i (qs := fun _ => 0) hC hG rfl rfl hr rfl hk (Nat.le_of_ble_eq_true rfl) (Nat.le_of_ble_eq_true rfl) dX14_isIn_15
set_option maxHeartbeats 4000000 in
set_option maxRecDepth 100000 in
theorem z_131_pass (l : Launch) (hst : l.stackTraces = false) (D : va_G) (κ : K4) (E0 : Nat) (sz : Nat) (b : Nat → Nat) (x0 : Int32) (k_x0 : 365 ≤ x0.toInt ∧ x0.toInt ≤ 2147483647) : NM l yX14_pass cX14_pass 2 (some .int) 2 44 0 0 E0 D κ (mw κ b E0 0) sz [.ref (b 0), .int x0] (QI D κ (mw κ b E0 0) sz 0 (fun qs : W1 => mw κ b E0 1)) := by
  refine NM.of (by decide +kernel) (Nat.le_of_ble_eq_true rfl) ?_
  intro p e s m below meth c ls hC hr hk hin hsz hE hT H locs hG hl
  have hx := hC.1
  have hb := hC.2.1
  have hl : lv_has ls 2 [(0, .ref (b 0)), (1, .int x0)] := hl
  refine lv_aload_n hx hb dX14_pass_0 rfl (lv_at hl 0 rfl) ?_
  refine lv_iload_n hx hb dX14_pass_1 rfl (lv_at hl 1 rfl) ?_
  refine lv_iconst (v := 0) hx hb dX14_pass_2 (by decide) ?_
  refine lv_sipush (v := 364) hx hb dX14_pass_3 (by decide) ?_
  refine lv_aload_n hx hb dX14_pass_6 rfl (lv_at hl 0 rfl) ?_
  refine bw_get (C := RX14) (T := TX14) (N := 15) (ci := 9) (v := .int 0) 9 (by decide) 0 hC hG iwX14 rfl rfl w332 rfl rfl dX14_pass_7 ?_
  refine lv_isub hx hb dX14_pass_10 ?_
  refine W.eq (g2 := F0 m 11 ls [.int 364, .int 0, .int x0, .ref (b 0)]) rfl ?_
  have cut11 : Cut (mw κ b E0 0) (mw κ b E0 0) ([]) := (Cut.all 9 rfl (by decide))
  refine zc_i hG cut11 (zr_S (n := 3) (As := [.int x0, .int 0, .int 364]) (rest := [.ref (b 0)]) hC hG hE hT cut11 (z_130_isIn l hst D κ E0 H.size b x0 ⟨by omega, by omega⟩) w167 w5 w169 w168 (by decide +kernel) ⟨Nat.le_of_ble_eq_true rfl, Nat.le_of_ble_eq_true rfl⟩ rfl hl.1 rfl (Nat.le_of_ble_eq_true rfl) dX14_pass_11 ⟨Nat.le_of_ble_eq_true rfl, Nat.le_of_ble_eq_true rfl⟩) (fun z1 H locs hG => ?_)
  have hG : BW D κ (mw κ b E0 0) _ s H locs := hG
  refine lv_if_ne (tgt := 21) hx hb dX14_pass_14 (by decide) (fun h14 => absurd (by decide) h14) (fun _ => ?_)
  refine lv_iconst (v := 1) hx hb dX14_pass_17 (by decide) ?_
  refine lv_goto (tgt := 22) hx hb dX14_pass_18 (by decide) ?_
  refine lv_iconst (v := 1) hx hb dX14_pass_22 (by decide) ?_
  have cut23 : Cut (mw κ b E0 0) (mw κ b E0 0) ([]) := (Cut.all 9 rfl (by decide))
  refine zc_i hG cut23 (zr_V (k := 0) (ci := 9) (n := 2) (As := [.int 1, .int 1]) (rest := []) hC hG hE hT cut23 (z_4_start l hst D κ E0 H.size b) rfl rfl w170 w5 w173 w171 w172 (by decide +kernel) ⟨Nat.le_of_ble_eq_true rfl, Nat.le_of_ble_eq_true rfl⟩ rfl hl.1 rfl (Nat.le_of_ble_eq_true rfl) dX14_pass_23 ⟨Nat.le_of_ble_eq_true rfl, Nat.le_of_ble_eq_true rfl⟩) (fun z2 H locs hG => ?_)
  have hG : BW D κ (mw κ b E0 1) _ s H locs := hG
  refine lv_if_eq (tgt := 31) hx hb dX14_pass_26 (by decide) (fun h26 => absurd h26 (by decide)) (fun _ => ?_)
  refine lv_iconst (v := 0) hx hb dX14_pass_29 (by decide) ?_
  exact ze_i (qs := fun _ => 0) hC hG rfl rfl hr rfl hk (Nat.le_of_ble_eq_true rfl) (Nat.le_of_ble_eq_true rfl) dX14_pass_30
theorem dX7_pass_26 : decode cX7_pass 26 = .ok (.aload_n 0, 1) := by decide +kernel
theorem dX7_pass_27 : decode cX7_pass 27 = .ok (.dup, 1) := by decide +kernel
theorem dX7_pass_28 : decode cX7_pass 28 = .ok (.getfield 67, 3) := by decide +kernel
theorem dX7_pass_31 : decode cX7_pass 31 = .ok (.iload_n 1, 1) := by decide +kernel
theorem dX7_pass_32 : decode cX7_pass 32 = .ok (.iadd, 1) := by decide +kernel
theorem dX7_pass_33 : decode cX7_pass 33 = .ok (.putfield 67, 3) := by decide +kernel
theorem dX7_pass_36 : decode cX7_pass 36 = .ok (.aload_n 0, 1) := by decide +kernel
theorem dX7_pass_37 : decode cX7_pass 37 = .ok (.getfield 67, 3) := by decide +kernel
theorem dX7_pass_40 : decode cX7_pass 40 = .ok (.ireturn, 1) := by decide +kernel
set_option maxHeartbeats 4000000 in
set_option maxRecDepth 100000 in
theorem z_132_pass (l : Launch) (hst : l.stackTraces = false) (D : va_G) (κ : K4) (E0 : Nat) (sz : Nat) (a : Nat → Nat) (x0 : Int32) (k_x0 : 0 ≤ x0.toInt ∧ x0.toInt ≤ 364) : NM l yX7_pass cX7_pass 2 (some .int) 0 0 0 0 E0 D κ (xw κ a) sz [.ref (a 0), .int x0] (QI D κ (xw κ a) sz (0 + x0) (fun qs : W1 => [])) := by
  refine NM.of (by decide +kernel) (Nat.le_of_ble_eq_true rfl) ?_
  intro p e s m below meth c ls hC hr hk hin hsz hE hT H locs hG hl
  have hx := hC.1
  have hb := hC.2.1
  have hl : lv_has ls 2 [(0, .ref (a 0)), (1, .int x0)] := hl
  refine lv_iload_n hx hb dX7_pass_0 rfl (lv_at hl 1 rfl) ?_
  refine lv_if_lt (tgt := 16) hx hb dX7_pass_1 (by decide) (fun h1 => absurd h1 (mt Int32.lt_iff_toInt_lt.mp (by have e1 : (0 : Int32).toInt = 0 := (by decide); omega))) (fun _ => ?_)
  refine lv_iload_n hx hb dX7_pass_4 rfl (lv_at hl 1 rfl) ?_
  refine lv_sipush (v := 364) hx hb dX7_pass_5 (by decide) ?_
  refine lv_aload_n hx hb dX7_pass_8 rfl (lv_at hl 0 rfl) ?_
  refine bw_get (C := RX7) (T := TX7) (N := 10) (ci := 7) (v := .int 0) 9 (by decide) 0 hC hG iwX7 (xw_0 κ a) rfl w43 rfl rfl dX7_pass_9 ?_
  refine lv_isub hx hb dX7_pass_12 ?_
  refine W.eq (g2 := F0 m 13 ls [.int 364, .int x0]) rfl ?_
  refine lv_icmp_le (tgt := 26) hx hb dX7_pass_13 (by decide) (fun _ => ?_) (fun h13 => absurd (Int32.le_iff_toInt_le.mpr (by have e0 : (364 : Int32).toInt = 364 := (by decide); omega)) h13)
  refine lv_aload_n hx hb dX7_pass_26 rfl (lv_at hl 0 rfl) ?_
  refine lv_dup hx hb dX7_pass_27 rfl ?_
  refine bw_get (C := RX7) (T := TX7) (N := 10) (ci := 7) (v := .int 0) 9 (by decide) 0 hC hG iwX7 (xw_0 κ a) rfl w43 rfl rfl dX7_pass_28 ?_
  refine lv_iload_n hx hb dX7_pass_31 rfl (lv_at hl 1 rfl) ?_
  refine lv_iadd hx hb dX7_pass_32 ?_
  refine bw_put (C := RX7) (T := TX7) (N := 10) (ci := 7) (ty0 := tyX7) (ty := .int) (v := .int (0 + x0)) 9 (by decide) 0 hC hG iwX7 tyX7_ok nmX7 rfl rfl w43 rfl (Or.inl rfl) (by decide +kernel) rfl rfl (Nat.le_of_ble_eq_true rfl) dX7_pass_33 (fun H locs hG => ?_)
  have hG : BW D κ ((xw κ a : va_W).set 0 (a 0, .inr (7, [.ref (a 1), .ref (a 7), .ref (a 12), .ref (a 23), .ref (a 28), .ref (a 33), .ref (a 37), .ref (a 41), .int (-1), .int (0 + x0)]))) _ s H locs := hG
  refine lv_aload_n hx hb dX7_pass_36 rfl (lv_at hl 0 rfl) ?_
  refine bw_get (C := RX7) (T := TX7) (N := 10) (ci := 7) (v := .int (0 + x0)) 9 (by decide) 0 hC hG iwX7 rfl rfl w43 rfl rfl dX7_pass_37 ?_
  have hG := hG.at (ws' := []) [] (by decide) rfl
  exact ze_i (qs := fun _ => 0) hC hG rfl rfl hr rfl hk (Nat.le_of_ble_eq_true rfl) (Nat.le_of_ble_eq_true rfl) dX7_pass_40
theorem dL_pass_15 : decode cL_pass 15 = .ok (.iconst 0, 1) := by decide +kernel
theorem dL_pass_16 : decode cL_pass 16 = .ok (.ireturn, 1) := by decide +kernel
theorem dL_pass_7 : decode cL_pass 7 = .ok (.i2l, 1) := by decide +kernel
theorem dL_pass_8 : decode cL_pass 8 = .ok (.lastore, 1) := by decide +kernel
theorem dL_pass_9 : decode cL_pass 9 = .ok (.goto 6, 3) := by decide +kernel
set_option maxHeartbeats 4000000 in
set_option maxRecDepth 100000 in
theorem z_133_pass (l : Launch) (hst : l.stackTraces = false) (D : va_G) (κ : K4) (E0 : Nat) (sz : Nat) (a : Nat → Nat) (x0 : Int32) (o : Nat) (k_x0 : 0 ≤ x0.toInt ∧ x0.toInt ≤ 364) : NH l yL_pass cL_pass 4 (some .int) [(0, 9, 12, 13)] 1 21 0 0 E0 D κ (xw κ a ++ [(o, .inl (κ.2.1, 1, .inr (.inl (fun _ => 0))))]) sz [.ref (a 0), .int x0, .ref o] (QI D κ (xw κ a ++ [(o, .inl (κ.2.1, 1, .inr (.inl (fun _ => 0))))]) sz 0 (fun qs : W1 => [(o, .inl (κ.2.1, 1, .inr (.inl (va_up (fun _ => 0) ((0 : Int32).toNatClampNeg) ((0 + x0).toInt64)))))])) := by
  refine NH.of (by decide +kernel) (Nat.le_of_ble_eq_true rfl) ?_
  intro p e s m below meth c ls hC hr hk htab hsz hE hT H locs hG hl
  have hx := hC.1
  have hb := hC.2.1
  have hl : lv_has ls 4 [(0, .ref (a 0)), (1, .int x0), (2, .ref o)] := hl
  refine lv_aload_n hx hb dL_pass_0 rfl (lv_at hl 2 rfl) ?_
  refine lv_iconst (v := 0) hx hb dL_pass_1 (by decide) ?_
  refine lv_aload_n hx hb dL_pass_2 rfl (lv_at hl 0 rfl) ?_
  refine lv_iload_n hx hb dL_pass_3 rfl (lv_at hl 1 rfl) ?_
  have cut4 : Cut (xw κ a ++ [(o, .inl (κ.2.1, 1, .inr (.inl (fun _ => 0))))]) (xw κ a) ([(o, .inl (κ.2.1, 1, .inr (.inl (fun _ => 0))))]) := (Cut.one 45 rfl (by decide))
  refine zc_i hG cut4 (zr_V (k := 0) (ci := 7) (n := 1) (As := [.int x0]) (rest := [.int 0, .ref o]) hC hG hE hT cut4 (z_132_pass l hst D κ E0 H.size a x0 ⟨by omega, by omega⟩) rfl rfl w396 w2 w399 w397 w398 (by decide +kernel) ⟨Nat.le_of_ble_eq_true rfl, Nat.le_of_ble_eq_true rfl⟩ rfl hl.1 rfl (Nat.le_of_ble_eq_true rfl) dL_pass_4 ⟨Nat.le_of_ble_eq_true rfl, Nat.le_of_ble_eq_true rfl⟩) (fun z1 H locs hG => ?_)
  have hG : BW D κ ([(o, .inl (κ.2.1, 1, .inr (.inl (fun _ => 0))))]) _ s H locs := hG
  refine lv_i2l hx hb dL_pass_7 rfl ?_
  refine zs_lst 0 hC hG rfl (vp_box (by have e0 : (0 : Int32).toInt = 0 := (by decide); omega) (by have e0 : (0 : Int32).toInt = 0 := (by decide); omega)) dL_pass_8 (fun H locs hG => ?_)
  have hG : BW D κ (([(o, .inl (κ.2.1, 1, .inr (.inl (fun _ => 0))))] : va_W).set 0 (o, .inl (κ.2.1, 1, .inr (.inl (va_up (fun _ => 0) ((0 : Int32).toNatClampNeg) ((0 + x0).toInt64)))))) _ s H locs := hG
  refine lv_goto (tgt := 15) hx hb dL_pass_9 (by decide) ?_
  refine lv_iconst (v := 0) hx hb dL_pass_15 (by decide) ?_
  exact ze_i (qs := fun _ => 0) hC hG rfl rfl hr rfl hk (Nat.le_of_ble_eq_true rfl) (Nat.le_of_ble_eq_true rfl) dL_pass_16
set_option maxHeartbeats 4000000 in
set_option maxRecDepth 100000 in
theorem z_134_isIn (l : Launch) (hst : l.stackTraces = false) (D : va_G) (κ : K4) (E0 : Nat) (sz : Nat) (b : Nat → Nat) (x0 : Int32) (k_x0 : 0 ≤ x0.toInt ∧ x0.toInt ≤ 364) : NM l yX14_isIn cX14_isIn 3 (some .boolean) 0 0 0 0 E0 D κ (mw κ b E0 0) sz [.int x0, .int 0, .int 364] (QI D κ (mw κ b E0 0) sz 1 (fun qs : W1 => mw κ b E0 0)) := by
  refine NM.of (by decide +kernel) (Nat.le_of_ble_eq_true rfl) ?_
  intro p e s m below meth c ls hC hr hk hin hsz hE hT H locs hG hl
  have hx := hC.1
  have hb := hC.2.1
  have hl : lv_has ls 3 [(0, .int x0), (1, .int 0), (2, .int 364)] := hl
  refine lv_iload_n hx hb dX14_isIn_0 rfl (lv_at hl 0 rfl) ?_
  refine lv_iload_n hx hb dX14_isIn_1 rfl (lv_at hl 1 rfl) ?_
  refine lv_icmp_lt (tgt := 14) hx hb dX14_isIn_2 (by decide) (fun h2 => absurd h2 (mt Int32.lt_iff_toInt_lt.mp (by have e1 : (0 : Int32).toInt = 0 := (by decide); omega))) (fun _ => ?_)
  refine lv_iload_n hx hb dX14_isIn_5 rfl (lv_at hl 0 rfl) ?_
  refine lv_iload_n hx hb dX14_isIn_6 rfl (lv_at hl 2 rfl) ?_
  refine lv_icmp_gt (tgt := 14) hx hb dX14_isIn_7 (by decide) (fun h7 => absurd h7 (mt Int32.lt_iff_toInt_lt.mp (by have e0 : (364 : Int32).toInt = 364 := (by decide); omega))) (fun _ => ?_)
  refine lv_iconst (v := 1) hx hb dX14_isIn_10 (by decide) ?_
  refine lv_goto (tgt := 15) hx hb dX14_isIn_11 (by decide) ?_
  exact ze_i (qs := fun _ => 0) hC hG rfl rfl hr rfl hk (Nat.le_of_ble_eq_true rfl) (Nat.le_of_ble_eq_true rfl) dX14_isIn_15
theorem dX14_pass_21 : decode cX14_pass 21 = .ok (.iconst 0, 1) := by decide +kernel
theorem dX14_pass_31 : decode cX14_pass 31 = .ok (.aload_n 0, 1) := by decide +kernel
theorem dX14_pass_32 : decode cX14_pass 32 = .ok (.dup, 1) := by decide +kernel
theorem dX14_pass_33 : decode cX14_pass 33 = .ok (.getfield 143, 3) := by decide +kernel
theorem dX14_pass_36 : decode cX14_pass 36 = .ok (.iload_n 1, 1) := by decide +kernel
theorem dX14_pass_37 : decode cX14_pass 37 = .ok (.iadd, 1) := by decide +kernel
theorem dX14_pass_38 : decode cX14_pass 38 = .ok (.putfield 143, 3) := by decide +kernel
theorem dX14_pass_41 : decode cX14_pass 41 = .ok (.aload_n 0, 1) := by decide +kernel
theorem dX14_pass_42 : decode cX14_pass 42 = .ok (.getfield 143, 3) := by decide +kernel
theorem dX14_pass_45 : decode cX14_pass 45 = .ok (.ireturn, 1) := by decide +kernel
set_option maxHeartbeats 4000000 in
set_option maxRecDepth 100000 in
theorem z_135_pass (l : Launch) (hst : l.stackTraces = false) (D : va_G) (κ : K4) (E0 : Nat) (sz : Nat) (b : Nat → Nat) (x0 : Int32) (k_x0 : 0 ≤ x0.toInt ∧ x0.toInt ≤ 364) : NM l yX14_pass cX14_pass 2 (some .int) 2 44 0 0 E0 D κ (mw κ b E0 0) sz [.ref (b 0), .int x0] (QI D κ (mw κ b E0 0) sz (0 + x0) (fun qs : W1 => [(b 0, .inr (9, [.int 0, .ref (b 1), .ref (b 2), .ref (b 3), .ref (b 4), .ref (b 5), .ref (b 6), .ref (b 7), .null, .int (0 + x0), .int (-1), .int 0, .int 0, .int 0, .ref (b 8)]))])) := by
  refine NM.of (by decide +kernel) (Nat.le_of_ble_eq_true rfl) ?_
  intro p e s m below meth c ls hC hr hk hin hsz hE hT H locs hG hl
  have hx := hC.1
  have hb := hC.2.1
  have hl : lv_has ls 2 [(0, .ref (b 0)), (1, .int x0)] := hl
  refine lv_aload_n hx hb dX14_pass_0 rfl (lv_at hl 0 rfl) ?_
  refine lv_iload_n hx hb dX14_pass_1 rfl (lv_at hl 1 rfl) ?_
  refine lv_iconst (v := 0) hx hb dX14_pass_2 (by decide) ?_
  refine lv_sipush (v := 364) hx hb dX14_pass_3 (by decide) ?_
  refine lv_aload_n hx hb dX14_pass_6 rfl (lv_at hl 0 rfl) ?_
  refine bw_get (C := RX14) (T := TX14) (N := 15) (ci := 9) (v := .int 0) 9 (by decide) 0 hC hG iwX14 rfl rfl w332 rfl rfl dX14_pass_7 ?_
  refine lv_isub hx hb dX14_pass_10 ?_
  refine W.eq (g2 := F0 m 11 ls [.int 364, .int 0, .int x0, .ref (b 0)]) rfl ?_
  have cut11 : Cut (mw κ b E0 0) (mw κ b E0 0) ([]) := (Cut.all 9 rfl (by decide))
  refine zc_i hG cut11 (zr_S (n := 3) (As := [.int x0, .int 0, .int 364]) (rest := [.ref (b 0)]) hC hG hE hT cut11 (z_134_isIn l hst D κ E0 H.size b x0 ⟨by omega, by omega⟩) w167 w5 w169 w168 (by decide +kernel) ⟨Nat.le_of_ble_eq_true rfl, Nat.le_of_ble_eq_true rfl⟩ rfl hl.1 rfl (Nat.le_of_ble_eq_true rfl) dX14_pass_11 ⟨Nat.le_of_ble_eq_true rfl, Nat.le_of_ble_eq_true rfl⟩) (fun z1 H locs hG => ?_)
  have hG : BW D κ (mw κ b E0 0) _ s H locs := hG
  refine lv_if_ne (tgt := 21) hx hb dX14_pass_14 (by decide) (fun _ => ?_) (fun h14 => absurd h14 (by decide))
  refine lv_iconst (v := 0) hx hb dX14_pass_21 (by decide) ?_
  refine lv_iconst (v := 1) hx hb dX14_pass_22 (by decide) ?_
  have cut23 : Cut (mw κ b E0 0) (mw κ b E0 0) ([]) := (Cut.all 9 rfl (by decide))
  refine zc_i hG cut23 (zr_V (k := 0) (ci := 9) (n := 2) (As := [.int 0, .int 1]) (rest := []) hC hG hE hT cut23 (z_25_start l hst D κ E0 H.size b) rfl rfl w170 w5 w173 w171 w172 (by decide +kernel) ⟨Nat.le_of_ble_eq_true rfl, Nat.le_of_ble_eq_true rfl⟩ rfl hl.1 rfl (Nat.le_of_ble_eq_true rfl) dX14_pass_23 ⟨Nat.le_of_ble_eq_true rfl, Nat.le_of_ble_eq_true rfl⟩) (fun z2 H locs hG => ?_)
  have hG : BW D κ (mw κ b E0 0) _ s H locs := hG
  refine lv_if_eq (tgt := 31) hx hb dX14_pass_26 (by decide) (fun _ => ?_) (fun h26 => absurd (by decide) h26)
  refine lv_aload_n hx hb dX14_pass_31 rfl (lv_at hl 0 rfl) ?_
  refine lv_dup hx hb dX14_pass_32 rfl ?_
  refine bw_get (C := RX14) (T := TX14) (N := 15) (ci := 9) (v := .int 0) 9 (by decide) 0 hC hG iwX14 rfl rfl w332 rfl rfl dX14_pass_33 ?_
  refine lv_iload_n hx hb dX14_pass_36 rfl (lv_at hl 1 rfl) ?_
  refine lv_iadd hx hb dX14_pass_37 ?_
  refine bw_put (C := RX14) (T := TX14) (N := 15) (ci := 9) (ty0 := tyX14) (ty := .int) (v := .int (0 + x0)) 9 (by decide) 0 hC hG iwX14 tyX14_ok nmX14 rfl rfl w332 rfl (Or.inl rfl) (by decide +kernel) rfl rfl (Nat.le_of_ble_eq_true rfl) dX14_pass_38 (fun H locs hG => ?_)
  have hG : BW D κ ((mw κ b E0 0 : va_W).set 0 (b 0, .inr (9, [.int 0, .ref (b 1), .ref (b 2), .ref (b 3), .ref (b 4), .ref (b 5), .ref (b 6), .ref (b 7), .null, .int (0 + x0), .int (-1), .int 0, .int 0, .int 0, .ref (b 8)]))) _ s H locs := hG
  refine lv_aload_n hx hb dX14_pass_41 rfl (lv_at hl 0 rfl) ?_
  refine bw_get (C := RX14) (T := TX14) (N := 15) (ci := 9) (v := .int (0 + x0)) 9 (by decide) 0 hC hG iwX14 rfl rfl w332 rfl rfl dX14_pass_42 ?_
  have hG := hG.at (ws' := [(b 0, .inr (9, [.int 0, .ref (b 1), .ref (b 2), .ref (b 3), .ref (b 4), .ref (b 5), .ref (b 6), .ref (b 7), .null, .int (0 + x0), .int (-1), .int 0, .int 0, .int 0, .ref (b 8)]))]) [0] (by decide) rfl
  exact ze_i (qs := fun _ => 0) hC hG rfl rfl hr rfl hk (Nat.le_of_ble_eq_true rfl) (Nat.le_of_ble_eq_true rfl) dX14_pass_45
set_option maxHeartbeats 4000000 in
set_option maxRecDepth 100000 in
theorem z_136_thrown (l : Launch) (hst : l.stackTraces = false) (D : va_G) (κ : K4) (E0 : Nat) (sz : Nat) (b : Nat → Nat) (x0 : Int32) : NM l yX14_thrown cX14_thrown 1 (some .int) 0 0 0 0 E0 D κ ([(b 0, .inr (9, [.int 0, .ref (b 1), .ref (b 2), .ref (b 3), .ref (b 4), .ref (b 5), .ref (b 6), .ref (b 7), .null, .int x0, .int (-1), .int 0, .int 0, .int 0, .ref (b 8)]))]) sz [.ref (b 0)] (QI D κ ([(b 0, .inr (9, [.int 0, .ref (b 1), .ref (b 2), .ref (b 3), .ref (b 4), .ref (b 5), .ref (b 6), .ref (b 7), .null, .int x0, .int (-1), .int 0, .int 0, .int 0, .ref (b 8)]))]) sz 0 (fun qs : W1 => [(b 0, .inr (9, [.int 0, .ref (b 1), .ref (b 2), .ref (b 3), .ref (b 4), .ref (b 5), .ref (b 6), .ref (b 7), .null, .int x0, .int (-1), .int 0, .int 0, .int 0, .ref (b 8)]))])) := by
  refine NM.of (by decide +kernel) (Nat.le_of_ble_eq_true rfl) ?_
  intro p e s m below meth c ls hC hr hk hin hsz hE hT H locs hG hl
  have hx := hC.1
  have hb := hC.2.1
  have hl : lv_has ls 1 [(0, .ref (b 0))] := hl
  refine lv_aload_n hx hb dX14_thrown_0 rfl (lv_at hl 0 rfl) ?_
  refine bw_get (C := RX14) (T := TX14) (N := 15) (ci := 9) (v := .int 0) 0 (by decide) 0 hC hG iwX14 rfl rfl w174 rfl rfl dX14_thrown_1 ?_
  exact ze_i (qs := fun _ => 0) hC hG rfl rfl hr rfl hk (Nat.le_of_ble_eq_true rfl) (Nat.le_of_ble_eq_true rfl) dX14_thrown_4
theorem dX7_needDay_0 : decode cX7_needDay 0 = .ok (.iload_n 0, 1) := by decide +kernel
theorem dX7_needDay_1 : decode cX7_needDay 1 = .ok (.ifCond .lt 10, 3) := by decide +kernel
theorem dX7_needDay_11 : decode cX7_needDay 11 = .ok (.new 71, 3) := by decide +kernel
theorem dX7_needDay_14 : decode cX7_needDay 14 = .ok (.dup, 1) := by decide +kernel
theorem dX7_needDay_15 : decode cX7_needDay 15 = .ok (.ldc 131, 2) := by decide +kernel
theorem dX7_needDay_17 : decode cX7_needDay 17 = .ok (.invokespecial 75, 3) := by decide +kernel
theorem dX7_needDay_20 : decode cX7_needDay 20 = .ok (.athrow, 1) := by decide +kernel
set_option maxHeartbeats 4000000 in
set_option maxRecDepth 100000 in
theorem z_137_needDay (l : Launch) (hst : l.stackTraces = false) (D : va_G) (κ : K4) (E0 : Nat) (sz : Nat) (a : Nat → Nat) (x0 : Int32) (k_x0 : -2147483648 ≤ x0.toInt ∧ x0.toInt ≤ -1) : XM l yX7_needDay cX7_needDay 1 none 6 82 1 6 E0 D κ (xw κ a) sz [.int x0] "java/lang/IllegalArgumentException" (NV (xw κ a) sz) := by
  refine XM.of (by decide +kernel) (Nat.le_of_ble_eq_true rfl) ?_
  intro p e s m below meth c ls hC hk hno hsz hE hT H locs hG hl
  have hx := hC.1
  have hb := hC.2.1
  have hl : lv_has ls 1 [(0, .int x0)] := hl
  refine lv_iload_n hx hb dX7_needDay_0 rfl (lv_at hl 0 rfl) ?_
  refine lv_if_lt (tgt := 11) hx hb dX7_needDay_1 (by decide) (fun _ => ?_) (fun h1 => absurd (Int32.lt_iff_toInt_lt.mpr (by have e1 : (0 : Int32).toInt = 0 := (by decide); omega)) h1)
  exact th_IA hC hst hE hT hno hk hG hl.1 (List.mem_of_getElem? (i := 8) rfl) w150 w151 dX7_needDay_11 dX7_needDay_14 dX7_needDay_15 dX7_needDay_17 dX7_needDay_20 (Nat.le_of_ble_eq_true rfl) (Nat.le_of_ble_eq_true rfl) (Nat.le_of_ble_eq_true rfl) (Nat.le_of_ble_eq_true rfl) (Nat.le_of_ble_eq_true rfl) (Nat.le_of_ble_eq_true rfl)
theorem dX7_draft_0 : decode cX7_draft 0 = .ok (.iload_n 1, 1) := by decide +kernel
theorem dX7_draft_1 : decode cX7_draft 1 = .ok (.invokestatic 133, 3) := by decide +kernel
set_option maxHeartbeats 4000000 in
set_option maxRecDepth 100000 in
theorem z_138_draft (l : Launch) (hst : l.stackTraces = false) (D : va_G) (κ : K4) (E0 : Nat) (sz : Nat) (a : Nat → Nat) (x0 : Int32) (x1 : Int32) (k_x0 : -2147483648 ≤ x0.toInt ∧ x0.toInt ≤ -1) (k_x1 : -2147483648 ≤ x1.toInt ∧ x1.toInt ≤ 2147483647) : XM l yX7_draft cX7_draft 4 (some .int) 7 102 1 6 E0 D κ (xw κ a) sz [.ref (a 0), .int x0, .int x1] "java/lang/IllegalArgumentException" (NI (xw κ a) sz) := by
  refine XM.of (by decide +kernel) (Nat.le_of_ble_eq_true rfl) ?_
  intro p e s m below meth c ls hC hk hno hsz hE hT H locs hG hl
  have hx := hC.1
  have hb := hC.2.1
  have hl : lv_has ls 4 [(0, .ref (a 0)), (1, .int x0), (2, .int x1)] := hl
  refine lv_iload_n hx hb dX7_draft_0 rfl (lv_at hl 1 rfl) ?_
  have cut1 : Cut (xw κ a) (xw κ a) ([]) := (Cut.all 45 rfl (by decide))
  refine zt_v hG cut1 (zx_S (n := 1) (As := [.int x0]) (rest := []) hC hG hE hT cut1 (z_137_needDay l hst D κ E0 H.size a x0 ⟨by omega, by omega⟩) w413 w2 w415 w414 (by decide +kernel) ⟨Nat.le_of_ble_eq_true rfl, Nat.le_of_ble_eq_true rfl⟩ rfl hl.1 rfl (Nat.le_of_ble_eq_true rfl) dX7_draft_1 ⟨Nat.le_of_ble_eq_true rfl, Nat.le_of_ble_eq_true rfl⟩) (fun ce q9 H locs hG hz1 hz2 hz3 => ?_)
  exact zt_out hno hk hG hz1 hz2 hz3 (Nat.le_of_ble_eq_true rfl) (Nat.le_of_ble_eq_true rfl)
theorem dL_draft_0 : decode cL_draft 0 = .ok (.aload_n 3, 1) := by decide +kernel
theorem dL_draft_1 : decode cL_draft 1 = .ok (.iconst 0, 1) := by decide +kernel
theorem dL_draft_13 : decode cL_draft 13 = .ok (.astore 4, 2) := by decide +kernel
theorem dL_draft_15 : decode cL_draft 15 = .ok (.iconst 1, 1) := by decide +kernel
theorem dL_draft_16 : decode cL_draft 16 = .ok (.ireturn, 1) := by decide +kernel
theorem dL_draft_2 : decode cL_draft 2 = .ok (.aload_n 0, 1) := by decide +kernel
theorem dL_draft_3 : decode cL_draft 3 = .ok (.iload_n 1, 1) := by decide +kernel
theorem dL_draft_4 : decode cL_draft 4 = .ok (.iload_n 2, 1) := by decide +kernel
theorem dL_draft_5 : decode cL_draft 5 = .ok (.invokevirtual 33, 3) := by decide +kernel
set_option maxHeartbeats 4000000 in
set_option maxRecDepth 100000 in
theorem z_139_draft (l : Launch) (hst : l.stackTraces = false) (D : va_G) (κ : K4) (E0 : Nat) (sz : Nat) (a : Nat → Nat) (x0 : Int32) (x1 : Int32) (o : Nat) (k_x0 : -2147483648 ≤ x0.toInt ∧ x0.toInt ≤ -1) (k_x1 : -2147483648 ≤ x1.toInt ∧ x1.toInt ≤ 2147483647) : NH l yL_draft cL_draft 5 (some .int) [(0, 10, 13, 13)] 8 125 1 6 E0 D κ (xw κ a ++ [(o, .inl (κ.2.1, 1, .inr (.inl (fun _ => 0))))]) sz [.ref (a 0), .int x0, .int x1, .ref o] (QI D κ (xw κ a ++ [(o, .inl (κ.2.1, 1, .inr (.inl (fun _ => 0))))]) sz 1 (fun qs : W1 => [(o, .inl (κ.2.1, 1, .inr (.inl (fun _ => 0))))])) := by
  refine NH.of (by decide +kernel) (Nat.le_of_ble_eq_true rfl) ?_
  intro p e s m below meth c ls hC hr hk htab hsz hE hT H locs hG hl
  have hx := hC.1
  have hb := hC.2.1
  have hl : lv_has ls 5 [(0, .ref (a 0)), (1, .int x0), (2, .int x1), (3, .ref o)] := hl
  refine lv_aload_n hx hb dL_draft_0 rfl (lv_at hl 3 rfl) ?_
  refine lv_iconst (v := 0) hx hb dL_draft_1 (by decide) ?_
  refine lv_aload_n hx hb dL_draft_2 rfl (lv_at hl 0 rfl) ?_
  refine lv_iload_n hx hb dL_draft_3 rfl (lv_at hl 1 rfl) ?_
  refine lv_iload_n hx hb dL_draft_4 rfl (lv_at hl 2 rfl) ?_
  have cut5 : Cut (xw κ a ++ [(o, .inl (κ.2.1, 1, .inr (.inl (fun _ => 0))))]) (xw κ a) ([(o, .inl (κ.2.1, 1, .inr (.inl (fun _ => 0))))]) := (Cut.one 45 rfl (by decide))
  refine zt_i hG cut5 (zx_V (k := 0) (ci := 7) (n := 2) (As := [.int x0, .int x1]) (rest := [.int 0, .ref o]) hC hG hE hT cut5 (z_138_draft l hst D κ E0 H.size a x0 x1 ⟨by omega, by omega⟩ ⟨by omega, by omega⟩) rfl rfl w407 w2 w410 w408 w409 (by decide +kernel) ⟨Nat.le_of_ble_eq_true rfl, Nat.le_of_ble_eq_true rfl⟩ rfl hl.1 rfl (Nat.le_of_ble_eq_true rfl) dL_draft_5 ⟨Nat.le_of_ble_eq_true rfl, Nat.le_of_ble_eq_true rfl⟩) (fun ce q9 H locs hG hz1 hz2 hz3 => ?_)
  refine vx_catch (own := RL) (name := "java/lang/IllegalArgumentException") (E := "java/lang/IllegalArgumentException") hC.2.2.2.1 [] ⟨0, 10, 13, 13⟩ [] htab (fun z hz => by simp at hz) (by decide) (by decide) (hC.2.2.2.2 _ w145) (va_Nw.use rfl (hT.1 ("java/lang/IllegalArgumentException", "java/lang/IllegalArgumentException") (by decide))) hz1 hz2 hz3 ?_
  refine lv_astore (lv' := [(4, .ref q9), (0, .ref (a 0)), (1, .int x0), (2, .int x1), (3, .ref o)]) hx hb dL_draft_13 hl (by decide) rfl (fun ls hl => ?_)
  refine lv_iconst (v := 1) hx hb dL_draft_15 (by decide) ?_
  exact ze_i (qs := fun _ => 0) hC hG rfl rfl hr rfl hk (Nat.le_of_ble_eq_true rfl) (Nat.le_of_ble_eq_true rfl) dL_draft_16
theorem dX14_draft_0 : decode cX14_draft 0 = .ok (.aload_n 0, 1) := by decide +kernel
theorem dX14_draft_1 : decode cX14_draft 1 = .ok (.iload_n 1, 1) := by decide +kernel
theorem dX14_draft_2 : decode cX14_draft 2 = .ok (.iconst 0, 1) := by decide +kernel
theorem dX14_draft_23 : decode cX14_draft 23 = .ok (.iconst 1, 1) := by decide +kernel
theorem dX14_draft_24 : decode cX14_draft 24 = .ok (.goto 4, 3) := by decide +kernel
theorem dX14_draft_28 : decode cX14_draft 28 = .ok (.iconst 1, 1) := by decide +kernel
theorem dX14_draft_29 : decode cX14_draft 29 = .ok (.invokevirtual 61, 3) := by decide +kernel
theorem dX14_draft_3 : decode cX14_draft 3 = .ok (.sipush 364, 3) := by decide +kernel
theorem dX14_draft_32 : decode cX14_draft 32 = .ok (.ifCond .eq 5, 3) := by decide +kernel
theorem dX14_draft_35 : decode cX14_draft 35 = .ok (.iconst 0, 1) := by decide +kernel
theorem dX14_draft_36 : decode cX14_draft 36 = .ok (.ireturn, 1) := by decide +kernel
theorem dX14_draft_6 : decode cX14_draft 6 = .ok (.invokestatic 53, 3) := by decide +kernel
theorem dX14_draft_9 : decode cX14_draft 9 = .ok (.ifCond .eq 14, 3) := by decide +kernel
set_option maxHeartbeats 4000000 in
set_option maxRecDepth 100000 in
theorem z_140_draft (l : Launch) (hst : l.stackTraces = false) (D : va_G) (κ : K4) (E0 : Nat) (sz : Nat) (b : Nat → Nat) (x0 : Int32) (x1 : Int32) (k_x0 : -2147483648 ≤ x0.toInt ∧ x0.toInt ≤ -1) (k_x1 : -2147483648 ≤ x1.toInt ∧ x1.toInt ≤ 2147483647) : NM l yX14_draft cX14_draft 4 (some .int) 2 44 0 0 E0 D κ (mw κ b E0 0) sz [.ref (b 0), .int x0, .int x1] (QI D κ (mw κ b E0 0) sz 0 (fun qs : W1 => mw κ b E0 1)) := by
  refine NM.of (by decide +kernel) (Nat.le_of_ble_eq_true rfl) ?_
  intro p e s m below meth c ls hC hr hk hin hsz hE hT H locs hG hl
  have hx := hC.1
  have hb := hC.2.1
  have hl : lv_has ls 4 [(0, .ref (b 0)), (1, .int x0), (2, .int x1)] := hl
  refine lv_aload_n hx hb dX14_draft_0 rfl (lv_at hl 0 rfl) ?_
  refine lv_iload_n hx hb dX14_draft_1 rfl (lv_at hl 1 rfl) ?_
  refine lv_iconst (v := 0) hx hb dX14_draft_2 (by decide) ?_
  refine lv_sipush (v := 364) hx hb dX14_draft_3 (by decide) ?_
  have cut6 : Cut (mw κ b E0 0) (mw κ b E0 0) ([]) := (Cut.all 9 rfl (by decide))
  refine zc_i hG cut6 (zr_S (n := 3) (As := [.int x0, .int 0, .int 364]) (rest := [.ref (b 0)]) hC hG hE hT cut6 (z_126_isIn l hst D κ E0 H.size b x0 ⟨by omega, by omega⟩) w167 w5 w169 w168 (by decide +kernel) ⟨Nat.le_of_ble_eq_true rfl, Nat.le_of_ble_eq_true rfl⟩ rfl hl.1 rfl (Nat.le_of_ble_eq_true rfl) dX14_draft_6 ⟨Nat.le_of_ble_eq_true rfl, Nat.le_of_ble_eq_true rfl⟩) (fun z1 H locs hG => ?_)
  have hG : BW D κ (mw κ b E0 0) _ s H locs := hG
  refine lv_if_eq (tgt := 23) hx hb dX14_draft_9 (by decide) (fun _ => ?_) (fun h9 => absurd (by decide) h9)
  refine lv_iconst (v := 1) hx hb dX14_draft_23 (by decide) ?_
  refine lv_goto (tgt := 28) hx hb dX14_draft_24 (by decide) ?_
  refine lv_iconst (v := 1) hx hb dX14_draft_28 (by decide) ?_
  have cut29 : Cut (mw κ b E0 0) (mw κ b E0 0) ([]) := (Cut.all 9 rfl (by decide))
  refine zc_i hG cut29 (zr_V (k := 0) (ci := 9) (n := 2) (As := [.int 1, .int 1]) (rest := []) hC hG hE hT cut29 (z_4_start l hst D κ E0 H.size b) rfl rfl w170 w5 w173 w171 w172 (by decide +kernel) ⟨Nat.le_of_ble_eq_true rfl, Nat.le_of_ble_eq_true rfl⟩ rfl hl.1 rfl (Nat.le_of_ble_eq_true rfl) dX14_draft_29 ⟨Nat.le_of_ble_eq_true rfl, Nat.le_of_ble_eq_true rfl⟩) (fun z2 H locs hG => ?_)
  have hG : BW D κ (mw κ b E0 1) _ s H locs := hG
  refine lv_if_eq (tgt := 37) hx hb dX14_draft_32 (by decide) (fun h32 => absurd h32 (by decide)) (fun _ => ?_)
  refine lv_iconst (v := 0) hx hb dX14_draft_35 (by decide) ?_
  exact ze_i (qs := fun _ => 0) hC hG rfl rfl hr rfl hk (Nat.le_of_ble_eq_true rfl) (Nat.le_of_ble_eq_true rfl) dX14_draft_36
theorem dX7_needDay_4 : decode cX7_needDay 4 = .ok (.iload_n 0, 1) := by decide +kernel
theorem dX7_needDay_5 : decode cX7_needDay 5 = .ok (.sipush 364, 3) := by decide +kernel
theorem dX7_needDay_8 : decode cX7_needDay 8 = .ok (.if_icmp .le 13, 3) := by decide +kernel
set_option maxHeartbeats 4000000 in
set_option maxRecDepth 100000 in
theorem z_141_needDay (l : Launch) (hst : l.stackTraces = false) (D : va_G) (κ : K4) (E0 : Nat) (sz : Nat) (a : Nat → Nat) (x0 : Int32) (k_x0 : 365 ≤ x0.toInt ∧ x0.toInt ≤ 2147483647) : XM l yX7_needDay cX7_needDay 1 none 6 82 1 6 E0 D κ (xw κ a) sz [.int x0] "java/lang/IllegalArgumentException" (NV (xw κ a) sz) := by
  refine XM.of (by decide +kernel) (Nat.le_of_ble_eq_true rfl) ?_
  intro p e s m below meth c ls hC hk hno hsz hE hT H locs hG hl
  have hx := hC.1
  have hb := hC.2.1
  have hl : lv_has ls 1 [(0, .int x0)] := hl
  refine lv_iload_n hx hb dX7_needDay_0 rfl (lv_at hl 0 rfl) ?_
  refine lv_if_lt (tgt := 11) hx hb dX7_needDay_1 (by decide) (fun h1 => absurd h1 (mt Int32.lt_iff_toInt_lt.mp (by have e1 : (0 : Int32).toInt = 0 := (by decide); omega))) (fun _ => ?_)
  refine lv_iload_n hx hb dX7_needDay_4 rfl (lv_at hl 0 rfl) ?_
  refine lv_sipush (v := 364) hx hb dX7_needDay_5 (by decide) ?_
  refine lv_icmp_le (tgt := 21) hx hb dX7_needDay_8 (by decide) (fun h8 => absurd h8 (mt Int32.le_iff_toInt_le.mp (by have e0 : (364 : Int32).toInt = 364 := (by decide); omega))) (fun _ => ?_)
  exact th_IA hC hst hE hT hno hk hG hl.1 (List.mem_of_getElem? (i := 8) rfl) w150 w151 dX7_needDay_11 dX7_needDay_14 dX7_needDay_15 dX7_needDay_17 dX7_needDay_20 (Nat.le_of_ble_eq_true rfl) (Nat.le_of_ble_eq_true rfl) (Nat.le_of_ble_eq_true rfl) (Nat.le_of_ble_eq_true rfl) (Nat.le_of_ble_eq_true rfl) (Nat.le_of_ble_eq_true rfl)
set_option maxHeartbeats 4000000 in
set_option maxRecDepth 100000 in
theorem z_142_draft (l : Launch) (hst : l.stackTraces = false) (D : va_G) (κ : K4) (E0 : Nat) (sz : Nat) (a : Nat → Nat) (x0 : Int32) (x1 : Int32) (k_x0 : 365 ≤ x0.toInt ∧ x0.toInt ≤ 2147483647) (k_x1 : -2147483648 ≤ x1.toInt ∧ x1.toInt ≤ 2147483647) : XM l yX7_draft cX7_draft 4 (some .int) 7 102 1 6 E0 D κ (xw κ a) sz [.ref (a 0), .int x0, .int x1] "java/lang/IllegalArgumentException" (NI (xw κ a) sz) := by
  refine XM.of (by decide +kernel) (Nat.le_of_ble_eq_true rfl) ?_
  intro p e s m below meth c ls hC hk hno hsz hE hT H locs hG hl
  have hx := hC.1
  have hb := hC.2.1
  have hl : lv_has ls 4 [(0, .ref (a 0)), (1, .int x0), (2, .int x1)] := hl
  refine lv_iload_n hx hb dX7_draft_0 rfl (lv_at hl 1 rfl) ?_
  have cut1 : Cut (xw κ a) (xw κ a) ([]) := (Cut.all 45 rfl (by decide))
  refine zt_v hG cut1 (zx_S (n := 1) (As := [.int x0]) (rest := []) hC hG hE hT cut1 (z_141_needDay l hst D κ E0 H.size a x0 ⟨by omega, by omega⟩) w413 w2 w415 w414 (by decide +kernel) ⟨Nat.le_of_ble_eq_true rfl, Nat.le_of_ble_eq_true rfl⟩ rfl hl.1 rfl (Nat.le_of_ble_eq_true rfl) dX7_draft_1 ⟨Nat.le_of_ble_eq_true rfl, Nat.le_of_ble_eq_true rfl⟩) (fun ce q9 H locs hG hz1 hz2 hz3 => ?_)
  exact zt_out hno hk hG hz1 hz2 hz3 (Nat.le_of_ble_eq_true rfl) (Nat.le_of_ble_eq_true rfl)
set_option maxHeartbeats 4000000 in
set_option maxRecDepth 100000 in
theorem z_143_draft (l : Launch) (hst : l.stackTraces = false) (D : va_G) (κ : K4) (E0 : Nat) (sz : Nat) (a : Nat → Nat) (x0 : Int32) (x1 : Int32) (o : Nat) (k_x0 : 365 ≤ x0.toInt ∧ x0.toInt ≤ 2147483647) (k_x1 : -2147483648 ≤ x1.toInt ∧ x1.toInt ≤ 2147483647) : NH l yL_draft cL_draft 5 (some .int) [(0, 10, 13, 13)] 8 125 1 6 E0 D κ (xw κ a ++ [(o, .inl (κ.2.1, 1, .inr (.inl (fun _ => 0))))]) sz [.ref (a 0), .int x0, .int x1, .ref o] (QI D κ (xw κ a ++ [(o, .inl (κ.2.1, 1, .inr (.inl (fun _ => 0))))]) sz 1 (fun qs : W1 => [(o, .inl (κ.2.1, 1, .inr (.inl (fun _ => 0))))])) := by
  refine NH.of (by decide +kernel) (Nat.le_of_ble_eq_true rfl) ?_
  intro p e s m below meth c ls hC hr hk htab hsz hE hT H locs hG hl
  have hx := hC.1
  have hb := hC.2.1
  have hl : lv_has ls 5 [(0, .ref (a 0)), (1, .int x0), (2, .int x1), (3, .ref o)] := hl
  refine lv_aload_n hx hb dL_draft_0 rfl (lv_at hl 3 rfl) ?_
  refine lv_iconst (v := 0) hx hb dL_draft_1 (by decide) ?_
  refine lv_aload_n hx hb dL_draft_2 rfl (lv_at hl 0 rfl) ?_
  refine lv_iload_n hx hb dL_draft_3 rfl (lv_at hl 1 rfl) ?_
  refine lv_iload_n hx hb dL_draft_4 rfl (lv_at hl 2 rfl) ?_
  have cut5 : Cut (xw κ a ++ [(o, .inl (κ.2.1, 1, .inr (.inl (fun _ => 0))))]) (xw κ a) ([(o, .inl (κ.2.1, 1, .inr (.inl (fun _ => 0))))]) := (Cut.one 45 rfl (by decide))
  refine zt_i hG cut5 (zx_V (k := 0) (ci := 7) (n := 2) (As := [.int x0, .int x1]) (rest := [.int 0, .ref o]) hC hG hE hT cut5 (z_142_draft l hst D κ E0 H.size a x0 x1 ⟨by omega, by omega⟩ ⟨by omega, by omega⟩) rfl rfl w407 w2 w410 w408 w409 (by decide +kernel) ⟨Nat.le_of_ble_eq_true rfl, Nat.le_of_ble_eq_true rfl⟩ rfl hl.1 rfl (Nat.le_of_ble_eq_true rfl) dL_draft_5 ⟨Nat.le_of_ble_eq_true rfl, Nat.le_of_ble_eq_true rfl⟩) (fun ce q9 H locs hG hz1 hz2 hz3 => ?_)
  refine vx_catch (own := RL) (name := "java/lang/IllegalArgumentException") (E := "java/lang/IllegalArgumentException") hC.2.2.2.1 [] ⟨0, 10, 13, 13⟩ [] htab (fun z hz => by simp at hz) (by decide) (by decide) (hC.2.2.2.2 _ w145) (va_Nw.use rfl (hT.1 ("java/lang/IllegalArgumentException", "java/lang/IllegalArgumentException") (by decide))) hz1 hz2 hz3 ?_
  refine lv_astore (lv' := [(4, .ref q9), (0, .ref (a 0)), (1, .int x0), (2, .int x1), (3, .ref o)]) hx hb dL_draft_13 hl (by decide) rfl (fun ls hl => ?_)
  refine lv_iconst (v := 1) hx hb dL_draft_15 (by decide) ?_
  exact ze_i (qs := fun _ => 0) hC hG rfl rfl hr rfl hk (Nat.le_of_ble_eq_true rfl) (Nat.le_of_ble_eq_true rfl) dL_draft_16
