set_option maxHeartbeats 4000000 in
set_option maxRecDepth 100000 in
theorem z_216_many (l : Launch) (hst : l.stackTraces = false) (D : va_G) (κ : K4) (E0 : Nat) (sz : Nat) (b : Nat → Nat) : NM l yX14_many cX14_many 2 (some .int) 2 44 1 6 E0 D κ (mw κ b E0 0) sz [.ref (b 0), .int 5] (QI D κ (mw κ b E0 0) sz (-1) (fun qs : W1 => mw κ b E0 0)) := by
  refine NM.of (by decide +kernel) (Nat.le_of_ble_eq_true rfl) ?_
  intro p e s m below meth c ls hC hr hk hin hsz hE hT H locs hG hl
  have hx := hC.1
  have hb := hC.2.1
  have hl : lv_has ls 2 [(0, .ref (b 0)), (1, .int 5)] := hl
  refine lv_aload_n hx hb dX14_many_0 rfl (lv_at hl 0 rfl) ?_
  refine lv_iload_n hx hb dX14_many_1 rfl (lv_at hl 1 rfl) ?_
  refine lv_iconst (v := 0) hx hb dX14_many_2 (by decide) ?_
  refine lv_iconst (v := 5) hx hb dX14_many_3 (by decide) ?_
  have cut4 : Cut (mw κ b E0 0) (mw κ b E0 0) ([]) := (Cut.all 9 rfl (by decide))
  refine zc_i hG cut4 (zr_S (n := 3) (As := [.int 5, .int 0, .int 5]) (rest := [.ref (b 0)]) hC hG hE hT cut4 (z_214_isIn l hst D κ E0 H.size b) w167 w5 w169 w168 (by decide +kernel) ⟨Nat.le_of_ble_eq_true rfl, Nat.le_of_ble_eq_true rfl⟩ rfl hl.1 rfl (Nat.le_of_ble_eq_true rfl) dX14_many_4 ⟨Nat.le_of_ble_eq_true rfl, Nat.le_of_ble_eq_true rfl⟩) (fun z1 H locs hG => ?_)
  have hG : BW D κ (mw κ b E0 0) _ s H locs := hG
  refine lv_if_ne (tgt := 14) hx hb dX14_many_7 (by decide) (fun _ => ?_) (fun h7 => absurd h7 (by decide))
  refine lv_iconst (v := 0) hx hb dX14_many_14 (by decide) ?_
  refine lv_iconst (v := 1) hx hb dX14_many_15 (by decide) ?_
  have cut16 : Cut (mw κ b E0 0) (mw κ b E0 0) ([]) := (Cut.all 9 rfl (by decide))
  refine zc_i hG cut16 (zr_V (k := 0) (ci := 9) (n := 2) (As := [.int 0, .int 1]) (rest := []) hC hG hE hT cut16 (z_25_start l hst D κ E0 H.size b) rfl rfl w170 w5 w173 w171 w172 (by decide +kernel) ⟨Nat.le_of_ble_eq_true rfl, Nat.le_of_ble_eq_true rfl⟩ rfl hl.1 rfl (Nat.le_of_ble_eq_true rfl) dX14_many_16 ⟨Nat.le_of_ble_eq_true rfl, Nat.le_of_ble_eq_true rfl⟩) (fun z2 H locs hG => ?_)
  have hG : BW D κ (mw κ b E0 0) _ s H locs := hG
  refine lv_if_eq (tgt := 26) hx hb dX14_many_19 (by decide) (fun _ => ?_) (fun h19 => absurd (by decide) h19)
  refine lv_aload_n hx hb dX14_many_26 rfl (lv_at hl 0 rfl) ?_
  refine lv_iload_n hx hb dX14_many_27 rfl (lv_at hl 1 rfl) ?_
  have cut28 : Cut (mw κ b E0 0) (mw κ b E0 0) ([]) := (Cut.all 9 rfl (by decide))
  refine zc_i hG cut28 (zr_V (k := 0) (ci := 9) (n := 1) (As := [.int 5]) (rest := []) hC hG hE hT cut28 (z_215_count l hst D κ E0 H.size b) rfl rfl w1074 w5 w1077 w1075 w1076 (by decide +kernel) ⟨Nat.le_of_ble_eq_true rfl, Nat.le_of_ble_eq_true rfl⟩ rfl hl.1 rfl (Nat.le_of_ble_eq_true rfl) dX14_many_28 ⟨Nat.le_of_ble_eq_true rfl, Nat.le_of_ble_eq_true rfl⟩) (fun z3 H locs hG => ?_)
  have hG : BW D κ (mw κ b E0 0) _ s H locs := hG
  exact ze_i (qs := fun _ => 0) hC hG rfl rfl hr rfl hk (Nat.le_of_ble_eq_true rfl) (Nat.le_of_ble_eq_true rfl) dX14_many_31
theorem dX7_ofKind_0 : decode cX7_ofKind 0 = .ok (.iload_n 1, 1) := by decide +kernel
theorem dX7_ofKind_1 : decode cX7_ofKind 1 = .ok (.ifCond .lt 8, 3) := by decide +kernel
theorem dX7_ofKind_12 : decode cX7_ofKind 12 = .ok (.dup, 1) := by decide +kernel
theorem dX7_ofKind_13 : decode cX7_ofKind 13 = .ok (.ldc_w 351, 3) := by decide +kernel
theorem dX7_ofKind_16 : decode cX7_ofKind 16 = .ok (.invokespecial 75, 3) := by decide +kernel
theorem dX7_ofKind_19 : decode cX7_ofKind 19 = .ok (.athrow, 1) := by decide +kernel
theorem dX7_ofKind_9 : decode cX7_ofKind 9 = .ok (.new 71, 3) := by decide +kernel
set_option maxHeartbeats 4000000 in
set_option maxRecDepth 100000 in
theorem z_217_ofKind (l : Launch) (hst : l.stackTraces = false) (D : va_G) (κ : K4) (E0 : Nat) (sz : Nat) (a : Nat → Nat) (x0 : Int32) (k_x0 : -2147483648 ≤ x0.toInt ∧ x0.toInt ≤ -1) : XM l yX7_ofKind cX7_ofKind 5 (some .long) 6 82 1 6 E0 D κ (xw κ a) sz [.ref (a 0), .int x0] "java/lang/IllegalArgumentException" (NL (xw κ a) sz) := by
  refine XM.of (by decide +kernel) (Nat.le_of_ble_eq_true rfl) ?_
  intro p e s m below meth c ls hC hk hno hsz hE hT H locs hG hl
  have hx := hC.1
  have hb := hC.2.1
  have hl : lv_has ls 5 [(0, .ref (a 0)), (1, .int x0)] := hl
  refine lv_iload_n hx hb dX7_ofKind_0 rfl (lv_at hl 1 rfl) ?_
  refine lv_if_lt (tgt := 9) hx hb dX7_ofKind_1 (by decide) (fun _ => ?_) (fun h1 => absurd (Int32.lt_iff_toInt_lt.mpr (by have e1 : (0 : Int32).toInt = 0 := (by decide); omega)) h1)
  exact th_IAW hC hst hE hT hno hk hG hl.1 (List.mem_of_getElem? (i := 7) rfl) w150 w151 dX7_ofKind_9 dX7_ofKind_12 dX7_ofKind_13 dX7_ofKind_16 dX7_ofKind_19 (Nat.le_of_ble_eq_true rfl) (Nat.le_of_ble_eq_true rfl) (Nat.le_of_ble_eq_true rfl) (Nat.le_of_ble_eq_true rfl) (Nat.le_of_ble_eq_true rfl) (Nat.le_of_ble_eq_true rfl)
theorem dL_ofKind_0 : decode cL_ofKind 0 = .ok (.aload_n 2, 1) := by decide +kernel
theorem dL_ofKind_1 : decode cL_ofKind 1 = .ok (.iconst 0, 1) := by decide +kernel
theorem dL_ofKind_11 : decode cL_ofKind 11 = .ok (.astore_n 3, 1) := by decide +kernel
theorem dL_ofKind_12 : decode cL_ofKind 12 = .ok (.iconst 1, 1) := by decide +kernel
theorem dL_ofKind_13 : decode cL_ofKind 13 = .ok (.ireturn, 1) := by decide +kernel
theorem dL_ofKind_2 : decode cL_ofKind 2 = .ok (.aload_n 0, 1) := by decide +kernel
theorem dL_ofKind_3 : decode cL_ofKind 3 = .ok (.iload_n 1, 1) := by decide +kernel
theorem dL_ofKind_4 : decode cL_ofKind 4 = .ok (.invokevirtual 90, 3) := by decide +kernel
set_option maxHeartbeats 4000000 in
set_option maxRecDepth 100000 in
theorem z_218_ofKind (l : Launch) (hst : l.stackTraces = false) (D : va_G) (κ : K4) (E0 : Nat) (sz : Nat) (a : Nat → Nat) (x0 : Int32) (o : Nat) (k_x0 : -2147483648 ≤ x0.toInt ∧ x0.toInt ≤ -1) : NH l yL_ofKind cL_ofKind 4 (some .int) [(0, 8, 11, 13)] 7 106 1 6 E0 D κ (xw κ a ++ [(o, .inl (κ.2.1, 1, .inr (.inl (fun _ => 0))))]) sz [.ref (a 0), .int x0, .ref o] (QI D κ (xw κ a ++ [(o, .inl (κ.2.1, 1, .inr (.inl (fun _ => 0))))]) sz 1 (fun qs : W1 => [(o, .inl (κ.2.1, 1, .inr (.inl (fun _ => 0))))])) := by
  refine NH.of (by decide +kernel) (Nat.le_of_ble_eq_true rfl) ?_
  intro p e s m below meth c ls hC hr hk htab hsz hE hT H locs hG hl
  have hx := hC.1
  have hb := hC.2.1
  have hl : lv_has ls 4 [(0, .ref (a 0)), (1, .int x0), (2, .ref o)] := hl
  refine lv_aload_n hx hb dL_ofKind_0 rfl (lv_at hl 2 rfl) ?_
  refine lv_iconst (v := 0) hx hb dL_ofKind_1 (by decide) ?_
  refine lv_aload_n hx hb dL_ofKind_2 rfl (lv_at hl 0 rfl) ?_
  refine lv_iload_n hx hb dL_ofKind_3 rfl (lv_at hl 1 rfl) ?_
  have cut4 : Cut (xw κ a ++ [(o, .inl (κ.2.1, 1, .inr (.inl (fun _ => 0))))]) (xw κ a) ([(o, .inl (κ.2.1, 1, .inr (.inl (fun _ => 0))))]) := (Cut.one 45 rfl (by decide))
  refine zt_l hG cut4 (zx_V (k := 0) (ci := 7) (n := 1) (As := [.int x0]) (rest := [.int 0, .ref o]) hC hG hE hT cut4 (z_217_ofKind l hst D κ E0 H.size a x0 ⟨by omega, by omega⟩) rfl rfl w1118 w2 w1121 w1119 w1120 (by decide +kernel) ⟨Nat.le_of_ble_eq_true rfl, Nat.le_of_ble_eq_true rfl⟩ rfl hl.1 rfl (Nat.le_of_ble_eq_true rfl) dL_ofKind_4 ⟨Nat.le_of_ble_eq_true rfl, Nat.le_of_ble_eq_true rfl⟩) (fun ce q9 H locs hG hz1 hz2 hz3 => ?_)
  refine vx_catch (own := RL) (name := "java/lang/IllegalArgumentException") (E := "java/lang/IllegalArgumentException") hC.2.2.2.1 [] ⟨0, 8, 11, 13⟩ [] htab (fun z hz => by simp at hz) (by decide) (by decide) (hC.2.2.2.2 _ w145) (va_Nw.use rfl (hT.1 ("java/lang/IllegalArgumentException", "java/lang/IllegalArgumentException") (by decide))) hz1 hz2 hz3 ?_
  refine lv_astore_n (lv' := [(3, .ref q9), (0, .ref (a 0)), (1, .int x0), (2, .ref o)]) hx hb dL_ofKind_11 rfl hl (by decide) rfl (fun ls hl => ?_)
  refine lv_iconst (v := 1) hx hb dL_ofKind_12 (by decide) ?_
  exact ze_i (qs := fun _ => 0) hC hG rfl rfl hr rfl hk (Nat.le_of_ble_eq_true rfl) (Nat.le_of_ble_eq_true rfl) dL_ofKind_13
theorem dX14_ofKind_0 : decode cX14_ofKind 0 = .ok (.aload_n 0, 1) := by decide +kernel
theorem dX14_ofKind_1 : decode cX14_ofKind 1 = .ok (.iload_n 1, 1) := by decide +kernel
theorem dX14_ofKind_10 : decode cX14_ofKind 10 = .ok (.iconst 1, 1) := by decide +kernel
theorem dX14_ofKind_11 : decode cX14_ofKind 11 = .ok (.goto 4, 3) := by decide +kernel
theorem dX14_ofKind_15 : decode cX14_ofKind 15 = .ok (.iconst 1, 1) := by decide +kernel
theorem dX14_ofKind_16 : decode cX14_ofKind 16 = .ok (.invokevirtual 61, 3) := by decide +kernel
theorem dX14_ofKind_19 : decode cX14_ofKind 19 = .ok (.ifCond .eq 7, 3) := by decide +kernel
theorem dX14_ofKind_2 : decode cX14_ofKind 2 = .ok (.iconst 0, 1) := by decide +kernel
theorem dX14_ofKind_22 : decode cX14_ofKind 22 = .ok (.lconst 0, 1) := by decide +kernel
theorem dX14_ofKind_23 : decode cX14_ofKind 23 = .ok (.goto 8, 3) := by decide +kernel
theorem dX14_ofKind_3 : decode cX14_ofKind 3 = .ok (.iconst 4, 1) := by decide +kernel
theorem dX14_ofKind_31 : decode cX14_ofKind 31 = .ok (.lreturn, 1) := by decide +kernel
theorem dX14_ofKind_4 : decode cX14_ofKind 4 = .ok (.invokestatic 53, 3) := by decide +kernel
theorem dX14_ofKind_7 : decode cX14_ofKind 7 = .ok (.ifCond .ne 7, 3) := by decide +kernel
set_option maxHeartbeats 4000000 in
set_option maxRecDepth 100000 in
theorem z_219_ofKind (l : Launch) (hst : l.stackTraces = false) (D : va_G) (κ : K4) (E0 : Nat) (sz : Nat) (b : Nat → Nat) (x0 : Int32) (k_x0 : -2147483648 ≤ x0.toInt ∧ x0.toInt ≤ -1) : NM l yX14_ofKind cX14_ofKind 2 (some .long) 2 44 0 0 E0 D κ (mw κ b E0 0) sz [.ref (b 0), .int x0] (QL D κ (mw κ b E0 0) sz 0 (fun qs : W1 => mw κ b E0 1)) := by
  refine NM.of (by decide +kernel) (Nat.le_of_ble_eq_true rfl) ?_
  intro p e s m below meth c ls hC hr hk hin hsz hE hT H locs hG hl
  have hx := hC.1
  have hb := hC.2.1
  have hl : lv_has ls 2 [(0, .ref (b 0)), (1, .int x0)] := hl
  refine lv_aload_n hx hb dX14_ofKind_0 rfl (lv_at hl 0 rfl) ?_
  refine lv_iload_n hx hb dX14_ofKind_1 rfl (lv_at hl 1 rfl) ?_
  refine lv_iconst (v := 0) hx hb dX14_ofKind_2 (by decide) ?_
  refine lv_iconst (v := 4) hx hb dX14_ofKind_3 (by decide) ?_
  have cut4 : Cut (mw κ b E0 0) (mw κ b E0 0) ([]) := (Cut.all 9 rfl (by decide))
  refine zc_i hG cut4 (zr_S (n := 3) (As := [.int x0, .int 0, .int 4]) (rest := [.ref (b 0)]) hC hG hE hT cut4 (z_32_isIn l hst D κ E0 H.size b x0 ⟨by omega, by omega⟩) w167 w5 w169 w168 (by decide +kernel) ⟨Nat.le_of_ble_eq_true rfl, Nat.le_of_ble_eq_true rfl⟩ rfl hl.1 rfl (Nat.le_of_ble_eq_true rfl) dX14_ofKind_4 ⟨Nat.le_of_ble_eq_true rfl, Nat.le_of_ble_eq_true rfl⟩) (fun z1 H locs hG => ?_)
  have hG : BW D κ (mw κ b E0 0) _ s H locs := hG
  refine lv_if_ne (tgt := 14) hx hb dX14_ofKind_7 (by decide) (fun h7 => absurd (by decide) h7) (fun _ => ?_)
  refine lv_iconst (v := 1) hx hb dX14_ofKind_10 (by decide) ?_
  refine lv_goto (tgt := 15) hx hb dX14_ofKind_11 (by decide) ?_
  refine lv_iconst (v := 1) hx hb dX14_ofKind_15 (by decide) ?_
  have cut16 : Cut (mw κ b E0 0) (mw κ b E0 0) ([]) := (Cut.all 9 rfl (by decide))
  refine zc_i hG cut16 (zr_V (k := 0) (ci := 9) (n := 2) (As := [.int 1, .int 1]) (rest := []) hC hG hE hT cut16 (z_4_start l hst D κ E0 H.size b) rfl rfl w170 w5 w173 w171 w172 (by decide +kernel) ⟨Nat.le_of_ble_eq_true rfl, Nat.le_of_ble_eq_true rfl⟩ rfl hl.1 rfl (Nat.le_of_ble_eq_true rfl) dX14_ofKind_16 ⟨Nat.le_of_ble_eq_true rfl, Nat.le_of_ble_eq_true rfl⟩) (fun z2 H locs hG => ?_)
  have hG : BW D κ (mw κ b E0 1) _ s H locs := hG
  refine lv_if_eq (tgt := 26) hx hb dX14_ofKind_19 (by decide) (fun h19 => absurd h19 (by decide)) (fun _ => ?_)
  refine lv_lconst (v := 0) hx hb dX14_ofKind_22 (by decide) ?_
  refine lv_goto (tgt := 31) hx hb dX14_ofKind_23 (by decide) ?_
  exact ze_l (qs := fun _ => 0) hC hG rfl rfl hr hk (Nat.le_of_ble_eq_true rfl) (Nat.le_of_ble_eq_true rfl) dX14_ofKind_31
theorem dX7_ofKind_4 : decode cX7_ofKind 4 = .ok (.iload_n 1, 1) := by decide +kernel
theorem dX7_ofKind_5 : decode cX7_ofKind 5 = .ok (.iconst 4, 1) := by decide +kernel
theorem dX7_ofKind_6 : decode cX7_ofKind 6 = .ok (.if_icmp .le 14, 3) := by decide +kernel
set_option maxHeartbeats 4000000 in
set_option maxRecDepth 100000 in
theorem z_220_ofKind (l : Launch) (hst : l.stackTraces = false) (D : va_G) (κ : K4) (E0 : Nat) (sz : Nat) (a : Nat → Nat) (x0 : Int32) (k_x0 : 5 ≤ x0.toInt ∧ x0.toInt ≤ 2147483647) : XM l yX7_ofKind cX7_ofKind 5 (some .long) 6 82 1 6 E0 D κ (xw κ a) sz [.ref (a 0), .int x0] "java/lang/IllegalArgumentException" (NL (xw κ a) sz) := by
  refine XM.of (by decide +kernel) (Nat.le_of_ble_eq_true rfl) ?_
  intro p e s m below meth c ls hC hk hno hsz hE hT H locs hG hl
  have hx := hC.1
  have hb := hC.2.1
  have hl : lv_has ls 5 [(0, .ref (a 0)), (1, .int x0)] := hl
  refine lv_iload_n hx hb dX7_ofKind_0 rfl (lv_at hl 1 rfl) ?_
  refine lv_if_lt (tgt := 9) hx hb dX7_ofKind_1 (by decide) (fun h1 => absurd h1 (mt Int32.lt_iff_toInt_lt.mp (by have e1 : (0 : Int32).toInt = 0 := (by decide); omega))) (fun _ => ?_)
  refine lv_iload_n hx hb dX7_ofKind_4 rfl (lv_at hl 1 rfl) ?_
  refine lv_iconst (v := 4) hx hb dX7_ofKind_5 (by decide) ?_
  refine lv_icmp_le (tgt := 20) hx hb dX7_ofKind_6 (by decide) (fun h6 => absurd h6 (mt Int32.le_iff_toInt_le.mp (by have e0 : (4 : Int32).toInt = 4 := (by decide); omega))) (fun _ => ?_)
  exact th_IAW hC hst hE hT hno hk hG hl.1 (List.mem_of_getElem? (i := 7) rfl) w150 w151 dX7_ofKind_9 dX7_ofKind_12 dX7_ofKind_13 dX7_ofKind_16 dX7_ofKind_19 (Nat.le_of_ble_eq_true rfl) (Nat.le_of_ble_eq_true rfl) (Nat.le_of_ble_eq_true rfl) (Nat.le_of_ble_eq_true rfl) (Nat.le_of_ble_eq_true rfl) (Nat.le_of_ble_eq_true rfl)
set_option maxHeartbeats 4000000 in
set_option maxRecDepth 100000 in
theorem z_221_ofKind (l : Launch) (hst : l.stackTraces = false) (D : va_G) (κ : K4) (E0 : Nat) (sz : Nat) (a : Nat → Nat) (x0 : Int32) (o : Nat) (k_x0 : 5 ≤ x0.toInt ∧ x0.toInt ≤ 2147483647) : NH l yL_ofKind cL_ofKind 4 (some .int) [(0, 8, 11, 13)] 7 106 1 6 E0 D κ (xw κ a ++ [(o, .inl (κ.2.1, 1, .inr (.inl (fun _ => 0))))]) sz [.ref (a 0), .int x0, .ref o] (QI D κ (xw κ a ++ [(o, .inl (κ.2.1, 1, .inr (.inl (fun _ => 0))))]) sz 1 (fun qs : W1 => [(o, .inl (κ.2.1, 1, .inr (.inl (fun _ => 0))))])) := by
  refine NH.of (by decide +kernel) (Nat.le_of_ble_eq_true rfl) ?_
  intro p e s m below meth c ls hC hr hk htab hsz hE hT H locs hG hl
  have hx := hC.1
  have hb := hC.2.1
  have hl : lv_has ls 4 [(0, .ref (a 0)), (1, .int x0), (2, .ref o)] := hl
  refine lv_aload_n hx hb dL_ofKind_0 rfl (lv_at hl 2 rfl) ?_
  refine lv_iconst (v := 0) hx hb dL_ofKind_1 (by decide) ?_
  refine lv_aload_n hx hb dL_ofKind_2 rfl (lv_at hl 0 rfl) ?_
  refine lv_iload_n hx hb dL_ofKind_3 rfl (lv_at hl 1 rfl) ?_
  have cut4 : Cut (xw κ a ++ [(o, .inl (κ.2.1, 1, .inr (.inl (fun _ => 0))))]) (xw κ a) ([(o, .inl (κ.2.1, 1, .inr (.inl (fun _ => 0))))]) := (Cut.one 45 rfl (by decide))
  refine zt_l hG cut4 (zx_V (k := 0) (ci := 7) (n := 1) (As := [.int x0]) (rest := [.int 0, .ref o]) hC hG hE hT cut4 (z_220_ofKind l hst D κ E0 H.size a x0 ⟨by omega, by omega⟩) rfl rfl w1118 w2 w1121 w1119 w1120 (by decide +kernel) ⟨Nat.le_of_ble_eq_true rfl, Nat.le_of_ble_eq_true rfl⟩ rfl hl.1 rfl (Nat.le_of_ble_eq_true rfl) dL_ofKind_4 ⟨Nat.le_of_ble_eq_true rfl, Nat.le_of_ble_eq_true rfl⟩) (fun ce q9 H locs hG hz1 hz2 hz3 => ?_)
  refine vx_catch (own := RL) (name := "java/lang/IllegalArgumentException") (E := "java/lang/IllegalArgumentException") hC.2.2.2.1 [] ⟨0, 8, 11, 13⟩ [] htab (fun z hz => by simp at hz) (by decide) (by decide) (hC.2.2.2.2 _ w145) (va_Nw.use rfl (hT.1 ("java/lang/IllegalArgumentException", "java/lang/IllegalArgumentException") (by decide))) hz1 hz2 hz3 ?_
  refine lv_astore_n (lv' := [(3, .ref q9), (0, .ref (a 0)), (1, .int x0), (2, .ref o)]) hx hb dL_ofKind_11 rfl hl (by decide) rfl (fun ls hl => ?_)
  refine lv_iconst (v := 1) hx hb dL_ofKind_12 (by decide) ?_
  exact ze_i (qs := fun _ => 0) hC hG rfl rfl hr rfl hk (Nat.le_of_ble_eq_true rfl) (Nat.le_of_ble_eq_true rfl) dL_ofKind_13
set_option maxHeartbeats 4000000 in
set_option maxRecDepth 100000 in
theorem z_222_ofKind (l : Launch) (hst : l.stackTraces = false) (D : va_G) (κ : K4) (E0 : Nat) (sz : Nat) (b : Nat → Nat) (x0 : Int32) (k_x0 : 5 ≤ x0.toInt ∧ x0.toInt ≤ 2147483647) : NM l yX14_ofKind cX14_ofKind 2 (some .long) 2 44 0 0 E0 D κ (mw κ b E0 0) sz [.ref (b 0), .int x0] (QL D κ (mw κ b E0 0) sz 0 (fun qs : W1 => mw κ b E0 1)) := by
  refine NM.of (by decide +kernel) (Nat.le_of_ble_eq_true rfl) ?_
  intro p e s m below meth c ls hC hr hk hin hsz hE hT H locs hG hl
  have hx := hC.1
  have hb := hC.2.1
  have hl : lv_has ls 2 [(0, .ref (b 0)), (1, .int x0)] := hl
  refine lv_aload_n hx hb dX14_ofKind_0 rfl (lv_at hl 0 rfl) ?_
  refine lv_iload_n hx hb dX14_ofKind_1 rfl (lv_at hl 1 rfl) ?_
  refine lv_iconst (v := 0) hx hb dX14_ofKind_2 (by decide) ?_
  refine lv_iconst (v := 4) hx hb dX14_ofKind_3 (by decide) ?_
  have cut4 : Cut (mw κ b E0 0) (mw κ b E0 0) ([]) := (Cut.all 9 rfl (by decide))
  refine zc_i hG cut4 (zr_S (n := 3) (As := [.int x0, .int 0, .int 4]) (rest := [.ref (b 0)]) hC hG hE hT cut4 (z_36_isIn l hst D κ E0 H.size b x0 ⟨by omega, by omega⟩) w167 w5 w169 w168 (by decide +kernel) ⟨Nat.le_of_ble_eq_true rfl, Nat.le_of_ble_eq_true rfl⟩ rfl hl.1 rfl (Nat.le_of_ble_eq_true rfl) dX14_ofKind_4 ⟨Nat.le_of_ble_eq_true rfl, Nat.le_of_ble_eq_true rfl⟩) (fun z1 H locs hG => ?_)
  have hG : BW D κ (mw κ b E0 0) _ s H locs := hG
  refine lv_if_ne (tgt := 14) hx hb dX14_ofKind_7 (by decide) (fun h7 => absurd (by decide) h7) (fun _ => ?_)
  refine lv_iconst (v := 1) hx hb dX14_ofKind_10 (by decide) ?_
  refine lv_goto (tgt := 15) hx hb dX14_ofKind_11 (by decide) ?_
  refine lv_iconst (v := 1) hx hb dX14_ofKind_15 (by decide) ?_
  have cut16 : Cut (mw κ b E0 0) (mw κ b E0 0) ([]) := (Cut.all 9 rfl (by decide))
  refine zc_i hG cut16 (zr_V (k := 0) (ci := 9) (n := 2) (As := [.int 1, .int 1]) (rest := []) hC hG hE hT cut16 (z_4_start l hst D κ E0 H.size b) rfl rfl w170 w5 w173 w171 w172 (by decide +kernel) ⟨Nat.le_of_ble_eq_true rfl, Nat.le_of_ble_eq_true rfl⟩ rfl hl.1 rfl (Nat.le_of_ble_eq_true rfl) dX14_ofKind_16 ⟨Nat.le_of_ble_eq_true rfl, Nat.le_of_ble_eq_true rfl⟩) (fun z2 H locs hG => ?_)
  have hG : BW D κ (mw κ b E0 1) _ s H locs := hG
  refine lv_if_eq (tgt := 26) hx hb dX14_ofKind_19 (by decide) (fun h19 => absurd h19 (by decide)) (fun _ => ?_)
  refine lv_lconst (v := 0) hx hb dX14_ofKind_22 (by decide) ?_
  refine lv_goto (tgt := 31) hx hb dX14_ofKind_23 (by decide) ?_
  exact ze_l (qs := fun _ => 0) hC hG rfl rfl hr hk (Nat.le_of_ble_eq_true rfl) (Nat.le_of_ble_eq_true rfl) dX14_ofKind_31
theorem dX7_ofKind_20 : decode cX7_ofKind 20 = .ok (.lconst 0, 1) := by decide +kernel
theorem dX7_ofKind_21 : decode cX7_ofKind 21 = .ok (.lstore_n 2, 1) := by decide +kernel
theorem dX7_ofKind_22 : decode cX7_ofKind 22 = .ok (.iconst 0, 1) := by decide +kernel
theorem dX7_ofKind_23 : decode cX7_ofKind 23 = .ok (.istore 4, 2) := by decide +kernel
theorem dX7_ofKind_25 : decode cX7_ofKind 25 = .ok (.iload 4, 2) := by decide +kernel
theorem dX7_ofKind_27 : decode cX7_ofKind 27 = .ok (.aload_n 0, 1) := by decide +kernel
theorem dX7_ofKind_28 : decode cX7_ofKind 28 = .ok (.getfield 12, 3) := by decide +kernel
theorem dX7_ofKind_31 : decode cX7_ofKind 31 = .ok (.getfield 93, 3) := by decide +kernel
theorem dX7_ofKind_34 : decode cX7_ofKind 34 = .ok (.if_icmp .ge 35, 3) := by decide +kernel
theorem dX7_ofKind_69 : decode cX7_ofKind 69 = .ok (.lload_n 2, 1) := by decide +kernel
theorem dX7_ofKind_70 : decode cX7_ofKind 70 = .ok (.lreturn, 1) := by decide +kernel
set_option maxHeartbeats 4000000 in
set_option maxRecDepth 100000 in
theorem z_223_ofKind (l : Launch) (hst : l.stackTraces = false) (D : va_G) (κ : K4) (E0 : Nat) (sz : Nat) (a : Nat → Nat) (x0 : Int32) (k_x0 : 0 ≤ x0.toInt ∧ x0.toInt ≤ 4) : NM l yX7_ofKind cX7_ofKind 5 (some .long) 0 0 0 0 E0 D κ (xw κ a) sz [.ref (a 0), .int x0] (QL D κ (xw κ a) sz 0 (fun qs : W1 => xw κ a)) := by
  refine NM.of (by decide +kernel) (Nat.le_of_ble_eq_true rfl) ?_
  intro p e s m below meth c ls hC hr hk hin hsz hE hT H locs hG hl
  have hx := hC.1
  have hb := hC.2.1
  have hl : lv_has ls 5 [(0, .ref (a 0)), (1, .int x0)] := hl
  refine lv_iload_n hx hb dX7_ofKind_0 rfl (lv_at hl 1 rfl) ?_
  refine lv_if_lt (tgt := 9) hx hb dX7_ofKind_1 (by decide) (fun h1 => absurd h1 (mt Int32.lt_iff_toInt_lt.mp (by have e1 : (0 : Int32).toInt = 0 := (by decide); omega))) (fun _ => ?_)
  refine lv_iload_n hx hb dX7_ofKind_4 rfl (lv_at hl 1 rfl) ?_
  refine lv_iconst (v := 4) hx hb dX7_ofKind_5 (by decide) ?_
  refine lv_icmp_le (tgt := 20) hx hb dX7_ofKind_6 (by decide) (fun _ => ?_) (fun h6 => absurd (Int32.le_iff_toInt_le.mpr (by have e0 : (4 : Int32).toInt = 4 := (by decide); omega)) h6)
  refine lv_lconst (v := 0) hx hb dX7_ofKind_20 (by decide) ?_
  refine lv_lstore_n (lv' := [(2, .long 0), (0, .ref (a 0)), (1, .int x0)]) hx hb dX7_ofKind_21 rfl hl (by decide) rfl (fun ls hl => ?_)
  refine lv_iconst (v := 0) hx hb dX7_ofKind_22 (by decide) ?_
  refine lv_istore (lv' := [(4, .int 0), (2, .long 0), (0, .ref (a 0)), (1, .int x0)]) hx hb dX7_ofKind_23 hl (by decide) rfl (fun ls hl => ?_)
  refine lv_iload hx hb dX7_ofKind_25 (lv_at hl 0 rfl) ?_
  refine lv_aload_n hx hb dX7_ofKind_27 rfl (lv_at hl 2 rfl) ?_
  refine bw_get (C := RX7) (T := TX7) (N := 10) (ci := 7) (v := .ref (a 1)) 0 (by decide) 0 hC hG iwX7 (xw_0 κ a) rfl w16 rfl rfl dX7_ofKind_28 ?_
  refine bw_get (C := RX0) (T := TX0) (N := 6) (ci := 0) (v := .int 0) 5 (by decide) 1 hC hG iwX0 (xw_1 κ a) rfl w211 rfl rfl dX7_ofKind_31 ?_
  refine lv_icmp_ge (tgt := 69) hx hb dX7_ofKind_34 (by decide) (fun _ => ?_) (fun h34 => absurd (by decide) h34)
  refine lv_lload_n hx hb dX7_ofKind_69 rfl (lv_at hl 1 rfl) ?_
  exact ze_l (qs := fun _ => 0) hC hG rfl rfl hr hk (Nat.le_of_ble_eq_true rfl) (Nat.le_of_ble_eq_true rfl) dX7_ofKind_70
theorem dL_ofKind_14 : decode cL_ofKind 14 = .ok (.iconst 0, 1) := by decide +kernel
theorem dL_ofKind_15 : decode cL_ofKind 15 = .ok (.ireturn, 1) := by decide +kernel
theorem dL_ofKind_7 : decode cL_ofKind 7 = .ok (.lastore, 1) := by decide +kernel
theorem dL_ofKind_8 : decode cL_ofKind 8 = .ok (.goto 6, 3) := by decide +kernel
set_option maxHeartbeats 4000000 in
set_option maxRecDepth 100000 in
theorem z_224_ofKind (l : Launch) (hst : l.stackTraces = false) (D : va_G) (κ : K4) (E0 : Nat) (sz : Nat) (a : Nat → Nat) (x0 : Int32) (o : Nat) (k_x0 : 0 ≤ x0.toInt ∧ x0.toInt ≤ 4) : NH l yL_ofKind cL_ofKind 4 (some .int) [(0, 8, 11, 13)] 1 24 0 0 E0 D κ (xw κ a ++ [(o, .inl (κ.2.1, 1, .inr (.inl (fun _ => 0))))]) sz [.ref (a 0), .int x0, .ref o] (QI D κ (xw κ a ++ [(o, .inl (κ.2.1, 1, .inr (.inl (fun _ => 0))))]) sz 0 (fun qs : W1 => [(o, .inl (κ.2.1, 1, .inr (.inl (va_up (fun _ => 0) ((0 : Int32).toNatClampNeg) 0))))])) := by
  refine NH.of (by decide +kernel) (Nat.le_of_ble_eq_true rfl) ?_
  intro p e s m below meth c ls hC hr hk htab hsz hE hT H locs hG hl
  have hx := hC.1
  have hb := hC.2.1
  have hl : lv_has ls 4 [(0, .ref (a 0)), (1, .int x0), (2, .ref o)] := hl
  refine lv_aload_n hx hb dL_ofKind_0 rfl (lv_at hl 2 rfl) ?_
  refine lv_iconst (v := 0) hx hb dL_ofKind_1 (by decide) ?_
  refine lv_aload_n hx hb dL_ofKind_2 rfl (lv_at hl 0 rfl) ?_
  refine lv_iload_n hx hb dL_ofKind_3 rfl (lv_at hl 1 rfl) ?_
  have cut4 : Cut (xw κ a ++ [(o, .inl (κ.2.1, 1, .inr (.inl (fun _ => 0))))]) (xw κ a) ([(o, .inl (κ.2.1, 1, .inr (.inl (fun _ => 0))))]) := (Cut.one 45 rfl (by decide))
  refine zc_l hG cut4 (zr_V (k := 0) (ci := 7) (n := 1) (As := [.int x0]) (rest := [.int 0, .ref o]) hC hG hE hT cut4 (z_223_ofKind l hst D κ E0 H.size a x0 ⟨by omega, by omega⟩) rfl rfl w1118 w2 w1121 w1119 w1120 (by decide +kernel) ⟨Nat.le_of_ble_eq_true rfl, Nat.le_of_ble_eq_true rfl⟩ rfl hl.1 rfl (Nat.le_of_ble_eq_true rfl) dL_ofKind_4 ⟨Nat.le_of_ble_eq_true rfl, Nat.le_of_ble_eq_true rfl⟩) (fun z1 H locs hG => ?_)
  have hG : BW D κ (([(o, .inl (κ.2.1, 1, .inr (.inl (fun _ => 0))))]) ++ (xw κ a)) _ s H locs := hG
  refine zs_lst 0 hC hG rfl (vp_box (by have e0 : (0 : Int32).toInt = 0 := (by decide); omega) (by have e0 : (0 : Int32).toInt = 0 := (by decide); omega)) dL_ofKind_7 (fun H locs hG => ?_)
  have hG : BW D κ ((([(o, .inl (κ.2.1, 1, .inr (.inl (fun _ => 0))))]) ++ (xw κ a) : va_W).set 0 (o, .inl (κ.2.1, 1, .inr (.inl (va_up (fun _ => 0) ((0 : Int32).toNatClampNeg) 0))))) _ s H locs := hG
  refine lv_goto (tgt := 14) hx hb dL_ofKind_8 (by decide) ?_
  refine lv_iconst (v := 0) hx hb dL_ofKind_14 (by decide) ?_
  have hG := hG.at (ws' := [(o, .inl (κ.2.1, 1, .inr (.inl (va_up (fun _ => 0) ((0 : Int32).toNatClampNeg) 0))))]) [0] (by decide) rfl
  exact ze_i (qs := fun _ => 0) hC hG rfl rfl hr rfl hk (Nat.le_of_ble_eq_true rfl) (Nat.le_of_ble_eq_true rfl) dL_ofKind_15
theorem dX14_ofKindNow_0 : decode cX14_ofKindNow 0 = .ok (.lconst 0, 1) := by decide +kernel
theorem dX14_ofKindNow_1 : decode cX14_ofKindNow 1 = .ok (.lstore_n 2, 1) := by decide +kernel
theorem dX14_ofKindNow_11 : decode cX14_ofKindNow 11 = .ok (.invokevirtual 49, 3) := by decide +kernel
theorem dX14_ofKindNow_14 : decode cX14_ofKindNow 14 = .ok (.if_icmp .ge 51, 3) := by decide +kernel
theorem dX14_ofKindNow_2 : decode cX14_ofKindNow 2 = .ok (.iconst 0, 1) := by decide +kernel
theorem dX14_ofKindNow_3 : decode cX14_ofKindNow 3 = .ok (.istore 4, 2) := by decide +kernel
theorem dX14_ofKindNow_5 : decode cX14_ofKindNow 5 = .ok (.iload 4, 2) := by decide +kernel
theorem dX14_ofKindNow_65 : decode cX14_ofKindNow 65 = .ok (.lload_n 2, 1) := by decide +kernel
theorem dX14_ofKindNow_66 : decode cX14_ofKindNow 66 = .ok (.lreturn, 1) := by decide +kernel
theorem dX14_ofKindNow_7 : decode cX14_ofKindNow 7 = .ok (.aload_n 0, 1) := by decide +kernel
theorem dX14_ofKindNow_8 : decode cX14_ofKindNow 8 = .ok (.getfield 16, 3) := by decide +kernel
set_option maxHeartbeats 4000000 in
set_option maxRecDepth 100000 in
theorem z_225_ofKindNow (l : Launch) (hst : l.stackTraces = false) (D : va_G) (κ : K4) (E0 : Nat) (sz : Nat) (b : Nat → Nat) (x0 : Int32) (k_x0 : 0 ≤ x0.toInt ∧ x0.toInt ≤ 4) : NM l yX14_ofKindNow cX14_ofKindNow 5 (some .long) 1 20 0 0 E0 D κ (mw κ b E0 0) sz [.ref (b 0), .int x0] (QL D κ (mw κ b E0 0) sz 0 (fun qs : W1 => mw κ b E0 0)) := by
  refine NM.of (by decide +kernel) (Nat.le_of_ble_eq_true rfl) ?_
  intro p e s m below meth c ls hC hr hk hin hsz hE hT H locs hG hl
  have hx := hC.1
  have hb := hC.2.1
  have hl : lv_has ls 5 [(0, .ref (b 0)), (1, .int x0)] := hl
  refine lv_lconst (v := 0) hx hb dX14_ofKindNow_0 (by decide) ?_
  refine lv_lstore_n (lv' := [(2, .long 0), (0, .ref (b 0)), (1, .int x0)]) hx hb dX14_ofKindNow_1 rfl hl (by decide) rfl (fun ls hl => ?_)
  refine lv_iconst (v := 0) hx hb dX14_ofKindNow_2 (by decide) ?_
  refine lv_istore (lv' := [(4, .int 0), (2, .long 0), (0, .ref (b 0)), (1, .int x0)]) hx hb dX14_ofKindNow_3 hl (by decide) rfl (fun ls hl => ?_)
  refine lv_iload hx hb dX14_ofKindNow_5 (lv_at hl 0 rfl) ?_
  refine lv_aload_n hx hb dX14_ofKindNow_7 rfl (lv_at hl 2 rfl) ?_
  refine bw_get (C := RX14) (T := TX14) (N := 15) (ci := 9) (v := .ref (b 2)) 2 (by decide) 0 hC hG iwX14 rfl rfl w118 rfl rfl dX14_ofKindNow_8 ?_
  have cut11 : Cut (mw κ b E0 0) (mw κ b E0 0) ([]) := (Cut.all 9 rfl (by decide))
  refine zc_i hG cut11 (zr_V (k := 2) (ci := 10) (n := 0) (As := []) (rest := [.int 0]) hC hG hE hT cut11 (z_26_size l hst D κ E0 H.size (b 2) (b 0) (b 1) (b 3) (b 4) (b 5) (b 6) (b 7) (b 8)) rfl rfl w179 w117 w182 w180 w181 (by decide +kernel) ⟨Nat.le_of_ble_eq_true rfl, Nat.le_of_ble_eq_true rfl⟩ rfl hl.1 rfl (Nat.le_of_ble_eq_true rfl) dX14_ofKindNow_11 ⟨Nat.le_of_ble_eq_true rfl, Nat.le_of_ble_eq_true rfl⟩) (fun z1 H locs hG => ?_)
  have hG : BW D κ (mw κ b E0 0) _ s H locs := hG
  refine lv_icmp_ge (tgt := 65) hx hb dX14_ofKindNow_14 (by decide) (fun _ => ?_) (fun h14 => absurd (by decide) h14)
  refine lv_lload_n hx hb dX14_ofKindNow_65 rfl (lv_at hl 1 rfl) ?_
  exact ze_l (qs := fun _ => 0) hC hG rfl rfl hr hk (Nat.le_of_ble_eq_true rfl) (Nat.le_of_ble_eq_true rfl) dX14_ofKindNow_66
theorem dX14_ofKind_14 : decode cX14_ofKind 14 = .ok (.iconst 0, 1) := by decide +kernel
theorem dX14_ofKind_26 : decode cX14_ofKind 26 = .ok (.aload_n 0, 1) := by decide +kernel
theorem dX14_ofKind_27 : decode cX14_ofKind 27 = .ok (.iload_n 1, 1) := by decide +kernel
theorem dX14_ofKind_28 : decode cX14_ofKind 28 = .ok (.invokevirtual 345, 3) := by decide +kernel
set_option maxHeartbeats 4000000 in
set_option maxRecDepth 100000 in
theorem z_226_ofKind (l : Launch) (hst : l.stackTraces = false) (D : va_G) (κ : K4) (E0 : Nat) (sz : Nat) (b : Nat → Nat) (x0 : Int32) (k_x0 : 0 ≤ x0.toInt ∧ x0.toInt ≤ 4) : NM l yX14_ofKind cX14_ofKind 2 (some .long) 2 44 0 0 E0 D κ (mw κ b E0 0) sz [.ref (b 0), .int x0] (QL D κ (mw κ b E0 0) sz 0 (fun qs : W1 => mw κ b E0 0)) := by
  refine NM.of (by decide +kernel) (Nat.le_of_ble_eq_true rfl) ?_
  intro p e s m below meth c ls hC hr hk hin hsz hE hT H locs hG hl
  have hx := hC.1
  have hb := hC.2.1
  have hl : lv_has ls 2 [(0, .ref (b 0)), (1, .int x0)] := hl
  refine lv_aload_n hx hb dX14_ofKind_0 rfl (lv_at hl 0 rfl) ?_
  refine lv_iload_n hx hb dX14_ofKind_1 rfl (lv_at hl 1 rfl) ?_
  refine lv_iconst (v := 0) hx hb dX14_ofKind_2 (by decide) ?_
  refine lv_iconst (v := 4) hx hb dX14_ofKind_3 (by decide) ?_
  have cut4 : Cut (mw κ b E0 0) (mw κ b E0 0) ([]) := (Cut.all 9 rfl (by decide))
  refine zc_i hG cut4 (zr_S (n := 3) (As := [.int x0, .int 0, .int 4]) (rest := [.ref (b 0)]) hC hG hE hT cut4 (z_40_isIn l hst D κ E0 H.size b x0 ⟨by omega, by omega⟩) w167 w5 w169 w168 (by decide +kernel) ⟨Nat.le_of_ble_eq_true rfl, Nat.le_of_ble_eq_true rfl⟩ rfl hl.1 rfl (Nat.le_of_ble_eq_true rfl) dX14_ofKind_4 ⟨Nat.le_of_ble_eq_true rfl, Nat.le_of_ble_eq_true rfl⟩) (fun z1 H locs hG => ?_)
  have hG : BW D κ (mw κ b E0 0) _ s H locs := hG
  refine lv_if_ne (tgt := 14) hx hb dX14_ofKind_7 (by decide) (fun _ => ?_) (fun h7 => absurd h7 (by decide))
  refine lv_iconst (v := 0) hx hb dX14_ofKind_14 (by decide) ?_
  refine lv_iconst (v := 1) hx hb dX14_ofKind_15 (by decide) ?_
  have cut16 : Cut (mw κ b E0 0) (mw κ b E0 0) ([]) := (Cut.all 9 rfl (by decide))
  refine zc_i hG cut16 (zr_V (k := 0) (ci := 9) (n := 2) (As := [.int 0, .int 1]) (rest := []) hC hG hE hT cut16 (z_25_start l hst D κ E0 H.size b) rfl rfl w170 w5 w173 w171 w172 (by decide +kernel) ⟨Nat.le_of_ble_eq_true rfl, Nat.le_of_ble_eq_true rfl⟩ rfl hl.1 rfl (Nat.le_of_ble_eq_true rfl) dX14_ofKind_16 ⟨Nat.le_of_ble_eq_true rfl, Nat.le_of_ble_eq_true rfl⟩) (fun z2 H locs hG => ?_)
  have hG : BW D κ (mw κ b E0 0) _ s H locs := hG
  refine lv_if_eq (tgt := 26) hx hb dX14_ofKind_19 (by decide) (fun _ => ?_) (fun h19 => absurd (by decide) h19)
  refine lv_aload_n hx hb dX14_ofKind_26 rfl (lv_at hl 0 rfl) ?_
  refine lv_iload_n hx hb dX14_ofKind_27 rfl (lv_at hl 1 rfl) ?_
  have cut28 : Cut (mw κ b E0 0) (mw κ b E0 0) ([]) := (Cut.all 9 rfl (by decide))
  refine zc_l hG cut28 (zr_V (k := 0) (ci := 9) (n := 1) (As := [.int x0]) (rest := []) hC hG hE hT cut28 (z_225_ofKindNow l hst D κ E0 H.size b x0 ⟨by omega, by omega⟩) rfl rfl w1126 w5 w1129 w1127 w1128 (by decide +kernel) ⟨Nat.le_of_ble_eq_true rfl, Nat.le_of_ble_eq_true rfl⟩ rfl hl.1 rfl (Nat.le_of_ble_eq_true rfl) dX14_ofKind_28 ⟨Nat.le_of_ble_eq_true rfl, Nat.le_of_ble_eq_true rfl⟩) (fun z3 H locs hG => ?_)
  have hG : BW D κ (mw κ b E0 0) _ s H locs := hG
  exact ze_l (qs := fun _ => 0) hC hG rfl rfl hr hk (Nat.le_of_ble_eq_true rfl) (Nat.le_of_ble_eq_true rfl) dX14_ofKind_31
theorem dX7_earned_0 : decode cX7_earned 0 = .ok (.iload_n 1, 1) := by decide +kernel
theorem dX7_earned_1 : decode cX7_earned 1 = .ok (.invokestatic 133, 3) := by decide +kernel
set_option maxHeartbeats 4000000 in
set_option maxRecDepth 100000 in
theorem z_227_earned (l : Launch) (hst : l.stackTraces = false) (D : va_G) (κ : K4) (E0 : Nat) (sz : Nat) (a : Nat → Nat) (x0 : Int32) (x1 : Int32) (k_x0 : -2147483648 ≤ x0.toInt ∧ x0.toInt ≤ -1) (k_x1 : -2147483648 ≤ x1.toInt ∧ x1.toInt ≤ 2147483647) : XM l yX7_earned cX7_earned 6 (some .long) 7 102 1 6 E0 D κ (xw κ a) sz [.ref (a 0), .int x0, .int x1] "java/lang/IllegalArgumentException" (NL (xw κ a) sz) := by
  refine XM.of (by decide +kernel) (Nat.le_of_ble_eq_true rfl) ?_
  intro p e s m below meth c ls hC hk hno hsz hE hT H locs hG hl
  have hx := hC.1
  have hb := hC.2.1
  have hl : lv_has ls 6 [(0, .ref (a 0)), (1, .int x0), (2, .int x1)] := hl
  refine lv_iload_n hx hb dX7_earned_0 rfl (lv_at hl 1 rfl) ?_
  have cut1 : Cut (xw κ a) (xw κ a) ([]) := (Cut.all 45 rfl (by decide))
  refine zt_v hG cut1 (zx_S (n := 1) (As := [.int x0]) (rest := []) hC hG hE hT cut1 (z_137_needDay l hst D κ E0 H.size a x0 ⟨by omega, by omega⟩) w413 w2 w415 w414 (by decide +kernel) ⟨Nat.le_of_ble_eq_true rfl, Nat.le_of_ble_eq_true rfl⟩ rfl hl.1 rfl (Nat.le_of_ble_eq_true rfl) dX7_earned_1 ⟨Nat.le_of_ble_eq_true rfl, Nat.le_of_ble_eq_true rfl⟩) (fun ce q9 H locs hG hz1 hz2 hz3 => ?_)
  exact zt_out hno hk hG hz1 hz2 hz3 (Nat.le_of_ble_eq_true rfl) (Nat.le_of_ble_eq_true rfl)
theorem dL_earned_0 : decode cL_earned 0 = .ok (.aload_n 3, 1) := by decide +kernel
theorem dL_earned_1 : decode cL_earned 1 = .ok (.iconst 0, 1) := by decide +kernel
theorem dL_earned_12 : decode cL_earned 12 = .ok (.astore 4, 2) := by decide +kernel
theorem dL_earned_14 : decode cL_earned 14 = .ok (.iconst 1, 1) := by decide +kernel
theorem dL_earned_15 : decode cL_earned 15 = .ok (.ireturn, 1) := by decide +kernel
theorem dL_earned_2 : decode cL_earned 2 = .ok (.aload_n 0, 1) := by decide +kernel
theorem dL_earned_3 : decode cL_earned 3 = .ok (.iload_n 1, 1) := by decide +kernel
theorem dL_earned_4 : decode cL_earned 4 = .ok (.iload_n 2, 1) := by decide +kernel
theorem dL_earned_5 : decode cL_earned 5 = .ok (.invokevirtual 94, 3) := by decide +kernel
set_option maxHeartbeats 4000000 in
set_option maxRecDepth 100000 in
theorem z_228_earned (l : Launch) (hst : l.stackTraces = false) (D : va_G) (κ : K4) (E0 : Nat) (sz : Nat) (a : Nat → Nat) (x0 : Int32) (x1 : Int32) (o : Nat) (k_x0 : -2147483648 ≤ x0.toInt ∧ x0.toInt ≤ -1) (k_x1 : -2147483648 ≤ x1.toInt ∧ x1.toInt ≤ 2147483647) : NH l yL_earned cL_earned 5 (some .int) [(0, 9, 12, 13)] 8 127 1 6 E0 D κ (xw κ a ++ [(o, .inl (κ.2.1, 1, .inr (.inl (fun _ => 0))))]) sz [.ref (a 0), .int x0, .int x1, .ref o] (QI D κ (xw κ a ++ [(o, .inl (κ.2.1, 1, .inr (.inl (fun _ => 0))))]) sz 1 (fun qs : W1 => [(o, .inl (κ.2.1, 1, .inr (.inl (fun _ => 0))))])) := by
  refine NH.of (by decide +kernel) (Nat.le_of_ble_eq_true rfl) ?_
  intro p e s m below meth c ls hC hr hk htab hsz hE hT H locs hG hl
  have hx := hC.1
  have hb := hC.2.1
  have hl : lv_has ls 5 [(0, .ref (a 0)), (1, .int x0), (2, .int x1), (3, .ref o)] := hl
  refine lv_aload_n hx hb dL_earned_0 rfl (lv_at hl 3 rfl) ?_
  refine lv_iconst (v := 0) hx hb dL_earned_1 (by decide) ?_
  refine lv_aload_n hx hb dL_earned_2 rfl (lv_at hl 0 rfl) ?_
  refine lv_iload_n hx hb dL_earned_3 rfl (lv_at hl 1 rfl) ?_
  refine lv_iload_n hx hb dL_earned_4 rfl (lv_at hl 2 rfl) ?_
  have cut5 : Cut (xw κ a ++ [(o, .inl (κ.2.1, 1, .inr (.inl (fun _ => 0))))]) (xw κ a) ([(o, .inl (κ.2.1, 1, .inr (.inl (fun _ => 0))))]) := (Cut.one 45 rfl (by decide))
  refine zt_l hG cut5 (zx_V (k := 0) (ci := 7) (n := 2) (As := [.int x0, .int x1]) (rest := [.int 0, .ref o]) hC hG hE hT cut5 (z_227_earned l hst D κ E0 H.size a x0 x1 ⟨by omega, by omega⟩ ⟨by omega, by omega⟩) rfl rfl w1133 w2 w1136 w1134 w1135 (by decide +kernel) ⟨Nat.le_of_ble_eq_true rfl, Nat.le_of_ble_eq_true rfl⟩ rfl hl.1 rfl (Nat.le_of_ble_eq_true rfl) dL_earned_5 ⟨Nat.le_of_ble_eq_true rfl, Nat.le_of_ble_eq_true rfl⟩) (fun ce q9 H locs hG hz1 hz2 hz3 => ?_)
  refine vx_catch (own := RL) (name := "java/lang/IllegalArgumentException") (E := "java/lang/IllegalArgumentException") hC.2.2.2.1 [] ⟨0, 9, 12, 13⟩ [] htab (fun z hz => by simp at hz) (by decide) (by decide) (hC.2.2.2.2 _ w145) (va_Nw.use rfl (hT.1 ("java/lang/IllegalArgumentException", "java/lang/IllegalArgumentException") (by decide))) hz1 hz2 hz3 ?_
  refine lv_astore (lv' := [(4, .ref q9), (0, .ref (a 0)), (1, .int x0), (2, .int x1), (3, .ref o)]) hx hb dL_earned_12 hl (by decide) rfl (fun ls hl => ?_)
  refine lv_iconst (v := 1) hx hb dL_earned_14 (by decide) ?_
  exact ze_i (qs := fun _ => 0) hC hG rfl rfl hr rfl hk (Nat.le_of_ble_eq_true rfl) (Nat.le_of_ble_eq_true rfl) dL_earned_15
theorem dX14_isNoDay_0 : decode cX14_isNoDay 0 = .ok (.iload_n 0, 1) := by decide +kernel
theorem dX14_isNoDay_1 : decode cX14_isNoDay 1 = .ok (.iconst 0, 1) := by decide +kernel
theorem dX14_isNoDay_11 : decode cX14_isNoDay 11 = .ok (.iconst 1, 1) := by decide +kernel
theorem dX14_isNoDay_12 : decode cX14_isNoDay 12 = .ok (.goto 4, 3) := by decide +kernel
theorem dX14_isNoDay_16 : decode cX14_isNoDay 16 = .ok (.ireturn, 1) := by decide +kernel
theorem dX14_isNoDay_2 : decode cX14_isNoDay 2 = .ok (.sipush 364, 3) := by decide +kernel
theorem dX14_isNoDay_5 : decode cX14_isNoDay 5 = .ok (.invokestatic 53, 3) := by decide +kernel
theorem dX14_isNoDay_8 : decode cX14_isNoDay 8 = .ok (.ifCond .ne 7, 3) := by decide +kernel
set_option maxHeartbeats 4000000 in
set_option maxRecDepth 100000 in
theorem z_229_isNoDay (l : Launch) (hst : l.stackTraces = false) (D : va_G) (κ : K4) (E0 : Nat) (sz : Nat) (b : Nat → Nat) (x0 : Int32) (k_x0 : -2147483648 ≤ x0.toInt ∧ x0.toInt ≤ -1) : NM l yX14_isNoDay cX14_isNoDay 1 (some .boolean) 1 22 0 0 E0 D κ (mw κ b E0 0) sz [.int x0] (QI D κ (mw κ b E0 0) sz 1 (fun qs : W1 => mw κ b E0 0)) := by
  refine NM.of (by decide +kernel) (Nat.le_of_ble_eq_true rfl) ?_
  intro p e s m below meth c ls hC hr hk hin hsz hE hT H locs hG hl
  have hx := hC.1
  have hb := hC.2.1
  have hl : lv_has ls 1 [(0, .int x0)] := hl
  refine lv_iload_n hx hb dX14_isNoDay_0 rfl (lv_at hl 0 rfl) ?_
  refine lv_iconst (v := 0) hx hb dX14_isNoDay_1 (by decide) ?_
  refine lv_sipush (v := 364) hx hb dX14_isNoDay_2 (by decide) ?_
  have cut5 : Cut (mw κ b E0 0) (mw κ b E0 0) ([]) := (Cut.all 9 rfl (by decide))
  refine zc_i hG cut5 (zr_S (n := 3) (As := [.int x0, .int 0, .int 364]) (rest := []) hC hG hE hT cut5 (z_126_isIn l hst D κ E0 H.size b x0 ⟨by omega, by omega⟩) w167 w5 w169 w168 (by decide +kernel) ⟨Nat.le_of_ble_eq_true rfl, Nat.le_of_ble_eq_true rfl⟩ rfl hl.1 rfl (Nat.le_of_ble_eq_true rfl) dX14_isNoDay_5 ⟨Nat.le_of_ble_eq_true rfl, Nat.le_of_ble_eq_true rfl⟩) (fun z1 H locs hG => ?_)
  have hG : BW D κ (mw κ b E0 0) _ s H locs := hG
  refine lv_if_ne (tgt := 15) hx hb dX14_isNoDay_8 (by decide) (fun h8 => absurd (by decide) h8) (fun _ => ?_)
  refine lv_iconst (v := 1) hx hb dX14_isNoDay_11 (by decide) ?_
  refine lv_goto (tgt := 16) hx hb dX14_isNoDay_12 (by decide) ?_
  exact ze_i (qs := fun _ => 0) hC hG rfl rfl hr rfl hk (Nat.le_of_ble_eq_true rfl) (Nat.le_of_ble_eq_true rfl) dX14_isNoDay_16
theorem dX14_earned_0 : decode cX14_earned 0 = .ok (.aload_n 0, 1) := by decide +kernel
theorem dX14_earned_1 : decode cX14_earned 1 = .ok (.iload_n 1, 1) := by decide +kernel
theorem dX14_earned_15 : decode cX14_earned 15 = .ok (.iconst 1, 1) := by decide +kernel
theorem dX14_earned_16 : decode cX14_earned 16 = .ok (.goto 4, 3) := by decide +kernel
theorem dX14_earned_2 : decode cX14_earned 2 = .ok (.invokestatic 342, 3) := by decide +kernel
theorem dX14_earned_20 : decode cX14_earned 20 = .ok (.iconst 1, 1) := by decide +kernel
theorem dX14_earned_21 : decode cX14_earned 21 = .ok (.invokevirtual 61, 3) := by decide +kernel
theorem dX14_earned_24 : decode cX14_earned 24 = .ok (.ifCond .eq 5, 3) := by decide +kernel
theorem dX14_earned_27 : decode cX14_earned 27 = .ok (.lconst 0, 1) := by decide +kernel
theorem dX14_earned_28 : decode cX14_earned 28 = .ok (.lreturn, 1) := by decide +kernel
theorem dX14_earned_5 : decode cX14_earned 5 = .ok (.ifCond .ne 10, 3) := by decide +kernel
set_option maxHeartbeats 4000000 in
set_option maxRecDepth 100000 in
theorem z_230_earned (l : Launch) (hst : l.stackTraces = false) (D : va_G) (κ : K4) (E0 : Nat) (sz : Nat) (b : Nat → Nat) (x0 : Int32) (x1 : Int32) (k_x0 : -2147483648 ≤ x0.toInt ∧ x0.toInt ≤ -1) (k_x1 : -2147483648 ≤ x1.toInt ∧ x1.toInt ≤ 2147483647) : NM l yX14_earned cX14_earned 8 (some .long) 2 44 0 0 E0 D κ (mw κ b E0 0) sz [.ref (b 0), .int x0, .int x1] (QL D κ (mw κ b E0 0) sz 0 (fun qs : W1 => mw κ b E0 1)) := by
  refine NM.of (by decide +kernel) (Nat.le_of_ble_eq_true rfl) ?_
  intro p e s m below meth c ls hC hr hk hin hsz hE hT H locs hG hl
  have hx := hC.1
  have hb := hC.2.1
  have hl : lv_has ls 8 [(0, .ref (b 0)), (1, .int x0), (2, .int x1)] := hl
  refine lv_aload_n hx hb dX14_earned_0 rfl (lv_at hl 0 rfl) ?_
  refine lv_iload_n hx hb dX14_earned_1 rfl (lv_at hl 1 rfl) ?_
  have cut2 : Cut (mw κ b E0 0) (mw κ b E0 0) ([]) := (Cut.all 9 rfl (by decide))
  refine zc_i hG cut2 (zr_S (n := 1) (As := [.int x0]) (rest := [.ref (b 0)]) hC hG hE hT cut2 (z_229_isNoDay l hst D κ E0 H.size b x0 ⟨by omega, by omega⟩) w1112 w5 w1114 w1113 (by decide +kernel) ⟨Nat.le_of_ble_eq_true rfl, Nat.le_of_ble_eq_true rfl⟩ rfl hl.1 rfl (Nat.le_of_ble_eq_true rfl) dX14_earned_2 ⟨Nat.le_of_ble_eq_true rfl, Nat.le_of_ble_eq_true rfl⟩) (fun z1 H locs hG => ?_)
  have hG : BW D κ (mw κ b E0 0) _ s H locs := hG
  refine lv_if_ne (tgt := 15) hx hb dX14_earned_5 (by decide) (fun _ => ?_) (fun h5 => absurd h5 (by decide))
  refine lv_iconst (v := 1) hx hb dX14_earned_15 (by decide) ?_
  refine lv_goto (tgt := 20) hx hb dX14_earned_16 (by decide) ?_
  refine lv_iconst (v := 1) hx hb dX14_earned_20 (by decide) ?_
  have cut21 : Cut (mw κ b E0 0) (mw κ b E0 0) ([]) := (Cut.all 9 rfl (by decide))
  refine zc_i hG cut21 (zr_V (k := 0) (ci := 9) (n := 2) (As := [.int 1, .int 1]) (rest := []) hC hG hE hT cut21 (z_4_start l hst D κ E0 H.size b) rfl rfl w170 w5 w173 w171 w172 (by decide +kernel) ⟨Nat.le_of_ble_eq_true rfl, Nat.le_of_ble_eq_true rfl⟩ rfl hl.1 rfl (Nat.le_of_ble_eq_true rfl) dX14_earned_21 ⟨Nat.le_of_ble_eq_true rfl, Nat.le_of_ble_eq_true rfl⟩) (fun z2 H locs hG => ?_)
  have hG : BW D κ (mw κ b E0 1) _ s H locs := hG
  refine lv_if_eq (tgt := 29) hx hb dX14_earned_24 (by decide) (fun h24 => absurd h24 (by decide)) (fun _ => ?_)
  refine lv_lconst (v := 0) hx hb dX14_earned_27 (by decide) ?_
  exact ze_l (qs := fun _ => 0) hC hG rfl rfl hr hk (Nat.le_of_ble_eq_true rfl) (Nat.le_of_ble_eq_true rfl) dX14_earned_28
set_option maxHeartbeats 4000000 in
set_option maxRecDepth 100000 in
theorem z_231_earned (l : Launch) (hst : l.stackTraces = false) (D : va_G) (κ : K4) (E0 : Nat) (sz : Nat) (a : Nat → Nat) (x0 : Int32) (x1 : Int32) (k_x0 : 365 ≤ x0.toInt ∧ x0.toInt ≤ 2147483647) (k_x1 : -2147483648 ≤ x1.toInt ∧ x1.toInt ≤ 2147483647) : XM l yX7_earned cX7_earned 6 (some .long) 7 102 1 6 E0 D κ (xw κ a) sz [.ref (a 0), .int x0, .int x1] "java/lang/IllegalArgumentException" (NL (xw κ a) sz) := by
  refine XM.of (by decide +kernel) (Nat.le_of_ble_eq_true rfl) ?_
  intro p e s m below meth c ls hC hk hno hsz hE hT H locs hG hl
  have hx := hC.1
  have hb := hC.2.1
  have hl : lv_has ls 6 [(0, .ref (a 0)), (1, .int x0), (2, .int x1)] := hl
  refine lv_iload_n hx hb dX7_earned_0 rfl (lv_at hl 1 rfl) ?_
  have cut1 : Cut (xw κ a) (xw κ a) ([]) := (Cut.all 45 rfl (by decide))
  refine zt_v hG cut1 (zx_S (n := 1) (As := [.int x0]) (rest := []) hC hG hE hT cut1 (z_141_needDay l hst D κ E0 H.size a x0 ⟨by omega, by omega⟩) w413 w2 w415 w414 (by decide +kernel) ⟨Nat.le_of_ble_eq_true rfl, Nat.le_of_ble_eq_true rfl⟩ rfl hl.1 rfl (Nat.le_of_ble_eq_true rfl) dX7_earned_1 ⟨Nat.le_of_ble_eq_true rfl, Nat.le_of_ble_eq_true rfl⟩) (fun ce q9 H locs hG hz1 hz2 hz3 => ?_)
  exact zt_out hno hk hG hz1 hz2 hz3 (Nat.le_of_ble_eq_true rfl) (Nat.le_of_ble_eq_true rfl)
set_option maxHeartbeats 4000000 in
set_option maxRecDepth 100000 in
theorem z_232_earned (l : Launch) (hst : l.stackTraces = false) (D : va_G) (κ : K4) (E0 : Nat) (sz : Nat) (a : Nat → Nat) (x0 : Int32) (x1 : Int32) (o : Nat) (k_x0 : 365 ≤ x0.toInt ∧ x0.toInt ≤ 2147483647) (k_x1 : -2147483648 ≤ x1.toInt ∧ x1.toInt ≤ 2147483647) : NH l yL_earned cL_earned 5 (some .int) [(0, 9, 12, 13)] 8 127 1 6 E0 D κ (xw κ a ++ [(o, .inl (κ.2.1, 1, .inr (.inl (fun _ => 0))))]) sz [.ref (a 0), .int x0, .int x1, .ref o] (QI D κ (xw κ a ++ [(o, .inl (κ.2.1, 1, .inr (.inl (fun _ => 0))))]) sz 1 (fun qs : W1 => [(o, .inl (κ.2.1, 1, .inr (.inl (fun _ => 0))))])) := by
  refine NH.of (by decide +kernel) (Nat.le_of_ble_eq_true rfl) ?_
  intro p e s m below meth c ls hC hr hk htab hsz hE hT H locs hG hl
  have hx := hC.1
  have hb := hC.2.1
  have hl : lv_has ls 5 [(0, .ref (a 0)), (1, .int x0), (2, .int x1), (3, .ref o)] := hl
  refine lv_aload_n hx hb dL_earned_0 rfl (lv_at hl 3 rfl) ?_
  refine lv_iconst (v := 0) hx hb dL_earned_1 (by decide) ?_
  refine lv_aload_n hx hb dL_earned_2 rfl (lv_at hl 0 rfl) ?_
  refine lv_iload_n hx hb dL_earned_3 rfl (lv_at hl 1 rfl) ?_
  refine lv_iload_n hx hb dL_earned_4 rfl (lv_at hl 2 rfl) ?_
  have cut5 : Cut (xw κ a ++ [(o, .inl (κ.2.1, 1, .inr (.inl (fun _ => 0))))]) (xw κ a) ([(o, .inl (κ.2.1, 1, .inr (.inl (fun _ => 0))))]) := (Cut.one 45 rfl (by decide))
  refine zt_l hG cut5 (zx_V (k := 0) (ci := 7) (n := 2) (As := [.int x0, .int x1]) (rest := [.int 0, .ref o]) hC hG hE hT cut5 (z_231_earned l hst D κ E0 H.size a x0 x1 ⟨by omega, by omega⟩ ⟨by omega, by omega⟩) rfl rfl w1133 w2 w1136 w1134 w1135 (by decide +kernel) ⟨Nat.le_of_ble_eq_true rfl, Nat.le_of_ble_eq_true rfl⟩ rfl hl.1 rfl (Nat.le_of_ble_eq_true rfl) dL_earned_5 ⟨Nat.le_of_ble_eq_true rfl, Nat.le_of_ble_eq_true rfl⟩) (fun ce q9 H locs hG hz1 hz2 hz3 => ?_)
  refine vx_catch (own := RL) (name := "java/lang/IllegalArgumentException") (E := "java/lang/IllegalArgumentException") hC.2.2.2.1 [] ⟨0, 9, 12, 13⟩ [] htab (fun z hz => by simp at hz) (by decide) (by decide) (hC.2.2.2.2 _ w145) (va_Nw.use rfl (hT.1 ("java/lang/IllegalArgumentException", "java/lang/IllegalArgumentException") (by decide))) hz1 hz2 hz3 ?_
  refine lv_astore (lv' := [(4, .ref q9), (0, .ref (a 0)), (1, .int x0), (2, .int x1), (3, .ref o)]) hx hb dL_earned_12 hl (by decide) rfl (fun ls hl => ?_)
  refine lv_iconst (v := 1) hx hb dL_earned_14 (by decide) ?_
  exact ze_i (qs := fun _ => 0) hC hG rfl rfl hr rfl hk (Nat.le_of_ble_eq_true rfl) (Nat.le_of_ble_eq_true rfl) dL_earned_15
set_option maxHeartbeats 4000000 in
set_option maxRecDepth 100000 in
theorem z_233_isNoDay (l : Launch) (hst : l.stackTraces = false) (D : va_G) (κ : K4) (E0 : Nat) (sz : Nat) (b : Nat → Nat) (x0 : Int32) (k_x0 : 365 ≤ x0.toInt ∧ x0.toInt ≤ 2147483647) : NM l yX14_isNoDay cX14_isNoDay 1 (some .boolean) 1 22 0 0 E0 D κ (mw κ b E0 0) sz [.int x0] (QI D κ (mw κ b E0 0) sz 1 (fun qs : W1 => mw κ b E0 0)) := by
  refine NM.of (by decide +kernel) (Nat.le_of_ble_eq_true rfl) ?_
  intro p e s m below meth c ls hC hr hk hin hsz hE hT H locs hG hl
  have hx := hC.1
  have hb := hC.2.1
  have hl : lv_has ls 1 [(0, .int x0)] := hl
  refine lv_iload_n hx hb dX14_isNoDay_0 rfl (lv_at hl 0 rfl) ?_
  refine lv_iconst (v := 0) hx hb dX14_isNoDay_1 (by decide) ?_
  refine lv_sipush (v := 364) hx hb dX14_isNoDay_2 (by decide) ?_
  have cut5 : Cut (mw κ b E0 0) (mw κ b E0 0) ([]) := (Cut.all 9 rfl (by decide))
  refine zc_i hG cut5 (zr_S (n := 3) (As := [.int x0, .int 0, .int 364]) (rest := []) hC hG hE hT cut5 (z_130_isIn l hst D κ E0 H.size b x0 ⟨by omega, by omega⟩) w167 w5 w169 w168 (by decide +kernel) ⟨Nat.le_of_ble_eq_true rfl, Nat.le_of_ble_eq_true rfl⟩ rfl hl.1 rfl (Nat.le_of_ble_eq_true rfl) dX14_isNoDay_5 ⟨Nat.le_of_ble_eq_true rfl, Nat.le_of_ble_eq_true rfl⟩) (fun z1 H locs hG => ?_)
  have hG : BW D κ (mw κ b E0 0) _ s H locs := hG
  refine lv_if_ne (tgt := 15) hx hb dX14_isNoDay_8 (by decide) (fun h8 => absurd (by decide) h8) (fun _ => ?_)
  refine lv_iconst (v := 1) hx hb dX14_isNoDay_11 (by decide) ?_
  refine lv_goto (tgt := 16) hx hb dX14_isNoDay_12 (by decide) ?_
  exact ze_i (qs := fun _ => 0) hC hG rfl rfl hr rfl hk (Nat.le_of_ble_eq_true rfl) (Nat.le_of_ble_eq_true rfl) dX14_isNoDay_16
set_option maxHeartbeats 4000000 in
set_option maxRecDepth 100000 in
theorem z_234_earned (l : Launch) (hst : l.stackTraces = false) (D : va_G) (κ : K4) (E0 : Nat) (sz : Nat) (b : Nat → Nat) (x0 : Int32) (x1 : Int32) (k_x0 : 365 ≤ x0.toInt ∧ x0.toInt ≤ 2147483647) (k_x1 : -2147483648 ≤ x1.toInt ∧ x1.toInt ≤ 2147483647) : NM l yX14_earned cX14_earned 8 (some .long) 2 44 0 0 E0 D κ (mw κ b E0 0) sz [.ref (b 0), .int x0, .int x1] (QL D κ (mw κ b E0 0) sz 0 (fun qs : W1 => mw κ b E0 1)) := by
  refine NM.of (by decide +kernel) (Nat.le_of_ble_eq_true rfl) ?_
  intro p e s m below meth c ls hC hr hk hin hsz hE hT H locs hG hl
  have hx := hC.1
  have hb := hC.2.1
  have hl : lv_has ls 8 [(0, .ref (b 0)), (1, .int x0), (2, .int x1)] := hl
  refine lv_aload_n hx hb dX14_earned_0 rfl (lv_at hl 0 rfl) ?_
  refine lv_iload_n hx hb dX14_earned_1 rfl (lv_at hl 1 rfl) ?_
  have cut2 : Cut (mw κ b E0 0) (mw κ b E0 0) ([]) := (Cut.all 9 rfl (by decide))
  refine zc_i hG cut2 (zr_S (n := 1) (As := [.int x0]) (rest := [.ref (b 0)]) hC hG hE hT cut2 (z_233_isNoDay l hst D κ E0 H.size b x0 ⟨by omega, by omega⟩) w1112 w5 w1114 w1113 (by decide +kernel) ⟨Nat.le_of_ble_eq_true rfl, Nat.le_of_ble_eq_true rfl⟩ rfl hl.1 rfl (Nat.le_of_ble_eq_true rfl) dX14_earned_2 ⟨Nat.le_of_ble_eq_true rfl, Nat.le_of_ble_eq_true rfl⟩) (fun z1 H locs hG => ?_)
  have hG : BW D κ (mw κ b E0 0) _ s H locs := hG
  refine lv_if_ne (tgt := 15) hx hb dX14_earned_5 (by decide) (fun _ => ?_) (fun h5 => absurd h5 (by decide))
  refine lv_iconst (v := 1) hx hb dX14_earned_15 (by decide) ?_
  refine lv_goto (tgt := 20) hx hb dX14_earned_16 (by decide) ?_
  refine lv_iconst (v := 1) hx hb dX14_earned_20 (by decide) ?_
  have cut21 : Cut (mw κ b E0 0) (mw κ b E0 0) ([]) := (Cut.all 9 rfl (by decide))
  refine zc_i hG cut21 (zr_V (k := 0) (ci := 9) (n := 2) (As := [.int 1, .int 1]) (rest := []) hC hG hE hT cut21 (z_4_start l hst D κ E0 H.size b) rfl rfl w170 w5 w173 w171 w172 (by decide +kernel) ⟨Nat.le_of_ble_eq_true rfl, Nat.le_of_ble_eq_true rfl⟩ rfl hl.1 rfl (Nat.le_of_ble_eq_true rfl) dX14_earned_21 ⟨Nat.le_of_ble_eq_true rfl, Nat.le_of_ble_eq_true rfl⟩) (fun z2 H locs hG => ?_)
  have hG : BW D κ (mw κ b E0 1) _ s H locs := hG
  refine lv_if_eq (tgt := 29) hx hb dX14_earned_24 (by decide) (fun h24 => absurd h24 (by decide)) (fun _ => ?_)
  refine lv_lconst (v := 0) hx hb dX14_earned_27 (by decide) ?_
  exact ze_l (qs := fun _ => 0) hC hG rfl rfl hr hk (Nat.le_of_ble_eq_true rfl) (Nat.le_of_ble_eq_true rfl) dX14_earned_28
theorem dX7_earned_4 : decode cX7_earned 4 = .ok (.iload_n 2, 1) := by decide +kernel
theorem dX7_earned_5 : decode cX7_earned 5 = .ok (.invokestatic 133, 3) := by decide +kernel
set_option maxHeartbeats 4000000 in
set_option maxRecDepth 100000 in
theorem z_235_earned (l : Launch) (hst : l.stackTraces = false) (D : va_G) (κ : K4) (E0 : Nat) (sz : Nat) (a : Nat → Nat) (x0 : Int32) (x1 : Int32) (k_x0 : 0 ≤ x0.toInt ∧ x0.toInt ≤ 364) (k_x1 : -2147483648 ≤ x1.toInt ∧ x1.toInt ≤ -1) : XM l yX7_earned cX7_earned 6 (some .long) 7 102 1 6 E0 D κ (xw κ a) sz [.ref (a 0), .int x0, .int x1] "java/lang/IllegalArgumentException" (NL (xw κ a) sz) := by
  refine XM.of (by decide +kernel) (Nat.le_of_ble_eq_true rfl) ?_
  intro p e s m below meth c ls hC hk hno hsz hE hT H locs hG hl
  have hx := hC.1
  have hb := hC.2.1
  have hl : lv_has ls 6 [(0, .ref (a 0)), (1, .int x0), (2, .int x1)] := hl
  refine lv_iload_n hx hb dX7_earned_0 rfl (lv_at hl 1 rfl) ?_
  have cut1 : Cut (xw κ a) (xw κ a) ([]) := (Cut.all 45 rfl (by decide))
  refine zc_v hG cut1 (zr_S (n := 1) (As := [.int x0]) (rest := []) hC hG hE hT cut1 (z_145_needDay l hst D κ E0 H.size a x0 ⟨by omega, by omega⟩) w413 w2 w415 w414 (by decide +kernel) ⟨Nat.le_of_ble_eq_true rfl, Nat.le_of_ble_eq_true rfl⟩ rfl hl.1 rfl (Nat.le_of_ble_eq_true rfl) dX7_earned_1 ⟨Nat.le_of_ble_eq_true rfl, Nat.le_of_ble_eq_true rfl⟩) (fun z1 H locs hG => ?_)
  have hG : BW D κ (xw κ a) _ s H locs := hG
  refine lv_iload_n hx hb dX7_earned_4 rfl (lv_at hl 2 rfl) ?_
  have cut5 : Cut (xw κ a) (xw κ a) ([]) := (Cut.all 45 rfl (by decide))
  refine zt_v hG cut5 (zx_S (n := 1) (As := [.int x1]) (rest := []) hC hG hE hT cut5 (z_137_needDay l hst D κ E0 H.size a x1 ⟨by omega, by omega⟩) w413 w2 w415 w414 (by decide +kernel) ⟨Nat.le_of_ble_eq_true rfl, Nat.le_of_ble_eq_true rfl⟩ rfl hl.1 rfl (Nat.le_of_ble_eq_true rfl) dX7_earned_5 ⟨Nat.le_of_ble_eq_true rfl, Nat.le_of_ble_eq_true rfl⟩) (fun ce q9 H locs hG hz1 hz2 hz3 => ?_)
  exact zt_out hno hk hG hz1 hz2 hz3 (Nat.le_of_ble_eq_true rfl) (Nat.le_of_ble_eq_true rfl)
set_option maxHeartbeats 4000000 in
set_option maxRecDepth 100000 in
theorem z_236_earned (l : Launch) (hst : l.stackTraces = false) (D : va_G) (κ : K4) (E0 : Nat) (sz : Nat) (a : Nat → Nat) (x0 : Int32) (x1 : Int32) (o : Nat) (k_x0 : 0 ≤ x0.toInt ∧ x0.toInt ≤ 364) (k_x1 : -2147483648 ≤ x1.toInt ∧ x1.toInt ≤ -1) : NH l yL_earned cL_earned 5 (some .int) [(0, 9, 12, 13)] 8 127 1 6 E0 D κ (xw κ a ++ [(o, .inl (κ.2.1, 1, .inr (.inl (fun _ => 0))))]) sz [.ref (a 0), .int x0, .int x1, .ref o] (QI D κ (xw κ a ++ [(o, .inl (κ.2.1, 1, .inr (.inl (fun _ => 0))))]) sz 1 (fun qs : W1 => [(o, .inl (κ.2.1, 1, .inr (.inl (fun _ => 0))))])) := by
  refine NH.of (by decide +kernel) (Nat.le_of_ble_eq_true rfl) ?_
  intro p e s m below meth c ls hC hr hk htab hsz hE hT H locs hG hl
  have hx := hC.1
  have hb := hC.2.1
  have hl : lv_has ls 5 [(0, .ref (a 0)), (1, .int x0), (2, .int x1), (3, .ref o)] := hl
  refine lv_aload_n hx hb dL_earned_0 rfl (lv_at hl 3 rfl) ?_
  refine lv_iconst (v := 0) hx hb dL_earned_1 (by decide) ?_
  refine lv_aload_n hx hb dL_earned_2 rfl (lv_at hl 0 rfl) ?_
  refine lv_iload_n hx hb dL_earned_3 rfl (lv_at hl 1 rfl) ?_
  refine lv_iload_n hx hb dL_earned_4 rfl (lv_at hl 2 rfl) ?_
  have cut5 : Cut (xw κ a ++ [(o, .inl (κ.2.1, 1, .inr (.inl (fun _ => 0))))]) (xw κ a) ([(o, .inl (κ.2.1, 1, .inr (.inl (fun _ => 0))))]) := (Cut.one 45 rfl (by decide))
  refine zt_l hG cut5 (zx_V (k := 0) (ci := 7) (n := 2) (As := [.int x0, .int x1]) (rest := [.int 0, .ref o]) hC hG hE hT cut5 (z_235_earned l hst D κ E0 H.size a x0 x1 ⟨by omega, by omega⟩ ⟨by omega, by omega⟩) rfl rfl w1133 w2 w1136 w1134 w1135 (by decide +kernel) ⟨Nat.le_of_ble_eq_true rfl, Nat.le_of_ble_eq_true rfl⟩ rfl hl.1 rfl (Nat.le_of_ble_eq_true rfl) dL_earned_5 ⟨Nat.le_of_ble_eq_true rfl, Nat.le_of_ble_eq_true rfl⟩) (fun ce q9 H locs hG hz1 hz2 hz3 => ?_)
  refine vx_catch (own := RL) (name := "java/lang/IllegalArgumentException") (E := "java/lang/IllegalArgumentException") hC.2.2.2.1 [] ⟨0, 9, 12, 13⟩ [] htab (fun z hz => by simp at hz) (by decide) (by decide) (hC.2.2.2.2 _ w145) (va_Nw.use rfl (hT.1 ("java/lang/IllegalArgumentException", "java/lang/IllegalArgumentException") (by decide))) hz1 hz2 hz3 ?_
  refine lv_astore (lv' := [(4, .ref q9), (0, .ref (a 0)), (1, .int x0), (2, .int x1), (3, .ref o)]) hx hb dL_earned_12 hl (by decide) rfl (fun ls hl => ?_)
  refine lv_iconst (v := 1) hx hb dL_earned_14 (by decide) ?_
  exact ze_i (qs := fun _ => 0) hC hG rfl rfl hr rfl hk (Nat.le_of_ble_eq_true rfl) (Nat.le_of_ble_eq_true rfl) dL_earned_15
theorem dX14_isNoDay_15 : decode cX14_isNoDay 15 = .ok (.iconst 0, 1) := by decide +kernel
set_option maxHeartbeats 4000000 in
set_option maxRecDepth 100000 in
theorem z_237_isNoDay (l : Launch) (hst : l.stackTraces = false) (D : va_G) (κ : K4) (E0 : Nat) (sz : Nat) (b : Nat → Nat) (x0 : Int32) (k_x0 : 0 ≤ x0.toInt ∧ x0.toInt ≤ 364) : NM l yX14_isNoDay cX14_isNoDay 1 (some .boolean) 1 22 0 0 E0 D κ (mw κ b E0 0) sz [.int x0] (QI D κ (mw κ b E0 0) sz 0 (fun qs : W1 => mw κ b E0 0)) := by
  refine NM.of (by decide +kernel) (Nat.le_of_ble_eq_true rfl) ?_
  intro p e s m below meth c ls hC hr hk hin hsz hE hT H locs hG hl
  have hx := hC.1
  have hb := hC.2.1
  have hl : lv_has ls 1 [(0, .int x0)] := hl
  refine lv_iload_n hx hb dX14_isNoDay_0 rfl (lv_at hl 0 rfl) ?_
  refine lv_iconst (v := 0) hx hb dX14_isNoDay_1 (by decide) ?_
  refine lv_sipush (v := 364) hx hb dX14_isNoDay_2 (by decide) ?_
  have cut5 : Cut (mw κ b E0 0) (mw κ b E0 0) ([]) := (Cut.all 9 rfl (by decide))
  refine zc_i hG cut5 (zr_S (n := 3) (As := [.int x0, .int 0, .int 364]) (rest := []) hC hG hE hT cut5 (z_134_isIn l hst D κ E0 H.size b x0 ⟨by omega, by omega⟩) w167 w5 w169 w168 (by decide +kernel) ⟨Nat.le_of_ble_eq_true rfl, Nat.le_of_ble_eq_true rfl⟩ rfl hl.1 rfl (Nat.le_of_ble_eq_true rfl) dX14_isNoDay_5 ⟨Nat.le_of_ble_eq_true rfl, Nat.le_of_ble_eq_true rfl⟩) (fun z1 H locs hG => ?_)
  have hG : BW D κ (mw κ b E0 0) _ s H locs := hG
  refine lv_if_ne (tgt := 15) hx hb dX14_isNoDay_8 (by decide) (fun _ => ?_) (fun h8 => absurd h8 (by decide))
  refine lv_iconst (v := 0) hx hb dX14_isNoDay_15 (by decide) ?_
  exact ze_i (qs := fun _ => 0) hC hG rfl rfl hr rfl hk (Nat.le_of_ble_eq_true rfl) (Nat.le_of_ble_eq_true rfl) dX14_isNoDay_16
theorem dX14_earned_12 : decode cX14_earned 12 = .ok (.ifCond .eq 7, 3) := by decide +kernel
theorem dX14_earned_8 : decode cX14_earned 8 = .ok (.iload_n 2, 1) := by decide +kernel
theorem dX14_earned_9 : decode cX14_earned 9 = .ok (.invokestatic 342, 3) := by decide +kernel
set_option maxHeartbeats 4000000 in
set_option maxRecDepth 100000 in
theorem z_238_earned (l : Launch) (hst : l.stackTraces = false) (D : va_G) (κ : K4) (E0 : Nat) (sz : Nat) (b : Nat → Nat) (x0 : Int32) (x1 : Int32) (k_x0 : 0 ≤ x0.toInt ∧ x0.toInt ≤ 364) (k_x1 : -2147483648 ≤ x1.toInt ∧ x1.toInt ≤ -1) : NM l yX14_earned cX14_earned 8 (some .long) 2 44 0 0 E0 D κ (mw κ b E0 0) sz [.ref (b 0), .int x0, .int x1] (QL D κ (mw κ b E0 0) sz 0 (fun qs : W1 => mw κ b E0 1)) := by
  refine NM.of (by decide +kernel) (Nat.le_of_ble_eq_true rfl) ?_
  intro p e s m below meth c ls hC hr hk hin hsz hE hT H locs hG hl
  have hx := hC.1
  have hb := hC.2.1
  have hl : lv_has ls 8 [(0, .ref (b 0)), (1, .int x0), (2, .int x1)] := hl
  refine lv_aload_n hx hb dX14_earned_0 rfl (lv_at hl 0 rfl) ?_
  refine lv_iload_n hx hb dX14_earned_1 rfl (lv_at hl 1 rfl) ?_
  have cut2 : Cut (mw κ b E0 0) (mw κ b E0 0) ([]) := (Cut.all 9 rfl (by decide))
  refine zc_i hG cut2 (zr_S (n := 1) (As := [.int x0]) (rest := [.ref (b 0)]) hC hG hE hT cut2 (z_237_isNoDay l hst D κ E0 H.size b x0 ⟨by omega, by omega⟩) w1112 w5 w1114 w1113 (by decide +kernel) ⟨Nat.le_of_ble_eq_true rfl, Nat.le_of_ble_eq_true rfl⟩ rfl hl.1 rfl (Nat.le_of_ble_eq_true rfl) dX14_earned_2 ⟨Nat.le_of_ble_eq_true rfl, Nat.le_of_ble_eq_true rfl⟩) (fun z1 H locs hG => ?_)
  have hG : BW D κ (mw κ b E0 0) _ s H locs := hG
  refine lv_if_ne (tgt := 15) hx hb dX14_earned_5 (by decide) (fun h5 => absurd (by decide) h5) (fun _ => ?_)
  refine lv_iload_n hx hb dX14_earned_8 rfl (lv_at hl 2 rfl) ?_
  have cut9 : Cut (mw κ b E0 0) (mw κ b E0 0) ([]) := (Cut.all 9 rfl (by decide))
  refine zc_i hG cut9 (zr_S (n := 1) (As := [.int x1]) (rest := [.ref (b 0)]) hC hG hE hT cut9 (z_229_isNoDay l hst D κ E0 H.size b x1 ⟨by omega, by omega⟩) w1112 w5 w1114 w1113 (by decide +kernel) ⟨Nat.le_of_ble_eq_true rfl, Nat.le_of_ble_eq_true rfl⟩ rfl hl.1 rfl (Nat.le_of_ble_eq_true rfl) dX14_earned_9 ⟨Nat.le_of_ble_eq_true rfl, Nat.le_of_ble_eq_true rfl⟩) (fun z2 H locs hG => ?_)
  have hG : BW D κ (mw κ b E0 0) _ s H locs := hG
  refine lv_if_eq (tgt := 19) hx hb dX14_earned_12 (by decide) (fun h12 => absurd h12 (by decide)) (fun _ => ?_)
  refine lv_iconst (v := 1) hx hb dX14_earned_15 (by decide) ?_
  refine lv_goto (tgt := 20) hx hb dX14_earned_16 (by decide) ?_
  refine lv_iconst (v := 1) hx hb dX14_earned_20 (by decide) ?_
  have cut21 : Cut (mw κ b E0 0) (mw κ b E0 0) ([]) := (Cut.all 9 rfl (by decide))
  refine zc_i hG cut21 (zr_V (k := 0) (ci := 9) (n := 2) (As := [.int 1, .int 1]) (rest := []) hC hG hE hT cut21 (z_4_start l hst D κ E0 H.size b) rfl rfl w170 w5 w173 w171 w172 (by decide +kernel) ⟨Nat.le_of_ble_eq_true rfl, Nat.le_of_ble_eq_true rfl⟩ rfl hl.1 rfl (Nat.le_of_ble_eq_true rfl) dX14_earned_21 ⟨Nat.le_of_ble_eq_true rfl, Nat.le_of_ble_eq_true rfl⟩) (fun z3 H locs hG => ?_)
  have hG : BW D κ (mw κ b E0 1) _ s H locs := hG
  refine lv_if_eq (tgt := 29) hx hb dX14_earned_24 (by decide) (fun h24 => absurd h24 (by decide)) (fun _ => ?_)
  refine lv_lconst (v := 0) hx hb dX14_earned_27 (by decide) ?_
  exact ze_l (qs := fun _ => 0) hC hG rfl rfl hr hk (Nat.le_of_ble_eq_true rfl) (Nat.le_of_ble_eq_true rfl) dX14_earned_28
set_option maxHeartbeats 4000000 in
set_option maxRecDepth 100000 in
theorem z_239_earned (l : Launch) (hst : l.stackTraces = false) (D : va_G) (κ : K4) (E0 : Nat) (sz : Nat) (a : Nat → Nat) (x0 : Int32) (x1 : Int32) (k_x0 : 0 ≤ x0.toInt ∧ x0.toInt ≤ 364) (k_x1 : 365 ≤ x1.toInt ∧ x1.toInt ≤ 2147483647) : XM l yX7_earned cX7_earned 6 (some .long) 7 102 1 6 E0 D κ (xw κ a) sz [.ref (a 0), .int x0, .int x1] "java/lang/IllegalArgumentException" (NL (xw κ a) sz) := by
  refine XM.of (by decide +kernel) (Nat.le_of_ble_eq_true rfl) ?_
  intro p e s m below meth c ls hC hk hno hsz hE hT H locs hG hl
  have hx := hC.1
  have hb := hC.2.1
  have hl : lv_has ls 6 [(0, .ref (a 0)), (1, .int x0), (2, .int x1)] := hl
  refine lv_iload_n hx hb dX7_earned_0 rfl (lv_at hl 1 rfl) ?_
  have cut1 : Cut (xw κ a) (xw κ a) ([]) := (Cut.all 45 rfl (by decide))
  refine zc_v hG cut1 (zr_S (n := 1) (As := [.int x0]) (rest := []) hC hG hE hT cut1 (z_145_needDay l hst D κ E0 H.size a x0 ⟨by omega, by omega⟩) w413 w2 w415 w414 (by decide +kernel) ⟨Nat.le_of_ble_eq_true rfl, Nat.le_of_ble_eq_true rfl⟩ rfl hl.1 rfl (Nat.le_of_ble_eq_true rfl) dX7_earned_1 ⟨Nat.le_of_ble_eq_true rfl, Nat.le_of_ble_eq_true rfl⟩) (fun z1 H locs hG => ?_)
  have hG : BW D κ (xw κ a) _ s H locs := hG
  refine lv_iload_n hx hb dX7_earned_4 rfl (lv_at hl 2 rfl) ?_
  have cut5 : Cut (xw κ a) (xw κ a) ([]) := (Cut.all 45 rfl (by decide))
  refine zt_v hG cut5 (zx_S (n := 1) (As := [.int x1]) (rest := []) hC hG hE hT cut5 (z_141_needDay l hst D κ E0 H.size a x1 ⟨by omega, by omega⟩) w413 w2 w415 w414 (by decide +kernel) ⟨Nat.le_of_ble_eq_true rfl, Nat.le_of_ble_eq_true rfl⟩ rfl hl.1 rfl (Nat.le_of_ble_eq_true rfl) dX7_earned_5 ⟨Nat.le_of_ble_eq_true rfl, Nat.le_of_ble_eq_true rfl⟩) (fun ce q9 H locs hG hz1 hz2 hz3 => ?_)
  exact zt_out hno hk hG hz1 hz2 hz3 (Nat.le_of_ble_eq_true rfl) (Nat.le_of_ble_eq_true rfl)
