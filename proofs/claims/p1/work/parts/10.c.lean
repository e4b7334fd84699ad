theorem dX7_rate_0 : decode cX7_rate 0 = .ok (.iload_n 1, 1) := by decide +kernel
theorem dX7_rate_1 : decode cX7_rate 1 = .ok (.iconst 1, 1) := by decide +kernel
theorem dX7_rate_2 : decode cX7_rate 2 = .ok (.if_icmp .lt 19, 3) := by decide +kernel
theorem dX7_rate_21 : decode cX7_rate 21 = .ok (.new 71, 3) := by decide +kernel
theorem dX7_rate_24 : decode cX7_rate 24 = .ok (.dup, 1) := by decide +kernel
theorem dX7_rate_25 : decode cX7_rate 25 = .ok (.ldc 73, 2) := by decide +kernel
theorem dX7_rate_27 : decode cX7_rate 27 = .ok (.invokespecial 75, 3) := by decide +kernel
theorem dX7_rate_30 : decode cX7_rate 30 = .ok (.athrow, 1) := by decide +kernel
set_option maxHeartbeats 4000000 in
set_option maxRecDepth 100000 in
theorem z_0_rate (l : Launch) (hst : l.stackTraces = false) (D : va_G) (κ : K4) (E0 : Nat) (sz : Nat) (a : Nat → Nat) (x0 : Int32) (x1 : Int32) (k_x0 : -2147483648 ≤ x0.toInt ∧ x0.toInt ≤ 0) (k_x1 : -2147483648 ≤ x1.toInt ∧ x1.toInt ≤ 2147483647) : XM l yX7_rate cX7_rate 4 (some .int) 6 82 1 6 E0 D κ (xw κ a) sz [.ref (a 0), .int x0, .int x1] "java/lang/IllegalArgumentException" (NI (xw κ a) sz) := by
  refine XM.of (by decide +kernel) (Nat.le_of_ble_eq_true rfl) ?_
  intro p e s m below meth c ls hC hk hno hsz hE hT H locs hG hl
  have hx := hC.1
  have hb := hC.2.1
  have hl : lv_has ls 4 [(0, .ref (a 0)), (1, .int x0), (2, .int x1)] := hl
  refine lv_iload_n hx hb dX7_rate_0 rfl (lv_at hl 1 rfl) ?_
  refine lv_iconst (v := 1) hx hb dX7_rate_1 (by decide) ?_
  refine lv_icmp_lt (tgt := 21) hx hb dX7_rate_2 (by decide) (fun _ => ?_) (fun h2 => absurd (Int32.lt_iff_toInt_lt.mpr (by have e1 : (1 : Int32).toInt = 1 := (by decide); omega)) h2)
  exact th_IA hC hst hE hT hno hk hG hl.1 (List.mem_of_getElem? (i := 9) rfl) w150 w151 dX7_rate_21 dX7_rate_24 dX7_rate_25 dX7_rate_27 dX7_rate_30 (Nat.le_of_ble_eq_true rfl) (Nat.le_of_ble_eq_true rfl) (Nat.le_of_ble_eq_true rfl) (Nat.le_of_ble_eq_true rfl) (Nat.le_of_ble_eq_true rfl) (Nat.le_of_ble_eq_true rfl)
theorem dL_rate_0 : decode cL_rate 0 = .ok (.aload_n 3, 1) := by decide +kernel
theorem dL_rate_1 : decode cL_rate 1 = .ok (.iconst 0, 1) := by decide +kernel
theorem dL_rate_13 : decode cL_rate 13 = .ok (.astore 4, 2) := by decide +kernel
theorem dL_rate_15 : decode cL_rate 15 = .ok (.iconst 1, 1) := by decide +kernel
theorem dL_rate_16 : decode cL_rate 16 = .ok (.ireturn, 1) := by decide +kernel
theorem dL_rate_2 : decode cL_rate 2 = .ok (.aload_n 0, 1) := by decide +kernel
theorem dL_rate_3 : decode cL_rate 3 = .ok (.iload_n 1, 1) := by decide +kernel
theorem dL_rate_4 : decode cL_rate 4 = .ok (.iload_n 2, 1) := by decide +kernel
theorem dL_rate_5 : decode cL_rate 5 = .ok (.invokevirtual 7, 3) := by decide +kernel
set_option maxHeartbeats 4000000 in
set_option maxRecDepth 100000 in
theorem z_1_rate (l : Launch) (hst : l.stackTraces = false) (D : va_G) (κ : K4) (E0 : Nat) (sz : Nat) (a : Nat → Nat) (x0 : Int32) (x1 : Int32) (o : Nat) (k_x0 : -2147483648 ≤ x0.toInt ∧ x0.toInt ≤ 0) (k_x1 : -2147483648 ≤ x1.toInt ∧ x1.toInt ≤ 2147483647) : NH l yL_rate cL_rate 5 (some .int) [(0, 10, 13, 13), (0, 10, 17, 15)] 7 105 1 6 E0 D κ (xw κ a ++ [(o, .inl (κ.2.1, 1, .inr (.inl (fun _ => 0))))]) sz [.ref (a 0), .int x0, .int x1, .ref o] (QI D κ (xw κ a ++ [(o, .inl (κ.2.1, 1, .inr (.inl (fun _ => 0))))]) sz 1 (fun qs : W1 => [(o, .inl (κ.2.1, 1, .inr (.inl (fun _ => 0))))])) := by
  refine NH.of (by decide +kernel) (Nat.le_of_ble_eq_true rfl) ?_
  intro p e s m below meth c ls hC hr hk htab hsz hE hT H locs hG hl
  have hx := hC.1
  have hb := hC.2.1
  have hl : lv_has ls 5 [(0, .ref (a 0)), (1, .int x0), (2, .int x1), (3, .ref o)] := hl
  refine lv_aload_n hx hb dL_rate_0 rfl (lv_at hl 3 rfl) ?_
  refine lv_iconst (v := 0) hx hb dL_rate_1 (by decide) ?_
  refine lv_aload_n hx hb dL_rate_2 rfl (lv_at hl 0 rfl) ?_
  refine lv_iload_n hx hb dL_rate_3 rfl (lv_at hl 1 rfl) ?_
  refine lv_iload_n hx hb dL_rate_4 rfl (lv_at hl 2 rfl) ?_
  have cut5 : Cut (xw κ a ++ [(o, .inl (κ.2.1, 1, .inr (.inl (fun _ => 0))))]) (xw κ a) ([(o, .inl (κ.2.1, 1, .inr (.inl (fun _ => 0))))]) := (Cut.one 45 rfl (by decide))
  refine zt_i hG cut5 (zx_V (k := 0) (ci := 7) (n := 2) (As := [.int x0, .int x1]) (rest := [.int 0, .ref o]) hC hG hE hT cut5 (z_0_rate l hst D κ E0 H.size a x0 x1 ⟨by omega, by omega⟩ ⟨by omega, by omega⟩) rfl rfl w146 w2 w149 w147 w148 (by decide +kernel) ⟨Nat.le_of_ble_eq_true rfl, Nat.le_of_ble_eq_true rfl⟩ rfl hl.1 rfl (Nat.le_of_ble_eq_true rfl) dL_rate_5 ⟨Nat.le_of_ble_eq_true rfl, Nat.le_of_ble_eq_true rfl⟩) (fun ce q9 H locs hG hz1 hz2 hz3 => ?_)
  refine vx_catch (own := RL) (name := "java/lang/IllegalArgumentException") (E := "java/lang/IllegalArgumentException") hC.2.2.2.1 [] ⟨0, 10, 13, 13⟩ [⟨0, 10, 17, 15⟩] htab (fun z hz => by simp at hz) (by decide) (by decide) (hC.2.2.2.2 _ w145) (va_Nw.use rfl (hT.1 ("java/lang/IllegalArgumentException", "java/lang/IllegalArgumentException") (by decide))) hz1 hz2 hz3 ?_
  refine lv_astore (lv' := [(4, .ref q9), (0, .ref (a 0)), (1, .int x0), (2, .int x1), (3, .ref o)]) hx hb dL_rate_13 hl (by decide) rfl (fun ls hl => ?_)
  refine lv_iconst (v := 1) hx hb dL_rate_15 (by decide) ?_
  exact ze_i (qs := fun _ => 0) hC hG rfl rfl hr rfl hk (Nat.le_of_ble_eq_true rfl) (Nat.le_of_ble_eq_true rfl) dL_rate_16
theorem dX14_isIn_0 : decode cX14_isIn 0 = .ok (.iload_n 0, 1) := by decide +kernel
theorem dX14_isIn_1 : decode cX14_isIn 1 = .ok (.iload_n 1, 1) := by decide +kernel
theorem dX14_isIn_14 : decode cX14_isIn 14 = .ok (.iconst 0, 1) := by decide +kernel
theorem dX14_isIn_15 : decode cX14_isIn 15 = .ok (.ireturn, 1) := by decide +kernel
theorem dX14_isIn_2 : decode cX14_isIn 2 = .ok (.if_icmp .lt 12, 3) := by decide +kernel
set_option maxHeartbeats 4000000 in
set_option maxRecDepth 100000 in
theorem z_2_isIn (l : Launch) (hst : l.stackTraces = false) (D : va_G) (κ : K4) (E0 : Nat) (sz : Nat) (b : Nat → Nat) (x0 : Int32) (k_x0 : -2147483648 ≤ x0.toInt ∧ x0.toInt ≤ 0) : NM l yX14_isIn cX14_isIn 3 (some .boolean) 0 0 0 0 E0 D κ (mw κ b E0 0) sz [.int x0, .int 1, .int 3] (QI D κ (mw κ b E0 0) sz 0 (fun qs : W1 => mw κ b E0 0)) := by
  refine NM.of (by decide +kernel) (Nat.le_of_ble_eq_true rfl) ?_
  intro p e s m below meth c ls hC hr hk hin hsz hE hT H locs hG hl
  have hx := hC.1
  have hb := hC.2.1
  have hl : lv_has ls 3 [(0, .int x0), (1, .int 1), (2, .int 3)] := hl
  refine lv_iload_n hx hb dX14_isIn_0 rfl (lv_at hl 0 rfl) ?_
  refine lv_iload_n hx hb dX14_isIn_1 rfl (lv_at hl 1 rfl) ?_
  refine lv_icmp_lt (tgt := 14) hx hb dX14_isIn_2 (by decide) (fun _ => ?_) (fun h2 => absurd (Int32.lt_iff_toInt_lt.mpr (by have e1 : (1 : Int32).toInt = 1 := (by decide); omega)) h2)
  refine lv_iconst (v := 0) hx hb dX14_isIn_14 (by decide) ?_
  exact ze_i (qs := fun _ => 0) hC hG rfl rfl hr rfl hk (Nat.le_of_ble_eq_true rfl) (Nat.le_of_ble_eq_true rfl) dX14_isIn_15
theorem dX14_refuse_0 : decode cX14_refuse 0 = .ok (.iload_n 1, 1) := by decide +kernel
theorem dX14_refuse_1 : decode cX14_refuse 1 = .ok (.ifCond .eq 15, 3) := by decide +kernel
theorem dX14_refuse_11 : decode cX14_refuse 11 = .ok (.aload_n 0, 1) := by decide +kernel
theorem dX14_refuse_12 : decode cX14_refuse 12 = .ok (.iload_n 2, 1) := by decide +kernel
theorem dX14_refuse_13 : decode cX14_refuse 13 = .ok (.putfield 42, 3) := by decide +kernel
theorem dX14_refuse_16 : decode cX14_refuse 16 = .ok (.aload_n 0, 1) := by decide +kernel
theorem dX14_refuse_17 : decode cX14_refuse 17 = .ok (.getfield 42, 3) := by decide +kernel
theorem dX14_refuse_20 : decode cX14_refuse 20 = .ok (.ifCond .le 7, 3) := by decide +kernel
theorem dX14_refuse_23 : decode cX14_refuse 23 = .ok (.iconst 1, 1) := by decide +kernel
theorem dX14_refuse_24 : decode cX14_refuse 24 = .ok (.goto 4, 3) := by decide +kernel
theorem dX14_refuse_28 : decode cX14_refuse 28 = .ok (.ireturn, 1) := by decide +kernel
theorem dX14_refuse_4 : decode cX14_refuse 4 = .ok (.aload_n 0, 1) := by decide +kernel
theorem dX14_refuse_5 : decode cX14_refuse 5 = .ok (.getfield 42, 3) := by decide +kernel
theorem dX14_refuse_8 : decode cX14_refuse 8 = .ok (.ifCond .ne 8, 3) := by decide +kernel
set_option maxHeartbeats 4000000 in
set_option maxRecDepth 100000 in
theorem z_3_refuse (l : Launch) (hst : l.stackTraces = false) (D : va_G) (κ : K4) (E0 : Nat) (sz : Nat) (b : Nat → Nat) : NM l yX14_refuse cX14_refuse 3 (some .boolean) 0 0 0 0 E0 D κ (mw κ b E0 0) sz [.ref (b 0), .int 1, .int 1] (QI D κ (mw κ b E0 0) sz 1 (fun qs : W1 => mw κ b E0 1)) := by
  refine NM.of (by decide +kernel) (Nat.le_of_ble_eq_true rfl) ?_
  intro p e s m below meth c ls hC hr hk hin hsz hE hT H locs hG hl
  have hx := hC.1
  have hb := hC.2.1
  have hl : lv_has ls 3 [(0, .ref (b 0)), (1, .int 1), (2, .int 1)] := hl
  refine lv_iload_n hx hb dX14_refuse_0 rfl (lv_at hl 1 rfl) ?_
  refine lv_if_eq (tgt := 16) hx hb dX14_refuse_1 (by decide) (fun h1 => absurd h1 (by decide)) (fun _ => ?_)
  refine lv_aload_n hx hb dX14_refuse_4 rfl (lv_at hl 0 rfl) ?_
  refine bw_get (C := RX14) (T := TX14) (N := 15) (ci := 9) (v := .int 0) 0 (by decide) 0 hC hG iwX14 rfl rfl w174 rfl rfl dX14_refuse_5 ?_
  refine lv_if_ne (tgt := 16) hx hb dX14_refuse_8 (by decide) (fun h8 => absurd (by decide) h8) (fun _ => ?_)
  refine lv_aload_n hx hb dX14_refuse_11 rfl (lv_at hl 0 rfl) ?_
  refine lv_iload_n hx hb dX14_refuse_12 rfl (lv_at hl 2 rfl) ?_
  refine bw_put (C := RX14) (T := TX14) (N := 15) (ci := 9) (ty0 := tyX14) (ty := .int) (v := .int 1) 0 (by decide) 0 hC hG iwX14 tyX14_ok nmX14 rfl rfl w174 rfl (Or.inl rfl) (by decide +kernel) rfl rfl (Nat.le_of_ble_eq_true rfl) dX14_refuse_13 (fun H locs hG => ?_)
  have hG : BW D κ (mw κ b E0 1) _ s H locs := hG
  refine lv_aload_n hx hb dX14_refuse_16 rfl (lv_at hl 0 rfl) ?_
  refine bw_get (C := RX14) (T := TX14) (N := 15) (ci := 9) (v := .int 1) 0 (by decide) 0 hC hG iwX14 rfl rfl w174 rfl rfl dX14_refuse_17 ?_
  refine lv_if_le (tgt := 27) hx hb dX14_refuse_20 (by decide) (fun h20 => absurd h20 (by decide)) (fun _ => ?_)
  refine lv_iconst (v := 1) hx hb dX14_refuse_23 (by decide) ?_
  refine lv_goto (tgt := 28) hx hb dX14_refuse_24 (by decide) ?_
  exact ze_i (qs := fun _ => 0) hC hG rfl rfl hr rfl hk (Nat.le_of_ble_eq_true rfl) (Nat.le_of_ble_eq_true rfl) dX14_refuse_28
theorem dX14_start_0 : decode cX14_start 0 = .ok (.aload_n 0, 1) := by decide +kernel
theorem dX14_start_1 : decode cX14_start 1 = .ok (.iconst 0, 1) := by decide +kernel
theorem dX14_start_11 : decode cX14_start 11 = .ok (.ireturn, 1) := by decide +kernel
theorem dX14_start_2 : decode cX14_start 2 = .ok (.putfield 42, 3) := by decide +kernel
theorem dX14_start_5 : decode cX14_start 5 = .ok (.aload_n 0, 1) := by decide +kernel
theorem dX14_start_6 : decode cX14_start 6 = .ok (.iload_n 1, 1) := by decide +kernel
theorem dX14_start_7 : decode cX14_start 7 = .ok (.iload_n 2, 1) := by decide +kernel
theorem dX14_start_8 : decode cX14_start 8 = .ok (.invokevirtual 45, 3) := by decide +kernel
set_option maxHeartbeats 4000000 in
set_option maxRecDepth 100000 in
theorem z_4_start (l : Launch) (hst : l.stackTraces = false) (D : va_G) (κ : K4) (E0 : Nat) (sz : Nat) (b : Nat → Nat) : NM l yX14_start cX14_start 3 (some .boolean) 1 22 0 0 E0 D κ (mw κ b E0 0) sz [.ref (b 0), .int 1, .int 1] (QI D κ (mw κ b E0 0) sz 1 (fun qs : W1 => mw κ b E0 1)) := by
  refine NM.of (by decide +kernel) (Nat.le_of_ble_eq_true rfl) ?_
  intro p e s m below meth c ls hC hr hk hin hsz hE hT H locs hG hl
  have hx := hC.1
  have hb := hC.2.1
  have hl : lv_has ls 3 [(0, .ref (b 0)), (1, .int 1), (2, .int 1)] := hl
  refine lv_aload_n hx hb dX14_start_0 rfl (lv_at hl 0 rfl) ?_
  refine lv_iconst (v := 0) hx hb dX14_start_1 (by decide) ?_
  refine bw_put (C := RX14) (T := TX14) (N := 15) (ci := 9) (ty0 := tyX14) (ty := .int) (v := .int 0) 0 (by decide) 0 hC hG iwX14 tyX14_ok nmX14 rfl rfl w174 rfl (Or.inl rfl) (by decide +kernel) rfl rfl (Nat.le_of_ble_eq_true rfl) dX14_start_2 (fun H locs hG => ?_)
  have hG : BW D κ (mw κ b E0 0) _ s H locs := hG
  refine lv_aload_n hx hb dX14_start_5 rfl (lv_at hl 0 rfl) ?_
  refine lv_iload_n hx hb dX14_start_6 rfl (lv_at hl 1 rfl) ?_
  refine lv_iload_n hx hb dX14_start_7 rfl (lv_at hl 2 rfl) ?_
  have cut8 : Cut (mw κ b E0 0) (mw κ b E0 0) ([]) := (Cut.all 9 rfl (by decide))
  refine zc_i hG cut8 (zr_V (k := 0) (ci := 9) (n := 2) (As := [.int 1, .int 1]) (rest := []) hC hG hE hT cut8 (z_3_refuse l hst D κ E0 H.size b) rfl rfl w175 w5 w178 w176 w177 (by decide +kernel) ⟨Nat.le_of_ble_eq_true rfl, Nat.le_of_ble_eq_true rfl⟩ rfl hl.1 rfl (Nat.le_of_ble_eq_true rfl) dX14_start_8 ⟨Nat.le_of_ble_eq_true rfl, Nat.le_of_ble_eq_true rfl⟩) (fun z1 H locs hG => ?_)
  have hG : BW D κ (mw κ b E0 1) _ s H locs := hG
  exact ze_i (qs := fun _ => 0) hC hG rfl rfl hr rfl hk (Nat.le_of_ble_eq_true rfl) (Nat.le_of_ble_eq_true rfl) dX14_start_11
theorem dX14_rate_0 : decode cX14_rate 0 = .ok (.aload_n 0, 1) := by decide +kernel
theorem dX14_rate_1 : decode cX14_rate 1 = .ok (.iload_n 1, 1) := by decide +kernel
theorem dX14_rate_2 : decode cX14_rate 2 = .ok (.iconst 1, 1) := by decide +kernel
theorem dX14_rate_20 : decode cX14_rate 20 = .ok (.iconst 1, 1) := by decide +kernel
theorem dX14_rate_21 : decode cX14_rate 21 = .ok (.goto 4, 3) := by decide +kernel
theorem dX14_rate_25 : decode cX14_rate 25 = .ok (.iconst 1, 1) := by decide +kernel
theorem dX14_rate_26 : decode cX14_rate 26 = .ok (.invokevirtual 61, 3) := by decide +kernel
theorem dX14_rate_29 : decode cX14_rate 29 = .ok (.ifCond .eq 5, 3) := by decide +kernel
theorem dX14_rate_3 : decode cX14_rate 3 = .ok (.iconst 3, 1) := by decide +kernel
theorem dX14_rate_32 : decode cX14_rate 32 = .ok (.iconst 0, 1) := by decide +kernel
theorem dX14_rate_33 : decode cX14_rate 33 = .ok (.ireturn, 1) := by decide +kernel
theorem dX14_rate_4 : decode cX14_rate 4 = .ok (.invokestatic 53, 3) := by decide +kernel
theorem dX14_rate_7 : decode cX14_rate 7 = .ok (.ifCond .eq 13, 3) := by decide +kernel
set_option maxHeartbeats 4000000 in
set_option maxRecDepth 100000 in
theorem z_5_rate (l : Launch) (hst : l.stackTraces = false) (D : va_G) (κ : K4) (E0 : Nat) (sz : Nat) (b : Nat → Nat) (x0 : Int32) (x1 : Int32) (k_x0 : -2147483648 ≤ x0.toInt ∧ x0.toInt ≤ 0) (k_x1 : -2147483648 ≤ x1.toInt ∧ x1.toInt ≤ 2147483647) : NM l yX14_rate cX14_rate 5 (some .int) 2 44 0 0 E0 D κ (mw κ b E0 0) sz [.ref (b 0), .int x0, .int x1] (QI D κ (mw κ b E0 0) sz 0 (fun qs : W1 => mw κ b E0 1)) := by
  refine NM.of (by decide +kernel) (Nat.le_of_ble_eq_true rfl) ?_
  intro p e s m below meth c ls hC hr hk hin hsz hE hT H locs hG hl
  have hx := hC.1
  have hb := hC.2.1
  have hl : lv_has ls 5 [(0, .ref (b 0)), (1, .int x0), (2, .int x1)] := hl
  refine lv_aload_n hx hb dX14_rate_0 rfl (lv_at hl 0 rfl) ?_
  refine lv_iload_n hx hb dX14_rate_1 rfl (lv_at hl 1 rfl) ?_
  refine lv_iconst (v := 1) hx hb dX14_rate_2 (by decide) ?_
  refine lv_iconst (v := 3) hx hb dX14_rate_3 (by decide) ?_
  have cut4 : Cut (mw κ b E0 0) (mw κ b E0 0) ([]) := (Cut.all 9 rfl (by decide))
  refine zc_i hG cut4 (zr_S (n := 3) (As := [.int x0, .int 1, .int 3]) (rest := [.ref (b 0)]) hC hG hE hT cut4 (z_2_isIn l hst D κ E0 H.size b x0 ⟨by omega, by omega⟩) w167 w5 w169 w168 (by decide +kernel) ⟨Nat.le_of_ble_eq_true rfl, Nat.le_of_ble_eq_true rfl⟩ rfl hl.1 rfl (Nat.le_of_ble_eq_true rfl) dX14_rate_4 ⟨Nat.le_of_ble_eq_true rfl, Nat.le_of_ble_eq_true rfl⟩) (fun z1 H locs hG => ?_)
  have hG : BW D κ (mw κ b E0 0) _ s H locs := hG
  refine lv_if_eq (tgt := 20) hx hb dX14_rate_7 (by decide) (fun _ => ?_) (fun h7 => absurd (by decide) h7)
  refine lv_iconst (v := 1) hx hb dX14_rate_20 (by decide) ?_
  refine lv_goto (tgt := 25) hx hb dX14_rate_21 (by decide) ?_
  refine lv_iconst (v := 1) hx hb dX14_rate_25 (by decide) ?_
  have cut26 : Cut (mw κ b E0 0) (mw κ b E0 0) ([]) := (Cut.all 9 rfl (by decide))
  refine zc_i hG cut26 (zr_V (k := 0) (ci := 9) (n := 2) (As := [.int 1, .int 1]) (rest := []) hC hG hE hT cut26 (z_4_start l hst D κ E0 H.size b) rfl rfl w170 w5 w173 w171 w172 (by decide +kernel) ⟨Nat.le_of_ble_eq_true rfl, Nat.le_of_ble_eq_true rfl⟩ rfl hl.1 rfl (Nat.le_of_ble_eq_true rfl) dX14_rate_26 ⟨Nat.le_of_ble_eq_true rfl, Nat.le_of_ble_eq_true rfl⟩) (fun z2 H locs hG => ?_)
  have hG : BW D κ (mw κ b E0 1) _ s H locs := hG
  refine lv_if_eq (tgt := 34) hx hb dX14_rate_29 (by decide) (fun h29 => absurd h29 (by decide)) (fun _ => ?_)
  refine lv_iconst (v := 0) hx hb dX14_rate_32 (by decide) ?_
  exact ze_i (qs := fun _ => 0) hC hG rfl rfl hr rfl hk (Nat.le_of_ble_eq_true rfl) (Nat.le_of_ble_eq_true rfl) dX14_rate_33
theorem dX14_thrown_0 : decode cX14_thrown 0 = .ok (.aload_n 0, 1) := by decide +kernel
theorem dX14_thrown_1 : decode cX14_thrown 1 = .ok (.getfield 42, 3) := by decide +kernel
theorem dX14_thrown_4 : decode cX14_thrown 4 = .ok (.ireturn, 1) := by decide +kernel
set_option maxHeartbeats 4000000 in
set_option maxRecDepth 100000 in
theorem z_6_thrown (l : Launch) (hst : l.stackTraces = false) (D : va_G) (κ : K4) (E0 : Nat) (sz : Nat) (b : Nat → Nat) : NM l yX14_thrown cX14_thrown 1 (some .int) 0 0 0 0 E0 D κ ([(b 0, .inr (9, [.int 1, .ref (b 1), .ref (b 2), .ref (b 3), .ref (b 4), .ref (b 5), .ref (b 6), .ref (b 7), .null, .int 0, .int (-1), .int 0, .int 0, .int 0, .ref (b 8)]))]) sz [.ref (b 0)] (QI D κ ([(b 0, .inr (9, [.int 1, .ref (b 1), .ref (b 2), .ref (b 3), .ref (b 4), .ref (b 5), .ref (b 6), .ref (b 7), .null, .int 0, .int (-1), .int 0, .int 0, .int 0, .ref (b 8)]))]) sz 1 (fun qs : W1 => [(b 0, .inr (9, [.int 1, .ref (b 1), .ref (b 2), .ref (b 3), .ref (b 4), .ref (b 5), .ref (b 6), .ref (b 7), .null, .int 0, .int (-1), .int 0, .int 0, .int 0, .ref (b 8)]))])) := by
  refine NM.of (by decide +kernel) (Nat.le_of_ble_eq_true rfl) ?_
  intro p e s m below meth c ls hC hr hk hin hsz hE hT H locs hG hl
  have hx := hC.1
  have hb := hC.2.1
  have hl : lv_has ls 1 [(0, .ref (b 0))] := hl
  refine lv_aload_n hx hb dX14_thrown_0 rfl (lv_at hl 0 rfl) ?_
  refine bw_get (C := RX14) (T := TX14) (N := 15) (ci := 9) (v := .int 1) 0 (by decide) 0 hC hG iwX14 rfl rfl w174 rfl rfl dX14_thrown_1 ?_
  exact ze_i (qs := fun _ => 0) hC hG rfl rfl hr rfl hk (Nat.le_of_ble_eq_true rfl) (Nat.le_of_ble_eq_true rfl) dX14_thrown_4
theorem dX7_rate_5 : decode cX7_rate 5 = .ok (.iload_n 1, 1) := by decide +kernel
theorem dX7_rate_6 : decode cX7_rate 6 = .ok (.iconst 3, 1) := by decide +kernel
theorem dX7_rate_7 : decode cX7_rate 7 = .ok (.if_icmp .gt 14, 3) := by decide +kernel
set_option maxHeartbeats 4000000 in
set_option maxRecDepth 100000 in
theorem z_7_rate (l : Launch) (hst : l.stackTraces = false) (D : va_G) (κ : K4) (E0 : Nat) (sz : Nat) (a : Nat → Nat) (x0 : Int32) (x1 : Int32) (k_x0 : 4 ≤ x0.toInt ∧ x0.toInt ≤ 2147483647) (k_x1 : -2147483648 ≤ x1.toInt ∧ x1.toInt ≤ 2147483647) : XM l yX7_rate cX7_rate 4 (some .int) 6 82 1 6 E0 D κ (xw κ a) sz [.ref (a 0), .int x0, .int x1] "java/lang/IllegalArgumentException" (NI (xw κ a) sz) := by
  refine XM.of (by decide +kernel) (Nat.le_of_ble_eq_true rfl) ?_
  intro p e s m below meth c ls hC hk hno hsz hE hT H locs hG hl
  have hx := hC.1
  have hb := hC.2.1
  have hl : lv_has ls 4 [(0, .ref (a 0)), (1, .int x0), (2, .int x1)] := hl
  refine lv_iload_n hx hb dX7_rate_0 rfl (lv_at hl 1 rfl) ?_
  refine lv_iconst (v := 1) hx hb dX7_rate_1 (by decide) ?_
  refine lv_icmp_lt (tgt := 21) hx hb dX7_rate_2 (by decide) (fun h2 => absurd h2 (mt Int32.lt_iff_toInt_lt.mp (by have e1 : (1 : Int32).toInt = 1 := (by decide); omega))) (fun _ => ?_)
  refine lv_iload_n hx hb dX7_rate_5 rfl (lv_at hl 1 rfl) ?_
  refine lv_iconst (v := 3) hx hb dX7_rate_6 (by decide) ?_
  refine lv_icmp_gt (tgt := 21) hx hb dX7_rate_7 (by decide) (fun _ => ?_) (fun h7 => absurd (Int32.lt_iff_toInt_lt.mpr (by have e0 : (3 : Int32).toInt = 3 := (by decide); omega)) h7)
  exact th_IA hC hst hE hT hno hk hG hl.1 (List.mem_of_getElem? (i := 9) rfl) w150 w151 dX7_rate_21 dX7_rate_24 dX7_rate_25 dX7_rate_27 dX7_rate_30 (Nat.le_of_ble_eq_true rfl) (Nat.le_of_ble_eq_true rfl) (Nat.le_of_ble_eq_true rfl) (Nat.le_of_ble_eq_true rfl) (Nat.le_of_ble_eq_true rfl) (Nat.le_of_ble_eq_true rfl)
set_option maxHeartbeats 4000000 in
set_option maxRecDepth 100000 in
theorem z_8_rate (l : Launch) (hst : l.stackTraces = false) (D : va_G) (κ : K4) (E0 : Nat) (sz : Nat) (a : Nat → Nat) (x0 : Int32) (x1 : Int32) (o : Nat) (k_x0 : 4 ≤ x0.toInt ∧ x0.toInt ≤ 2147483647) (k_x1 : -2147483648 ≤ x1.toInt ∧ x1.toInt ≤ 2147483647) : NH l yL_rate cL_rate 5 (some .int) [(0, 10, 13, 13), (0, 10, 17, 15)] 7 105 1 6 E0 D κ (xw κ a ++ [(o, .inl (κ.2.1, 1, .inr (.inl (fun _ => 0))))]) sz [.ref (a 0), .int x0, .int x1, .ref o] (QI D κ (xw κ a ++ [(o, .inl (κ.2.1, 1, .inr (.inl (fun _ => 0))))]) sz 1 (fun qs : W1 => [(o, .inl (κ.2.1, 1, .inr (.inl (fun _ => 0))))])) := by
  refine NH.of (by decide +kernel) (Nat.le_of_ble_eq_true rfl) ?_
  intro p e s m below meth c ls hC hr hk htab hsz hE hT H locs hG hl
  have hx := hC.1
  have hb := hC.2.1
  have hl : lv_has ls 5 [(0, .ref (a 0)), (1, .int x0), (2, .int x1), (3, .ref o)] := hl
  refine lv_aload_n hx hb dL_rate_0 rfl (lv_at hl 3 rfl) ?_
  refine lv_iconst (v := 0) hx hb dL_rate_1 (by decide) ?_
  refine lv_aload_n hx hb dL_rate_2 rfl (lv_at hl 0 rfl) ?_
  refine lv_iload_n hx hb dL_rate_3 rfl (lv_at hl 1 rfl) ?_
  refine lv_iload_n hx hb dL_rate_4 rfl (lv_at hl 2 rfl) ?_
  have cut5 : Cut (xw κ a ++ [(o, .inl (κ.2.1, 1, .inr (.inl (fun _ => 0))))]) (xw κ a) ([(o, .inl (κ.2.1, 1, .inr (.inl (fun _ => 0))))]) := (Cut.one 45 rfl (by decide))
  refine zt_i hG cut5 (zx_V (k := 0) (ci := 7) (n := 2) (As := [.int x0, .int x1]) (rest := [.int 0, .ref o]) hC hG hE hT cut5 (z_7_rate l hst D κ E0 H.size a x0 x1 ⟨by omega, by omega⟩ ⟨by omega, by omega⟩) rfl rfl w146 w2 w149 w147 w148 (by decide +kernel) ⟨Nat.le_of_ble_eq_true rfl, Nat.le_of_ble_eq_true rfl⟩ rfl hl.1 rfl (Nat.le_of_ble_eq_true rfl) dL_rate_5 ⟨Nat.le_of_ble_eq_true rfl, Nat.le_of_ble_eq_true rfl⟩) (fun ce q9 H locs hG hz1 hz2 hz3 => ?_)
  refine vx_catch (own := RL) (name := "java/lang/IllegalArgumentException") (E := "java/lang/IllegalArgumentException") hC.2.2.2.1 [] ⟨0, 10, 13, 13⟩ [⟨0, 10, 17, 15⟩] htab (fun z hz => by simp at hz) (by decide) (by decide) (hC.2.2.2.2 _ w145) (va_Nw.use rfl (hT.1 ("java/lang/IllegalArgumentException", "java/lang/IllegalArgumentException") (by decide))) hz1 hz2 hz3 ?_
  refine lv_astore (lv' := [(4, .ref q9), (0, .ref (a 0)), (1, .int x0), (2, .int x1), (3, .ref o)]) hx hb dL_rate_13 hl (by decide) rfl (fun ls hl => ?_)
  refine lv_iconst (v := 1) hx hb dL_rate_15 (by decide) ?_
  exact ze_i (qs := fun _ => 0) hC hG rfl rfl hr rfl hk (Nat.le_of_ble_eq_true rfl) (Nat.le_of_ble_eq_true rfl) dL_rate_16
theorem dX14_isIn_5 : decode cX14_isIn 5 = .ok (.iload_n 0, 1) := by decide +kernel
theorem dX14_isIn_6 : decode cX14_isIn 6 = .ok (.iload_n 2, 1) := by decide +kernel
theorem dX14_isIn_7 : decode cX14_isIn 7 = .ok (.if_icmp .gt 7, 3) := by decide +kernel
set_option maxHeartbeats 4000000 in
set_option maxRecDepth 100000 in
theorem z_9_isIn (l : Launch) (hst : l.stackTraces = false) (D : va_G) (κ : K4) (E0 : Nat) (sz : Nat) (b : Nat → Nat) (x0 : Int32) (k_x0 : 4 ≤ x0.toInt ∧ x0.toInt ≤ 2147483647) : NM l yX14_isIn cX14_isIn 3 (some .boolean) 0 0 0 0 E0 D κ (mw κ b E0 0) sz [.int x0, .int 1, .int 3] (QI D κ (mw κ b E0 0) sz 0 (fun qs : W1 => mw κ b E0 0)) := by
  refine NM.of (by decide +kernel) (Nat.le_of_ble_eq_true rfl) ?_
  intro p e s m below meth c ls hC hr hk hin hsz hE hT H locs hG hl
  have hx := hC.1
  have hb := hC.2.1
  have hl : lv_has ls 3 [(0, .int x0), (1, .int 1), (2, .int 3)] := hl
  refine lv_iload_n hx hb dX14_isIn_0 rfl (lv_at hl 0 rfl) ?_
  refine lv_iload_n hx hb dX14_isIn_1 rfl (lv_at hl 1 rfl) ?_
  refine lv_icmp_lt (tgt := 14) hx hb dX14_isIn_2 (by decide) (fun h2 => absurd h2 (mt Int32.lt_iff_toInt_lt.mp (by have e1 : (1 : Int32).toInt = 1 := (by decide); omega))) (fun _ => ?_)
  refine lv_iload_n hx hb dX14_isIn_5 rfl (lv_at hl 0 rfl) ?_
  refine lv_iload_n hx hb dX14_isIn_6 rfl (lv_at hl 2 rfl) ?_
  refine lv_icmp_gt (tgt := 14) hx hb dX14_isIn_7 (by decide) (fun _ => ?_) (fun h7 => absurd (Int32.lt_iff_toInt_lt.mpr (by have e0 : (3 : Int32).toInt = 3 := (by decide); omega)) h7)
  refine lv_iconst (v := 0) hx hb dX14_isIn_14 (by decide) ?_
  exact ze_i (qs := fun _ => 0) hC hG rfl rfl hr rfl hk (Nat.le_of_ble_eq_true rfl) (Nat.le_of_ble_eq_true rfl) dX14_isIn_15
set_option maxHeartbeats 4000000 in
set_option maxRecDepth 100000 in
theorem z_10_rate (l : Launch) (hst : l.stackTraces = false) (D : va_G) (κ : K4) (E0 : Nat) (sz : Nat) (b : Nat → Nat) (x0 : Int32) (x1 : Int32) (k_x0 : 4 ≤ x0.toInt ∧ x0.toInt ≤ 2147483647) (k_x1 : -2147483648 ≤ x1.toInt ∧ x1.toInt ≤ 2147483647) : NM l yX14_rate cX14_rate 5 (some .int) 2 44 0 0 E0 D κ (mw κ b E0 0) sz [.ref (b 0), .int x0, .int x1] (QI D κ (mw κ b E0 0) sz 0 (fun qs : W1 => mw κ b E0 1)) := by
  refine NM.of (by decide +kernel) (Nat.le_of_ble_eq_true rfl) ?_
  intro p e s m below meth c ls hC hr hk hin hsz hE hT H locs hG hl
  have hx := hC.1
  have hb := hC.2.1
  have hl : lv_has ls 5 [(0, .ref (b 0)), (1, .int x0), (2, .int x1)] := hl
  refine lv_aload_n hx hb dX14_rate_0 rfl (lv_at hl 0 rfl) ?_
  refine lv_iload_n hx hb dX14_rate_1 rfl (lv_at hl 1 rfl) ?_
  refine lv_iconst (v := 1) hx hb dX14_rate_2 (by decide) ?_
  refine lv_iconst (v := 3) hx hb dX14_rate_3 (by decide) ?_
  have cut4 : Cut (mw κ b E0 0) (mw κ b E0 0) ([]) := (Cut.all 9 rfl (by decide))
  refine zc_i hG cut4 (zr_S (n := 3) (As := [.int x0, .int 1, .int 3]) (rest := [.ref (b 0)]) hC hG hE hT cut4 (z_9_isIn l hst D κ E0 H.size b x0 ⟨by omega, by omega⟩) w167 w5 w169 w168 (by decide +kernel) ⟨Nat.le_of_ble_eq_true rfl, Nat.le_of_ble_eq_true rfl⟩ rfl hl.1 rfl (Nat.le_of_ble_eq_true rfl) dX14_rate_4 ⟨Nat.le_of_ble_eq_true rfl, Nat.le_of_ble_eq_true rfl⟩) (fun z1 H locs hG => ?_)
  have hG : BW D κ (mw κ b E0 0) _ s H locs := hG
  refine lv_if_eq (tgt := 20) hx hb dX14_rate_7 (by decide) (fun _ => ?_) (fun h7 => absurd (by decide) h7)
  refine lv_iconst (v := 1) hx hb dX14_rate_20 (by decide) ?_
  refine lv_goto (tgt := 25) hx hb dX14_rate_21 (by decide) ?_
  refine lv_iconst (v := 1) hx hb dX14_rate_25 (by decide) ?_
  have cut26 : Cut (mw κ b E0 0) (mw κ b E0 0) ([]) := (Cut.all 9 rfl (by decide))
  refine zc_i hG cut26 (zr_V (k := 0) (ci := 9) (n := 2) (As := [.int 1, .int 1]) (rest := []) hC hG hE hT cut26 (z_4_start l hst D κ E0 H.size b) rfl rfl w170 w5 w173 w171 w172 (by decide +kernel) ⟨Nat.le_of_ble_eq_true rfl, Nat.le_of_ble_eq_true rfl⟩ rfl hl.1 rfl (Nat.le_of_ble_eq_true rfl) dX14_rate_26 ⟨Nat.le_of_ble_eq_true rfl, Nat.le_of_ble_eq_true rfl⟩) (fun z2 H locs hG => ?_)
  have hG : BW D κ (mw κ b E0 1) _ s H locs := hG
  refine lv_if_eq (tgt := 34) hx hb dX14_rate_29 (by decide) (fun h29 => absurd h29 (by decide)) (fun _ => ?_)
  refine lv_iconst (v := 0) hx hb dX14_rate_32 (by decide) ?_
  exact ze_i (qs := fun _ => 0) hC hG rfl rfl hr rfl hk (Nat.le_of_ble_eq_true rfl) (Nat.le_of_ble_eq_true rfl) dX14_rate_33
theorem dX7_rate_10 : decode cX7_rate 10 = .ok (.iload_n 2, 1) := by decide +kernel
theorem dX7_rate_11 : decode cX7_rate 11 = .ok (.iconst 1, 1) := by decide +kernel
theorem dX7_rate_12 : decode cX7_rate 12 = .ok (.if_icmp .lt 9, 3) := by decide +kernel
set_option maxHeartbeats 4000000 in
set_option maxRecDepth 100000 in
theorem z_11_rate (l : Launch) (hst : l.stackTraces = false) (D : va_G) (κ : K4) (E0 : Nat) (sz : Nat) (a : Nat → Nat) (x0 : Int32) (x1 : Int32) (k_x0 : 1 ≤ x0.toInt ∧ x0.toInt ≤ 3) (k_x1 : -2147483648 ≤ x1.toInt ∧ x1.toInt ≤ 0) : XM l yX7_rate cX7_rate 4 (some .int) 6 82 1 6 E0 D κ (xw κ a) sz [.ref (a 0), .int x0, .int x1] "java/lang/IllegalArgumentException" (NI (xw κ a) sz) := by
  refine XM.of (by decide +kernel) (Nat.le_of_ble_eq_true rfl) ?_
  intro p e s m below meth c ls hC hk hno hsz hE hT H locs hG hl
  have hx := hC.1
  have hb := hC.2.1
  have hl : lv_has ls 4 [(0, .ref (a 0)), (1, .int x0), (2, .int x1)] := hl
  refine lv_iload_n hx hb dX7_rate_0 rfl (lv_at hl 1 rfl) ?_
  refine lv_iconst (v := 1) hx hb dX7_rate_1 (by decide) ?_
  refine lv_icmp_lt (tgt := 21) hx hb dX7_rate_2 (by decide) (fun h2 => absurd h2 (mt Int32.lt_iff_toInt_lt.mp (by have e1 : (1 : Int32).toInt = 1 := (by decide); omega))) (fun _ => ?_)
  refine lv_iload_n hx hb dX7_rate_5 rfl (lv_at hl 1 rfl) ?_
  refine lv_iconst (v := 3) hx hb dX7_rate_6 (by decide) ?_
  refine lv_icmp_gt (tgt := 21) hx hb dX7_rate_7 (by decide) (fun h7 => absurd h7 (mt Int32.lt_iff_toInt_lt.mp (by have e0 : (3 : Int32).toInt = 3 := (by decide); omega))) (fun _ => ?_)
  refine lv_iload_n hx hb dX7_rate_10 rfl (lv_at hl 2 rfl) ?_
  refine lv_iconst (v := 1) hx hb dX7_rate_11 (by decide) ?_
  refine lv_icmp_lt (tgt := 21) hx hb dX7_rate_12 (by decide) (fun _ => ?_) (fun h12 => absurd (Int32.lt_iff_toInt_lt.mpr (by have e1 : (1 : Int32).toInt = 1 := (by decide); omega)) h12)
  exact th_IA hC hst hE hT hno hk hG hl.1 (List.mem_of_getElem? (i := 9) rfl) w150 w151 dX7_rate_21 dX7_rate_24 dX7_rate_25 dX7_rate_27 dX7_rate_30 (Nat.le_of_ble_eq_true rfl) (Nat.le_of_ble_eq_true rfl) (Nat.le_of_ble_eq_true rfl) (Nat.le_of_ble_eq_true rfl) (Nat.le_of_ble_eq_true rfl) (Nat.le_of_ble_eq_true rfl)
set_option maxHeartbeats 4000000 in
set_option maxRecDepth 100000 in
theorem z_12_rate (l : Launch) (hst : l.stackTraces = false) (D : va_G) (κ : K4) (E0 : Nat) (sz : Nat) (a : Nat → Nat) (x0 : Int32) (x1 : Int32) (o : Nat) (k_x0 : 1 ≤ x0.toInt ∧ x0.toInt ≤ 3) (k_x1 : -2147483648 ≤ x1.toInt ∧ x1.toInt ≤ 0) : NH l yL_rate cL_rate 5 (some .int) [(0, 10, 13, 13), (0, 10, 17, 15)] 7 105 1 6 E0 D κ (xw κ a ++ [(o, .inl (κ.2.1, 1, .inr (.inl (fun _ => 0))))]) sz [.ref (a 0), .int x0, .int x1, .ref o] (QI D κ (xw κ a ++ [(o, .inl (κ.2.1, 1, .inr (.inl (fun _ => 0))))]) sz 1 (fun qs : W1 => [(o, .inl (κ.2.1, 1, .inr (.inl (fun _ => 0))))])) := by
  refine NH.of (by decide +kernel) (Nat.le_of_ble_eq_true rfl) ?_
  intro p e s m below meth c ls hC hr hk htab hsz hE hT H locs hG hl
  have hx := hC.1
  have hb := hC.2.1
  have hl : lv_has ls 5 [(0, .ref (a 0)), (1, .int x0), (2, .int x1), (3, .ref o)] := hl
  refine lv_aload_n hx hb dL_rate_0 rfl (lv_at hl 3 rfl) ?_
  refine lv_iconst (v := 0) hx hb dL_rate_1 (by decide) ?_
  refine lv_aload_n hx hb dL_rate_2 rfl (lv_at hl 0 rfl) ?_
  refine lv_iload_n hx hb dL_rate_3 rfl (lv_at hl 1 rfl) ?_
  refine lv_iload_n hx hb dL_rate_4 rfl (lv_at hl 2 rfl) ?_
  have cut5 : Cut (xw κ a ++ [(o, .inl (κ.2.1, 1, .inr (.inl (fun _ => 0))))]) (xw κ a) ([(o, .inl (κ.2.1, 1, .inr (.inl (fun _ => 0))))]) := (Cut.one 45 rfl (by decide))
  refine zt_i hG cut5 (zx_V (k := 0) (ci := 7) (n := 2) (As := [.int x0, .int x1]) (rest := [.int 0, .ref o]) hC hG hE hT cut5 (z_11_rate l hst D κ E0 H.size a x0 x1 ⟨by omega, by omega⟩ ⟨by omega, by omega⟩) rfl rfl w146 w2 w149 w147 w148 (by decide +kernel) ⟨Nat.le_of_ble_eq_true rfl, Nat.le_of_ble_eq_true rfl⟩ rfl hl.1 rfl (Nat.le_of_ble_eq_true rfl) dL_rate_5 ⟨Nat.le_of_ble_eq_true rfl, Nat.le_of_ble_eq_true rfl⟩) (fun ce q9 H locs hG hz1 hz2 hz3 => ?_)
  refine vx_catch (own := RL) (name := "java/lang/IllegalArgumentException") (E := "java/lang/IllegalArgumentException") hC.2.2.2.1 [] ⟨0, 10, 13, 13⟩ [⟨0, 10, 17, 15⟩] htab (fun z hz => by simp at hz) (by decide) (by decide) (hC.2.2.2.2 _ w145) (va_Nw.use rfl (hT.1 ("java/lang/IllegalArgumentException", "java/lang/IllegalArgumentException") (by decide))) hz1 hz2 hz3 ?_
  refine lv_astore (lv' := [(4, .ref q9), (0, .ref (a 0)), (1, .int x0), (2, .int x1), (3, .ref o)]) hx hb dL_rate_13 hl (by decide) rfl (fun ls hl => ?_)
  refine lv_iconst (v := 1) hx hb dL_rate_15 (by decide) ?_
  exact ze_i (qs := fun _ => 0) hC hG rfl rfl hr rfl hk (Nat.le_of_ble_eq_true rfl) (Nat.le_of_ble_eq_true rfl) dL_rate_16
theorem dX14_isIn_10 : decode cX14_isIn 10 = .ok (.iconst 1, 1) := by decide +kernel
theorem dX14_isIn_11 : decode cX14_isIn 11 = .ok (.goto 4, 3) := by decide +kernel
set_option maxHeartbeats 4000000 in
set_option maxRecDepth 100000 in
theorem z_13_isIn (l : Launch) (hst : l.stackTraces = false) (D : va_G) (κ : K4) (E0 : Nat) (sz : Nat) (b : Nat → Nat) (x0 : Int32) (k_x0 : 1 ≤ x0.toInt ∧ x0.toInt ≤ 3) : NM l yX14_isIn cX14_isIn 3 (some .boolean) 0 0 0 0 E0 D κ (mw κ b E0 0) sz [.int x0, .int 1, .int 3] (QI D κ (mw κ b E0 0) sz 1 (fun qs : W1 => mw κ b E0 0)) := by
  refine NM.of (by decide +kernel) (Nat.le_of_ble_eq_true rfl) ?_
  intro p e s m below meth c ls hC hr hk hin hsz hE hT H locs hG hl
  have hx := hC.1
  have hb := hC.2.1
  have hl : lv_has ls 3 [(0, .int x0), (1, .int 1), (2, .int 3)] := hl
  refine lv_iload_n hx hb dX14_isIn_0 rfl (lv_at hl 0 rfl) ?_
  refine lv_iload_n hx hb dX14_isIn_1 rfl (lv_at hl 1 rfl) ?_
  refine lv_icmp_lt (tgt := 14) hx hb dX14_isIn_2 (by decide) (fun h2 => absurd h2 (mt Int32.lt_iff_toInt_lt.mp (by have e1 : (1 : Int32).toInt = 1 := (by decide); omega))) (fun _ => ?_)
  refine lv_iload_n hx hb dX14_isIn_5 rfl (lv_at hl 0 rfl) ?_
  refine lv_iload_n hx hb dX14_isIn_6 rfl (lv_at hl 2 rfl) ?_
  refine lv_icmp_gt (tgt := 14) hx hb dX14_isIn_7 (by decide) (fun h7 => absurd h7 (mt Int32.lt_iff_toInt_lt.mp (by have e0 : (3 : Int32).toInt = 3 := (by decide); omega))) (fun _ => ?_)
  refine lv_iconst (v := 1) hx hb dX14_isIn_10 (by decide) ?_
  refine lv_goto (tgt := 15) hx hb dX14_isIn_11 (by decide) ?_
  exact ze_i (qs := fun _ => 0) hC hG rfl rfl hr rfl hk (Nat.le_of_ble_eq_true rfl) (Nat.le_of_ble_eq_true rfl) dX14_isIn_15
set_option maxHeartbeats 4000000 in
set_option maxRecDepth 100000 in
theorem z_14_isIn (l : Launch) (hst : l.stackTraces = false) (D : va_G) (κ : K4) (E0 : Nat) (sz : Nat) (b : Nat → Nat) (x0 : Int32) (k_x0 : -2147483648 ≤ x0.toInt ∧ x0.toInt ≤ 0) : NM l yX14_isIn cX14_isIn 3 (some .boolean) 0 0 0 0 E0 D κ (mw κ b E0 0) sz [.int x0, .int 1, .int 100000] (QI D κ (mw κ b E0 0) sz 0 (fun qs : W1 => mw κ b E0 0)) := by
  refine NM.of (by decide +kernel) (Nat.le_of_ble_eq_true rfl) ?_
  intro p e s m below meth c ls hC hr hk hin hsz hE hT H locs hG hl
  have hx := hC.1
  have hb := hC.2.1
  have hl : lv_has ls 3 [(0, .int x0), (1, .int 1), (2, .int 100000)] := hl
  refine lv_iload_n hx hb dX14_isIn_0 rfl (lv_at hl 0 rfl) ?_
  refine lv_iload_n hx hb dX14_isIn_1 rfl (lv_at hl 1 rfl) ?_
  refine lv_icmp_lt (tgt := 14) hx hb dX14_isIn_2 (by decide) (fun _ => ?_) (fun h2 => absurd (Int32.lt_iff_toInt_lt.mpr (by have e1 : (1 : Int32).toInt = 1 := (by decide); omega)) h2)
  refine lv_iconst (v := 0) hx hb dX14_isIn_14 (by decide) ?_
  exact ze_i (qs := fun _ => 0) hC hG rfl rfl hr rfl hk (Nat.le_of_ble_eq_true rfl) (Nat.le_of_ble_eq_true rfl) dX14_isIn_15
theorem dX14_rate_10 : decode cX14_rate 10 = .ok (.iload_n 2, 1) := by decide +kernel
theorem dX14_rate_11 : decode cX14_rate 11 = .ok (.iconst 1, 1) := by decide +kernel
theorem dX14_rate_12 : decode cX14_rate 12 = .ok (.ldc 149, 2) := by decide +kernel
theorem dX14_rate_14 : decode cX14_rate 14 = .ok (.invokestatic 53, 3) := by decide +kernel
theorem dX14_rate_17 : decode cX14_rate 17 = .ok (.ifCond .ne 7, 3) := by decide +kernel
set_option maxHeartbeats 4000000 in
set_option maxRecDepth 100000 in
theorem z_15_rate (l : Launch) (hst : l.stackTraces = false) (D : va_G) (κ : K4) (E0 : Nat) (sz : Nat) (b : Nat → Nat) (x0 : Int32) (x1 : Int32) (k_x0 : 1 ≤ x0.toInt ∧ x0.toInt ≤ 3) (k_x1 : -2147483648 ≤ x1.toInt ∧ x1.toInt ≤ 0) : NM l yX14_rate cX14_rate 5 (some .int) 2 44 0 0 E0 D κ (mw κ b E0 0) sz [.ref (b 0), .int x0, .int x1] (QI D κ (mw κ b E0 0) sz 0 (fun qs : W1 => mw κ b E0 1)) := by
  refine NM.of (by decide +kernel) (Nat.le_of_ble_eq_true rfl) ?_
  intro p e s m below meth c ls hC hr hk hin hsz hE hT H locs hG hl
  have hx := hC.1
  have hb := hC.2.1
  have hl : lv_has ls 5 [(0, .ref (b 0)), (1, .int x0), (2, .int x1)] := hl
  refine lv_aload_n hx hb dX14_rate_0 rfl (lv_at hl 0 rfl) ?_
  refine lv_iload_n hx hb dX14_rate_1 rfl (lv_at hl 1 rfl) ?_
  refine lv_iconst (v := 1) hx hb dX14_rate_2 (by decide) ?_
  refine lv_iconst (v := 3) hx hb dX14_rate_3 (by decide) ?_
  have cut4 : Cut (mw κ b E0 0) (mw κ b E0 0) ([]) := (Cut.all 9 rfl (by decide))
  refine zc_i hG cut4 (zr_S (n := 3) (As := [.int x0, .int 1, .int 3]) (rest := [.ref (b 0)]) hC hG hE hT cut4 (z_13_isIn l hst D κ E0 H.size b x0 ⟨by omega, by omega⟩) w167 w5 w169 w168 (by decide +kernel) ⟨Nat.le_of_ble_eq_true rfl, Nat.le_of_ble_eq_true rfl⟩ rfl hl.1 rfl (Nat.le_of_ble_eq_true rfl) dX14_rate_4 ⟨Nat.le_of_ble_eq_true rfl, Nat.le_of_ble_eq_true rfl⟩) (fun z1 H locs hG => ?_)
  have hG : BW D κ (mw κ b E0 0) _ s H locs := hG
  refine lv_if_eq (tgt := 20) hx hb dX14_rate_7 (by decide) (fun h7 => absurd h7 (by decide)) (fun _ => ?_)
  refine lv_iload_n hx hb dX14_rate_10 rfl (lv_at hl 2 rfl) ?_
  refine lv_iconst (v := 1) hx hb dX14_rate_11 (by decide) ?_
  refine lv_ldc hx hb hC.2.2.2.1 (hC.2.2.2.2 _ w164) dX14_rate_12 ?_
  have cut14 : Cut (mw κ b E0 0) (mw κ b E0 0) ([]) := (Cut.all 9 rfl (by decide))
  refine zc_i hG cut14 (zr_S (n := 3) (As := [.int x1, .int 1, .int 100000]) (rest := [.ref (b 0)]) hC hG hE hT cut14 (z_14_isIn l hst D κ E0 H.size b x1 ⟨by omega, by omega⟩) w167 w5 w169 w168 (by decide +kernel) ⟨Nat.le_of_ble_eq_true rfl, Nat.le_of_ble_eq_true rfl⟩ rfl hl.1 rfl (Nat.le_of_ble_eq_true rfl) dX14_rate_14 ⟨Nat.le_of_ble_eq_true rfl, Nat.le_of_ble_eq_true rfl⟩) (fun z2 H locs hG => ?_)
  have hG : BW D κ (mw κ b E0 0) _ s H locs := hG
  refine lv_if_ne (tgt := 24) hx hb dX14_rate_17 (by decide) (fun h17 => absurd (by decide) h17) (fun _ => ?_)
  refine lv_iconst (v := 1) hx hb dX14_rate_20 (by decide) ?_
  refine lv_goto (tgt := 25) hx hb dX14_rate_21 (by decide) ?_
  refine lv_iconst (v := 1) hx hb dX14_rate_25 (by decide) ?_
  have cut26 : Cut (mw κ b E0 0) (mw κ b E0 0) ([]) := (Cut.all 9 rfl (by decide))
  refine zc_i hG cut26 (zr_V (k := 0) (ci := 9) (n := 2) (As := [.int 1, .int 1]) (rest := []) hC hG hE hT cut26 (z_4_start l hst D κ E0 H.size b) rfl rfl w170 w5 w173 w171 w172 (by decide +kernel) ⟨Nat.le_of_ble_eq_true rfl, Nat.le_of_ble_eq_true rfl⟩ rfl hl.1 rfl (Nat.le_of_ble_eq_true rfl) dX14_rate_26 ⟨Nat.le_of_ble_eq_true rfl, Nat.le_of_ble_eq_true rfl⟩) (fun z3 H locs hG => ?_)
  have hG : BW D κ (mw κ b E0 1) _ s H locs := hG
  refine lv_if_eq (tgt := 34) hx hb dX14_rate_29 (by decide) (fun h29 => absurd h29 (by decide)) (fun _ => ?_)
  refine lv_iconst (v := 0) hx hb dX14_rate_32 (by decide) ?_
  exact ze_i (qs := fun _ => 0) hC hG rfl rfl hr rfl hk (Nat.le_of_ble_eq_true rfl) (Nat.le_of_ble_eq_true rfl) dX14_rate_33
theorem dX7_rate_15 : decode cX7_rate 15 = .ok (.iload_n 2, 1) := by decide +kernel
theorem dX7_rate_16 : decode cX7_rate 16 = .ok (.ldc 70, 2) := by decide +kernel
theorem dX7_rate_18 : decode cX7_rate 18 = .ok (.if_icmp .le 13, 3) := by decide +kernel
set_option maxHeartbeats 4000000 in
set_option maxRecDepth 100000 in
theorem z_16_rate (l : Launch) (hst : l.stackTraces = false) (D : va_G) (κ : K4) (E0 : Nat) (sz : Nat) (a : Nat → Nat) (x0 : Int32) (x1 : Int32) (k_x0 : 1 ≤ x0.toInt ∧ x0.toInt ≤ 3) (k_x1 : 100001 ≤ x1.toInt ∧ x1.toInt ≤ 2147483647) : XM l yX7_rate cX7_rate 4 (some .int) 6 82 1 6 E0 D κ (xw κ a) sz [.ref (a 0), .int x0, .int x1] "java/lang/IllegalArgumentException" (NI (xw κ a) sz) := by
  refine XM.of (by decide +kernel) (Nat.le_of_ble_eq_true rfl) ?_
  intro p e s m below meth c ls hC hk hno hsz hE hT H locs hG hl
  have hx := hC.1
  have hb := hC.2.1
  have hl : lv_has ls 4 [(0, .ref (a 0)), (1, .int x0), (2, .int x1)] := hl
  refine lv_iload_n hx hb dX7_rate_0 rfl (lv_at hl 1 rfl) ?_
  refine lv_iconst (v := 1) hx hb dX7_rate_1 (by decide) ?_
  refine lv_icmp_lt (tgt := 21) hx hb dX7_rate_2 (by decide) (fun h2 => absurd h2 (mt Int32.lt_iff_toInt_lt.mp (by have e1 : (1 : Int32).toInt = 1 := (by decide); omega))) (fun _ => ?_)
  refine lv_iload_n hx hb dX7_rate_5 rfl (lv_at hl 1 rfl) ?_
  refine lv_iconst (v := 3) hx hb dX7_rate_6 (by decide) ?_
  refine lv_icmp_gt (tgt := 21) hx hb dX7_rate_7 (by decide) (fun h7 => absurd h7 (mt Int32.lt_iff_toInt_lt.mp (by have e0 : (3 : Int32).toInt = 3 := (by decide); omega))) (fun _ => ?_)
  refine lv_iload_n hx hb dX7_rate_10 rfl (lv_at hl 2 rfl) ?_
  refine lv_iconst (v := 1) hx hb dX7_rate_11 (by decide) ?_
  refine lv_icmp_lt (tgt := 21) hx hb dX7_rate_12 (by decide) (fun h12 => absurd h12 (mt Int32.lt_iff_toInt_lt.mp (by have e1 : (1 : Int32).toInt = 1 := (by decide); omega))) (fun _ => ?_)
  refine lv_iload_n hx hb dX7_rate_15 rfl (lv_at hl 2 rfl) ?_
  refine lv_ldc hx hb hC.2.2.2.1 (hC.2.2.2.2 _ w154) dX7_rate_16 ?_
  refine lv_icmp_le (tgt := 31) hx hb dX7_rate_18 (by decide) (fun h18 => absurd h18 (mt Int32.le_iff_toInt_le.mp (by have e0 : (100000 : Int32).toInt = 100000 := (by decide); omega))) (fun _ => ?_)
  exact th_IA hC hst hE hT hno hk hG hl.1 (List.mem_of_getElem? (i := 9) rfl) w150 w151 dX7_rate_21 dX7_rate_24 dX7_rate_25 dX7_rate_27 dX7_rate_30 (Nat.le_of_ble_eq_true rfl) (Nat.le_of_ble_eq_true rfl) (Nat.le_of_ble_eq_true rfl) (Nat.le_of_ble_eq_true rfl) (Nat.le_of_ble_eq_true rfl) (Nat.le_of_ble_eq_true rfl)
set_option maxHeartbeats 4000000 in
set_option maxRecDepth 100000 in
theorem z_17_rate (l : Launch) (hst : l.stackTraces = false) (D : va_G) (κ : K4) (E0 : Nat) (sz : Nat) (a : Nat → Nat) (x0 : Int32) (x1 : Int32) (o : Nat) (k_x0 : 1 ≤ x0.toInt ∧ x0.toInt ≤ 3) (k_x1 : 100001 ≤ x1.toInt ∧ x1.toInt ≤ 2147483647) : NH l yL_rate cL_rate 5 (some .int) [(0, 10, 13, 13), (0, 10, 17, 15)] 7 105 1 6 E0 D κ (xw κ a ++ [(o, .inl (κ.2.1, 1, .inr (.inl (fun _ => 0))))]) sz [.ref (a 0), .int x0, .int x1, .ref o] (QI D κ (xw κ a ++ [(o, .inl (κ.2.1, 1, .inr (.inl (fun _ => 0))))]) sz 1 (fun qs : W1 => [(o, .inl (κ.2.1, 1, .inr (.inl (fun _ => 0))))])) := by
  refine NH.of (by decide +kernel) (Nat.le_of_ble_eq_true rfl) ?_
  intro p e s m below meth c ls hC hr hk htab hsz hE hT H locs hG hl
  have hx := hC.1
  have hb := hC.2.1
  have hl : lv_has ls 5 [(0, .ref (a 0)), (1, .int x0), (2, .int x1), (3, .ref o)] := hl
  refine lv_aload_n hx hb dL_rate_0 rfl (lv_at hl 3 rfl) ?_
  refine lv_iconst (v := 0) hx hb dL_rate_1 (by decide) ?_
  refine lv_aload_n hx hb dL_rate_2 rfl (lv_at hl 0 rfl) ?_
  refine lv_iload_n hx hb dL_rate_3 rfl (lv_at hl 1 rfl) ?_
  refine lv_iload_n hx hb dL_rate_4 rfl (lv_at hl 2 rfl) ?_
  have cut5 : Cut (xw κ a ++ [(o, .inl (κ.2.1, 1, .inr (.inl (fun _ => 0))))]) (xw κ a) ([(o, .inl (κ.2.1, 1, .inr (.inl (fun _ => 0))))]) := (Cut.one 45 rfl (by decide))
  refine zt_i hG cut5 (zx_V (k := 0) (ci := 7) (n := 2) (As := [.int x0, .int x1]) (rest := [.int 0, .ref o]) hC hG hE hT cut5 (z_16_rate l hst D κ E0 H.size a x0 x1 ⟨by omega, by omega⟩ ⟨by omega, by omega⟩) rfl rfl w146 w2 w149 w147 w148 (by decide +kernel) ⟨Nat.le_of_ble_eq_true rfl, Nat.le_of_ble_eq_true rfl⟩ rfl hl.1 rfl (Nat.le_of_ble_eq_true rfl) dL_rate_5 ⟨Nat.le_of_ble_eq_true rfl, Nat.le_of_ble_eq_true rfl⟩) (fun ce q9 H locs hG hz1 hz2 hz3 => ?_)
  refine vx_catch (own := RL) (name := "java/lang/IllegalArgumentException") (E := "java/lang/IllegalArgumentException") hC.2.2.2.1 [] ⟨0, 10, 13, 13⟩ [⟨0, 10, 17, 15⟩] htab (fun z hz => by simp at hz) (by decide) (by decide) (hC.2.2.2.2 _ w145) (va_Nw.use rfl (hT.1 ("java/lang/IllegalArgumentException", "java/lang/IllegalArgumentException") (by decide))) hz1 hz2 hz3 ?_
  refine lv_astore (lv' := [(4, .ref q9), (0, .ref (a 0)), (1, .int x0), (2, .int x1), (3, .ref o)]) hx hb dL_rate_13 hl (by decide) rfl (fun ls hl => ?_)
  refine lv_iconst (v := 1) hx hb dL_rate_15 (by decide) ?_
  exact ze_i (qs := fun _ => 0) hC hG rfl rfl hr rfl hk (Nat.le_of_ble_eq_true rfl) (Nat.le_of_ble_eq_true rfl) dL_rate_16
set_option maxHeartbeats 4000000 in
set_option maxRecDepth 100000 in
theorem z_18_isIn (l : Launch) (hst : l.stackTraces = false) (D : va_G) (κ : K4) (E0 : Nat) (sz : Nat) (b : Nat → Nat) (x0 : Int32) (k_x0 : 100001 ≤ x0.toInt ∧ x0.toInt ≤ 2147483647) : NM l yX14_isIn cX14_isIn 3 (some .boolean) 0 0 0 0 E0 D κ (mw κ b E0 0) sz [.int x0, .int 1, .int 100000] (QI D κ (mw κ b E0 0) sz 0 (fun qs : W1 => mw κ b E0 0)) := by
  refine NM.of (by decide +kernel) (Nat.le_of_ble_eq_true rfl) ?_
  intro p e s m below meth c ls hC hr hk hin hsz hE hT H locs hG hl
  have hx := hC.1
  have hb := hC.2.1
  have hl : lv_has ls 3 [(0, .int x0), (1, .int 1), (2, .int 100000)] := hl
  refine lv_iload_n hx hb dX14_isIn_0 rfl (lv_at hl 0 rfl) ?_
  refine lv_iload_n hx hb dX14_isIn_1 rfl (lv_at hl 1 rfl) ?_
  refine lv_icmp_lt (tgt := 14) hx hb dX14_isIn_2 (by decide) (fun h2 => absurd h2 (mt Int32.lt_iff_toInt_lt.mp (by have e1 : (1 : Int32).toInt = 1 := (by decide); omega))) (fun _ => ?_)
  refine lv_iload_n hx hb dX14_isIn_5 rfl (lv_at hl 0 rfl) ?_
  refine lv_iload_n hx hb dX14_isIn_6 rfl (lv_at hl 2 rfl) ?_
  refine lv_icmp_gt (tgt := 14) hx hb dX14_isIn_7 (by decide) (fun _ => ?_) (fun h7 => absurd (Int32.lt_iff_toInt_lt.mpr (by have e0 : (100000 : Int32).toInt = 100000 := (by decide); omega)) h7)
  refine lv_iconst (v := 0) hx hb dX14_isIn_14 (by decide) ?_
  exact ze_i (qs := fun _ => 0) hC hG rfl rfl hr rfl hk (Nat.le_of_ble_eq_true rfl) (Nat.le_of_ble_eq_true rfl) dX14_isIn_15
set_option maxHeartbeats 4000000 in
set_option maxRecDepth 100000 in
theorem z_19_rate (l : Launch) (hst : l.stackTraces = false) (D : va_G) (κ : K4) (E0 : Nat) (sz : Nat) (b : Nat → Nat) (x0 : Int32) (x1 : Int32) (k_x0 : 1 ≤ x0.toInt ∧ x0.toInt ≤ 3) (k_x1 : 100001 ≤ x1.toInt ∧ x1.toInt ≤ 2147483647) : NM l yX14_rate cX14_rate 5 (some .int) 2 44 0 0 E0 D κ (mw κ b E0 0) sz [.ref (b 0), .int x0, .int x1] (QI D κ (mw κ b E0 0) sz 0 (fun qs : W1 => mw κ b E0 1)) := by
  refine NM.of (by decide +kernel) (Nat.le_of_ble_eq_true rfl) ?_
  intro p e s m below meth c ls hC hr hk hin hsz hE hT H locs hG hl
  have hx := hC.1
  have hb := hC.2.1
  have hl : lv_has ls 5 [(0, .ref (b 0)), (1, .int x0), (2, .int x1)] := hl
  refine lv_aload_n hx hb dX14_rate_0 rfl (lv_at hl 0 rfl) ?_
  refine lv_iload_n hx hb dX14_rate_1 rfl (lv_at hl 1 rfl) ?_
  refine lv_iconst (v := 1) hx hb dX14_rate_2 (by decide) ?_
  refine lv_iconst (v := 3) hx hb dX14_rate_3 (by decide) ?_
  have cut4 : Cut (mw κ b E0 0) (mw κ b E0 0) ([]) := (Cut.all 9 rfl (by decide))
  refine zc_i hG cut4 (zr_S (n := 3) (As := [.int x0, .int 1, .int 3]) (rest := [.ref (b 0)]) hC hG hE hT cut4 (z_13_isIn l hst D κ E0 H.size b x0 ⟨by omega, by omega⟩) w167 w5 w169 w168 (by decide +kernel) ⟨Nat.le_of_ble_eq_true rfl, Nat.le_of_ble_eq_true rfl⟩ rfl hl.1 rfl (Nat.le_of_ble_eq_true rfl) dX14_rate_4 ⟨Nat.le_of_ble_eq_true rfl, Nat.le_of_ble_eq_true rfl⟩) (fun z1 H locs hG => ?_)
  have hG : BW D κ (mw κ b E0 0) _ s H locs := hG
  refine lv_if_eq (tgt := 20) hx hb dX14_rate_7 (by decide) (fun h7 => absurd h7 (by decide)) (fun _ => ?_)
  refine lv_iload_n hx hb dX14_rate_10 rfl (lv_at hl 2 rfl) ?_
  refine lv_iconst (v := 1) hx hb dX14_rate_11 (by decide) ?_
  refine lv_ldc hx hb hC.2.2.2.1 (hC.2.2.2.2 _ w164) dX14_rate_12 ?_
  have cut14 : Cut (mw κ b E0 0) (mw κ b E0 0) ([]) := (Cut.all 9 rfl (by decide))
  refine zc_i hG cut14 (zr_S (n := 3) (As := [.int x1, .int 1, .int 100000]) (rest := [.ref (b 0)]) hC hG hE hT cut14 (z_18_isIn l hst D κ E0 H.size b x1 ⟨by omega, by omega⟩) w167 w5 w169 w168 (by decide +kernel) ⟨Nat.le_of_ble_eq_true rfl, Nat.le_of_ble_eq_true rfl⟩ rfl hl.1 rfl (Nat.le_of_ble_eq_true rfl) dX14_rate_14 ⟨Nat.le_of_ble_eq_true rfl, Nat.le_of_ble_eq_true rfl⟩) (fun z2 H locs hG => ?_)
  have hG : BW D κ (mw κ b E0 0) _ s H locs := hG
  refine lv_if_ne (tgt := 24) hx hb dX14_rate_17 (by decide) (fun h17 => absurd (by decide) h17) (fun _ => ?_)
  refine lv_iconst (v := 1) hx hb dX14_rate_20 (by decide) ?_
  refine lv_goto (tgt := 25) hx hb dX14_rate_21 (by decide) ?_
  refine lv_iconst (v := 1) hx hb dX14_rate_25 (by decide) ?_
  have cut26 : Cut (mw κ b E0 0) (mw κ b E0 0) ([]) := (Cut.all 9 rfl (by decide))
  refine zc_i hG cut26 (zr_V (k := 0) (ci := 9) (n := 2) (As := [.int 1, .int 1]) (rest := []) hC hG hE hT cut26 (z_4_start l hst D κ E0 H.size b) rfl rfl w170 w5 w173 w171 w172 (by decide +kernel) ⟨Nat.le_of_ble_eq_true rfl, Nat.le_of_ble_eq_true rfl⟩ rfl hl.1 rfl (Nat.le_of_ble_eq_true rfl) dX14_rate_26 ⟨Nat.le_of_ble_eq_true rfl, Nat.le_of_ble_eq_true rfl⟩) (fun z3 H locs hG => ?_)
  have hG : BW D κ (mw κ b E0 1) _ s H locs := hG
  refine lv_if_eq (tgt := 34) hx hb dX14_rate_29 (by decide) (fun h29 => absurd h29 (by decide)) (fun _ => ?_)
  refine lv_iconst (v := 0) hx hb dX14_rate_32 (by decide) ?_
  exact ze_i (qs := fun _ => 0) hC hG rfl rfl hr rfl hk (Nat.le_of_ble_eq_true rfl) (Nat.le_of_ble_eq_true rfl) dX14_rate_33
theorem dX0_anyIn_0 : decode cX0_anyIn 0 = .ok (.iconst 0, 1) := by decide +kernel
theorem dX0_anyIn_1 : decode cX0_anyIn 1 = .ok (.istore_n 2, 1) := by decide +kernel
theorem dX0_anyIn_2 : decode cX0_anyIn 2 = .ok (.iload_n 2, 1) := by decide +kernel
theorem dX0_anyIn_28 : decode cX0_anyIn 28 = .ok (.iconst 0, 1) := by decide +kernel
theorem dX0_anyIn_29 : decode cX0_anyIn 29 = .ok (.ireturn, 1) := by decide +kernel
theorem dX0_anyIn_3 : decode cX0_anyIn 3 = .ok (.aload_n 0, 1) := by decide +kernel
theorem dX0_anyIn_4 : decode cX0_anyIn 4 = .ok (.getfield 28, 3) := by decide +kernel
theorem dX0_anyIn_7 : decode cX0_anyIn 7 = .ok (.if_icmp .ge 21, 3) := by decide +kernel
set_option maxHeartbeats 4000000 in
set_option maxRecDepth 100000 in
theorem z_20_anyIn (l : Launch) (hst : l.stackTraces = false) (D : va_G) (κ : K4) (E0 : Nat) (sz : Nat) (a : Nat → Nat) (x0 : Int32) (k_x0 : 1 ≤ x0.toInt ∧ x0.toInt ≤ 3) : NM l yX0_anyIn cX0_anyIn 3 (some .boolean) 0 0 0 0 E0 D κ (xw κ a) sz [.ref (a 1), .int x0] (QI D κ (xw κ a) sz 0 (fun qs : W1 => xw κ a)) := by
  refine NM.of (by decide +kernel) (Nat.le_of_ble_eq_true rfl) ?_
  intro p e s m below meth c ls hC hr hk hin hsz hE hT H locs hG hl
  have hx := hC.1
  have hb := hC.2.1
  have hl : lv_has ls 3 [(0, .ref (a 1)), (1, .int x0)] := hl
  refine lv_iconst (v := 0) hx hb dX0_anyIn_0 (by decide) ?_
  refine lv_istore_n (lv' := [(2, .int 0), (0, .ref (a 1)), (1, .int x0)]) hx hb dX0_anyIn_1 rfl hl (by decide) rfl (fun ls hl => ?_)
  refine lv_iload_n hx hb dX0_anyIn_2 rfl (lv_at hl 0 rfl) ?_
  refine lv_aload_n hx hb dX0_anyIn_3 rfl (lv_at hl 1 rfl) ?_
  refine bw_get (C := RX0) (T := TX0) (N := 6) (ci := 0) (v := .int 0) 5 (by decide) 1 hC hG iwX0 (xw_1 κ a) rfl w54 rfl rfl dX0_anyIn_4 ?_
  refine lv_icmp_ge (tgt := 28) hx hb dX0_anyIn_7 (by decide) (fun _ => ?_) (fun h7 => absurd (by decide) h7)
  refine lv_iconst (v := 0) hx hb dX0_anyIn_28 (by decide) ?_
  exact ze_i (qs := fun _ => 0) hC hG rfl rfl hr rfl hk (Nat.le_of_ble_eq_true rfl) (Nat.le_of_ble_eq_true rfl) dX0_anyIn_29
theorem dX7_rate_31 : decode cX7_rate 31 = .ok (.aload_n 0, 1) := by decide +kernel
theorem dX7_rate_32 : decode cX7_rate 32 = .ok (.getfield 12, 3) := by decide +kernel
theorem dX7_rate_35 : decode cX7_rate 35 = .ok (.iload_n 1, 1) := by decide +kernel
theorem dX7_rate_36 : decode cX7_rate 36 = .ok (.invokevirtual 78, 3) := by decide +kernel
theorem dX7_rate_39 : decode cX7_rate 39 = .ok (.ifCond .eq 13, 3) := by decide +kernel
theorem dX7_rate_52 : decode cX7_rate 52 = .ok (.aload_n 0, 1) := by decide +kernel
theorem dX7_rate_53 : decode cX7_rate 53 = .ok (.getfield 12, 3) := by decide +kernel
theorem dX7_rate_56 : decode cX7_rate 56 = .ok (.getfield 87, 3) := by decide +kernel
theorem dX7_rate_59 : decode cX7_rate 59 = .ok (.iload_n 1, 1) := by decide +kernel
theorem dX7_rate_60 : decode cX7_rate 60 = .ok (.iaload, 1) := by decide +kernel
theorem dX7_rate_61 : decode cX7_rate 61 = .ok (.istore_n 3, 1) := by decide +kernel
theorem dX7_rate_62 : decode cX7_rate 62 = .ok (.aload_n 0, 1) := by decide +kernel
theorem dX7_rate_63 : decode cX7_rate 63 = .ok (.getfield 12, 3) := by decide +kernel
theorem dX7_rate_66 : decode cX7_rate 66 = .ok (.getfield 87, 3) := by decide +kernel
theorem dX7_rate_69 : decode cX7_rate 69 = .ok (.iload_n 1, 1) := by decide +kernel
theorem dX7_rate_70 : decode cX7_rate 70 = .ok (.iload_n 2, 1) := by decide +kernel
theorem dX7_rate_71 : decode cX7_rate 71 = .ok (.iastore, 1) := by decide +kernel
theorem dX7_rate_72 : decode cX7_rate 72 = .ok (.iload_n 3, 1) := by decide +kernel
theorem dX7_rate_73 : decode cX7_rate 73 = .ok (.ireturn, 1) := by decide +kernel
set_option maxHeartbeats 4000000 in
set_option maxRecDepth 100000 in
theorem z_21_rate (l : Launch) (hst : l.stackTraces = false) (D : va_G) (κ : K4) (E0 : Nat) (sz : Nat) (a : Nat → Nat) (x0 : Int32) (x1 : Int32) (k_x0 : 1 ≤ x0.toInt ∧ x0.toInt ≤ 3) (k_x1 : 1 ≤ x1.toInt ∧ x1.toInt ≤ 100000) : NM l yX7_rate cX7_rate 4 (some .int) 1 22 0 0 E0 D κ (xw κ a) sz [.ref (a 0), .int x0, .int x1] (QI D κ (xw κ a) sz 1000 (fun qs : W1 => [])) := by
  refine NM.of (by decide +kernel) (Nat.le_of_ble_eq_true rfl) ?_
  intro p e s m below meth c ls hC hr hk hin hsz hE hT H locs hG hl
  have hx := hC.1
  have hb := hC.2.1
  have hl : lv_has ls 4 [(0, .ref (a 0)), (1, .int x0), (2, .int x1)] := hl
  refine lv_iload_n hx hb dX7_rate_0 rfl (lv_at hl 1 rfl) ?_
  refine lv_iconst (v := 1) hx hb dX7_rate_1 (by decide) ?_
  refine lv_icmp_lt (tgt := 21) hx hb dX7_rate_2 (by decide) (fun h2 => absurd h2 (mt Int32.lt_iff_toInt_lt.mp (by have e1 : (1 : Int32).toInt = 1 := (by decide); omega))) (fun _ => ?_)
  refine lv_iload_n hx hb dX7_rate_5 rfl (lv_at hl 1 rfl) ?_
  refine lv_iconst (v := 3) hx hb dX7_rate_6 (by decide) ?_
  refine lv_icmp_gt (tgt := 21) hx hb dX7_rate_7 (by decide) (fun h7 => absurd h7 (mt Int32.lt_iff_toInt_lt.mp (by have e0 : (3 : Int32).toInt = 3 := (by decide); omega))) (fun _ => ?_)
  refine lv_iload_n hx hb dX7_rate_10 rfl (lv_at hl 2 rfl) ?_
  refine lv_iconst (v := 1) hx hb dX7_rate_11 (by decide) ?_
  refine lv_icmp_lt (tgt := 21) hx hb dX7_rate_12 (by decide) (fun h12 => absurd h12 (mt Int32.lt_iff_toInt_lt.mp (by have e1 : (1 : Int32).toInt = 1 := (by decide); omega))) (fun _ => ?_)
  refine lv_iload_n hx hb dX7_rate_15 rfl (lv_at hl 2 rfl) ?_
  refine lv_ldc hx hb hC.2.2.2.1 (hC.2.2.2.2 _ w154) dX7_rate_16 ?_
  refine lv_icmp_le (tgt := 31) hx hb dX7_rate_18 (by decide) (fun _ => ?_) (fun h18 => absurd (Int32.le_iff_toInt_le.mpr (by have e0 : (100000 : Int32).toInt = 100000 := (by decide); omega)) h18)
  refine lv_aload_n hx hb dX7_rate_31 rfl (lv_at hl 0 rfl) ?_
  refine bw_get (C := RX7) (T := TX7) (N := 10) (ci := 7) (v := .ref (a 1)) 0 (by decide) 0 hC hG iwX7 (xw_0 κ a) rfl w16 rfl rfl dX7_rate_32 ?_
  refine lv_iload_n hx hb dX7_rate_35 rfl (lv_at hl 1 rfl) ?_
  have cut36 : Cut (xw κ a) (xw κ a) ([]) := (Cut.all 45 rfl (by decide))
  refine zc_i hG cut36 (zr_V (k := 1) (ci := 0) (n := 1) (As := [.int x0]) (rest := []) hC hG hE hT cut36 (z_20_anyIn l hst D κ E0 H.size a x0 ⟨by omega, by omega⟩) rfl rfl w156 w15 w159 w157 w158 (by decide +kernel) ⟨Nat.le_of_ble_eq_true rfl, Nat.le_of_ble_eq_true rfl⟩ rfl hl.1 rfl (Nat.le_of_ble_eq_true rfl) dX7_rate_36 ⟨Nat.le_of_ble_eq_true rfl, Nat.le_of_ble_eq_true rfl⟩) (fun z1 H locs hG => ?_)
  have hG : BW D κ (xw κ a) _ s H locs := hG
  refine lv_if_eq (tgt := 52) hx hb dX7_rate_39 (by decide) (fun _ => ?_) (fun h39 => absurd (by decide) h39)
  refine lv_aload_n hx hb dX7_rate_52 rfl (lv_at hl 0 rfl) ?_
  refine bw_get (C := RX7) (T := TX7) (N := 10) (ci := 7) (v := .ref (a 1)) 0 (by decide) 0 hC hG iwX7 (xw_0 κ a) rfl w16 rfl rfl dX7_rate_53 ?_
  refine bw_get (C := RX0) (T := TX0) (N := 6) (ci := 0) (v := .ref (a 2)) 0 (by decide) 1 hC hG iwX0 (xw_1 κ a) rfl w155 rfl rfl dX7_rate_56 ?_
  refine lv_iload_n hx hb dX7_rate_59 rfl (lv_at hl 1 rfl) ?_
  refine zs_ald 2 (v := 1000) hC hG rfl (vp_box (by omega) (by omega)) rfl dX7_rate_60 ?_
  refine lv_istore_n (lv' := [(3, .int 1000), (0, .ref (a 0)), (1, .int x0), (2, .int x1)]) hx hb dX7_rate_61 rfl hl (by decide) rfl (fun ls hl => ?_)
  refine lv_aload_n hx hb dX7_rate_62 rfl (lv_at hl 1 rfl) ?_
  refine bw_get (C := RX7) (T := TX7) (N := 10) (ci := 7) (v := .ref (a 1)) 0 (by decide) 0 hC hG iwX7 (xw_0 κ a) rfl w16 rfl rfl dX7_rate_63 ?_
  refine bw_get (C := RX0) (T := TX0) (N := 6) (ci := 0) (v := .ref (a 2)) 0 (by decide) 1 hC hG iwX0 (xw_1 κ a) rfl w155 rfl rfl dX7_rate_66 ?_
  refine lv_iload_n hx hb dX7_rate_69 rfl (lv_at hl 2 rfl) ?_
  refine lv_iload_n hx hb dX7_rate_70 rfl (lv_at hl 3 rfl) ?_
  refine zs_ast 2 hC hG rfl (vp_box (by omega) (by omega)) dX7_rate_71 (fun H locs hG => ?_)
  have hG : BW D κ ((xw κ a : va_W).set 2 (a 2, .inl (κ.1, 4, .inl (va_up (fun _ => 1000) ((x0 : Int32).toNatClampNeg) x1)))) _ s H locs := hG
  refine lv_iload_n hx hb dX7_rate_72 rfl (lv_at hl 0 rfl) ?_
  have hG := hG.at (ws' := []) [] (by decide) rfl
  exact ze_i (qs := fun _ => 0) hC hG rfl rfl hr rfl hk (Nat.le_of_ble_eq_true rfl) (Nat.le_of_ble_eq_true rfl) dX7_rate_73
theorem dL_rate_10 : decode cL_rate 10 = .ok (.goto 11, 3) := by decide +kernel
theorem dL_rate_21 : decode cL_rate 21 = .ok (.iconst 0, 1) := by decide +kernel
theorem dL_rate_22 : decode cL_rate 22 = .ok (.ireturn, 1) := by decide +kernel
theorem dL_rate_8 : decode cL_rate 8 = .ok (.i2l, 1) := by decide +kernel
theorem dL_rate_9 : decode cL_rate 9 = .ok (.lastore, 1) := by decide +kernel
set_option maxHeartbeats 4000000 in
set_option maxRecDepth 100000 in
theorem z_22_rate (l : Launch) (hst : l.stackTraces = false) (D : va_G) (κ : K4) (E0 : Nat) (sz : Nat) (a : Nat → Nat) (x0 : Int32) (x1 : Int32) (o : Nat) (k_x0 : 1 ≤ x0.toInt ∧ x0.toInt ≤ 3) (k_x1 : 1 ≤ x1.toInt ∧ x1.toInt ≤ 100000) : NH l yL_rate cL_rate 5 (some .int) [(0, 10, 13, 13), (0, 10, 17, 15)] 2 45 0 0 E0 D κ (xw κ a ++ [(o, .inl (κ.2.1, 1, .inr (.inl (fun _ => 0))))]) sz [.ref (a 0), .int x0, .int x1, .ref o] (QI D κ (xw κ a ++ [(o, .inl (κ.2.1, 1, .inr (.inl (fun _ => 0))))]) sz 0 (fun qs : W1 => [(o, .inl (κ.2.1, 1, .inr (.inl (va_up (fun _ => 0) ((0 : Int32).toNatClampNeg) 1000))))])) := by
  refine NH.of (by decide +kernel) (Nat.le_of_ble_eq_true rfl) ?_
  intro p e s m below meth c ls hC hr hk htab hsz hE hT H locs hG hl
  have hx := hC.1
  have hb := hC.2.1
  have hl : lv_has ls 5 [(0, .ref (a 0)), (1, .int x0), (2, .int x1), (3, .ref o)] := hl
  refine lv_aload_n hx hb dL_rate_0 rfl (lv_at hl 3 rfl) ?_
  refine lv_iconst (v := 0) hx hb dL_rate_1 (by decide) ?_
  refine lv_aload_n hx hb dL_rate_2 rfl (lv_at hl 0 rfl) ?_
  refine lv_iload_n hx hb dL_rate_3 rfl (lv_at hl 1 rfl) ?_
  refine lv_iload_n hx hb dL_rate_4 rfl (lv_at hl 2 rfl) ?_
  have cut5 : Cut (xw κ a ++ [(o, .inl (κ.2.1, 1, .inr (.inl (fun _ => 0))))]) (xw κ a) ([(o, .inl (κ.2.1, 1, .inr (.inl (fun _ => 0))))]) := (Cut.one 45 rfl (by decide))
  refine zc_i hG cut5 (zr_V (k := 0) (ci := 7) (n := 2) (As := [.int x0, .int x1]) (rest := [.int 0, .ref o]) hC hG hE hT cut5 (z_21_rate l hst D κ E0 H.size a x0 x1 ⟨by omega, by omega⟩ ⟨by omega, by omega⟩) rfl rfl w146 w2 w149 w147 w148 (by decide +kernel) ⟨Nat.le_of_ble_eq_true rfl, Nat.le_of_ble_eq_true rfl⟩ rfl hl.1 rfl (Nat.le_of_ble_eq_true rfl) dL_rate_5 ⟨Nat.le_of_ble_eq_true rfl, Nat.le_of_ble_eq_true rfl⟩) (fun z1 H locs hG => ?_)
  have hG : BW D κ ([(o, .inl (κ.2.1, 1, .inr (.inl (fun _ => 0))))]) _ s H locs := hG
  refine lv_i2l (v := 1000) hx hb dL_rate_8 (by decide) ?_
  refine zs_lst 0 hC hG rfl (vp_box (by have e0 : (0 : Int32).toInt = 0 := (by decide); omega) (by have e0 : (0 : Int32).toInt = 0 := (by decide); omega)) dL_rate_9 (fun H locs hG => ?_)
  have hG : BW D κ (([(o, .inl (κ.2.1, 1, .inr (.inl (fun _ => 0))))] : va_W).set 0 (o, .inl (κ.2.1, 1, .inr (.inl (va_up (fun _ => 0) ((0 : Int32).toNatClampNeg) 1000))))) _ s H locs := hG
  refine lv_goto (tgt := 21) hx hb dL_rate_10 (by decide) ?_
  refine lv_iconst (v := 0) hx hb dL_rate_21 (by decide) ?_
  exact ze_i (qs := fun _ => 0) hC hG rfl rfl hr rfl hk (Nat.le_of_ble_eq_true rfl) (Nat.le_of_ble_eq_true rfl) dL_rate_22
set_option maxHeartbeats 4000000 in
set_option maxRecDepth 100000 in
theorem z_23_isIn (l : Launch) (hst : l.stackTraces = false) (D : va_G) (κ : K4) (E0 : Nat) (sz : Nat) (b : Nat → Nat) (x0 : Int32) (k_x0 : 1 ≤ x0.toInt ∧ x0.toInt ≤ 100000) : NM l yX14_isIn cX14_isIn 3 (some .boolean) 0 0 0 0 E0 D κ (mw κ b E0 0) sz [.int x0, .int 1, .int 100000] (QI D κ (mw κ b E0 0) sz 1 (fun qs : W1 => mw κ b E0 0)) := by
  refine NM.of (by decide +kernel) (Nat.le_of_ble_eq_true rfl) ?_
  intro p e s m below meth c ls hC hr hk hin hsz hE hT H locs hG hl
  have hx := hC.1
  have hb := hC.2.1
  have hl : lv_has ls 3 [(0, .int x0), (1, .int 1), (2, .int 100000)] := hl
  refine lv_iload_n hx hb dX14_isIn_0 rfl (lv_at hl 0 rfl) ?_
  refine lv_iload_n hx hb dX14_isIn_1 rfl (lv_at hl 1 rfl) ?_
  refine lv_icmp_lt (tgt := 14) hx hb dX14_isIn_2 (by decide) (fun h2 => absurd h2 (mt Int32.lt_iff_toInt_lt.mp (by have e1 : (1 : Int32).toInt = 1 := (by decide); omega))) (fun _ => ?_)
  refine lv_iload_n hx hb dX14_isIn_5 rfl (lv_at hl 0 rfl) ?_
  refine lv_iload_n hx hb dX14_isIn_6 rfl (lv_at hl 2 rfl) ?_
  refine lv_icmp_gt (tgt := 14) hx hb dX14_isIn_7 (by decide) (fun h7 => absurd h7 (mt Int32.lt_iff_toInt_lt.mp (by have e0 : (100000 : Int32).toInt = 100000 := (by decide); omega))) (fun _ => ?_)
  refine lv_iconst (v := 1) hx hb dX14_isIn_10 (by decide) ?_
  refine lv_goto (tgt := 15) hx hb dX14_isIn_11 (by decide) ?_
  exact ze_i (qs := fun _ => 0) hC hG rfl rfl hr rfl hk (Nat.le_of_ble_eq_true rfl) (Nat.le_of_ble_eq_true rfl) dX14_isIn_15
