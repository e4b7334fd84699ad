set_option maxHeartbeats 4000000 in
set_option maxRecDepth 100000 in
theorem z_144_draft (l : Launch) (hst : l.stackTraces = false) (D : va_G) (κ : K4) (E0 : Nat) (sz : Nat) (b : Nat → Nat) (x0 : Int32) (x1 : Int32) (k_x0 : 365 ≤ x0.toInt ∧ x0.toInt ≤ 2147483647) (k_x1 : -2147483648 ≤ x1.toInt ∧ x1.toInt ≤ 2147483647) : NM l yX14_draft cX14_draft 4 (some .int) 2 44 0 0 E0 D κ (mw κ b E0 0) sz [.ref (b 0), .int x0, .int x1] (QI D κ (mw κ b E0 0) sz 0 (fun qs : W1 => mw κ b E0 1)) := by
  refine NM.of (by decide +kernel) (Nat.le_of_ble_eq_true rfl) ?_
  intro p e s m below meth c ls hC hr hk hin hsz hE hT H locs hG hl
  have hx := hC.1
  have hb := hC.2.1
  have hl : lv_has ls 4 [(0, .ref (b 0)), (1, .int x0), (2, .int x1)] := hl
  refine lv_aload_n hx hb dX14_draft_0 rfl (lv_at hl 0 rfl) ?_
  refine lv_iload_n hx hb dX14_draft_1 rfl (lv_at hl 1 rfl) ?_
  refine lv_iconst (v := 0) hx hb dX14_draft_2 (by decide) ?_
  refine lv_sipush (v := 364) hx hb dX14_draft_3 (by decide) ?_
  have cut6 : Cut (mw κ b E0 0) (mw κ b E0 0) ([]) := (Cut.all 9 rfl (by decide))
  refine zc_i hG cut6 (zr_S (n := 3) (As := [.int x0, .int 0, .int 364]) (rest := [.ref (b 0)]) hC hG hE hT cut6 (z_130_isIn l hst D κ E0 H.size b x0 ⟨by omega, by omega⟩) w167 w5 w169 w168 (by decide +kernel) ⟨Nat.le_of_ble_eq_true rfl, Nat.le_of_ble_eq_true rfl⟩ rfl hl.1 rfl (Nat.le_of_ble_eq_true rfl) dX14_draft_6 ⟨Nat.le_of_ble_eq_true rfl, Nat.le_of_ble_eq_true rfl⟩) (fun z1 H locs hG => ?_)
  have hG : BW D κ (mw κ b E0 0) _ s H locs := hG
  refine lv_if_eq (tgt := 23) hx hb dX14_draft_9 (by decide) (fun _ => ?_) (fun h9 => absurd (by decide) h9)
  refine lv_iconst (v := 1) hx hb dX14_draft_23 (by decide) ?_
  refine lv_goto (tgt := 28) hx hb dX14_draft_24 (by decide) ?_
  refine lv_iconst (v := 1) hx hb dX14_draft_28 (by decide) ?_
  have cut29 : Cut (mw κ b E0 0) (mw κ b E0 0) ([]) := (Cut.all 9 rfl (by decide))
  refine zc_i hG cut29 (zr_V (k := 0) (ci := 9) (n := 2) (As := [.int 1, .int 1]) (rest := []) hC hG hE hT cut29 (z_4_start l hst D κ E0 H.size b) rfl rfl w170 w5 w173 w171 w172 (by decide +kernel) ⟨Nat.le_of_ble_eq_true rfl, Nat.le_of_ble_eq_true rfl⟩ rfl hl.1 rfl (Nat.le_of_ble_eq_true rfl) dX14_draft_29 ⟨Nat.le_of_ble_eq_true rfl, Nat.le_of_ble_eq_true rfl⟩) (fun z2 H locs hG => ?_)
  have hG : BW D κ (mw κ b E0 1) _ s H locs := hG
  refine lv_if_eq (tgt := 37) hx hb dX14_draft_32 (by decide) (fun h32 => absurd h32 (by decide)) (fun _ => ?_)
  refine lv_iconst (v := 0) hx hb dX14_draft_35 (by decide) ?_
  exact ze_i (qs := fun _ => 0) hC hG rfl rfl hr rfl hk (Nat.le_of_ble_eq_true rfl) (Nat.le_of_ble_eq_true rfl) dX14_draft_36
theorem dX7_needDay_21 : decode cX7_needDay 21 = .ok (.return_, 1) := by decide +kernel
set_option maxHeartbeats 4000000 in
set_option maxRecDepth 100000 in
theorem z_145_needDay (l : Launch) (hst : l.stackTraces = false) (D : va_G) (κ : K4) (E0 : Nat) (sz : Nat) (a : Nat → Nat) (x0 : Int32) (k_x0 : 0 ≤ x0.toInt ∧ x0.toInt ≤ 364) : NM l yX7_needDay cX7_needDay 1 none 0 0 0 0 E0 D κ (xw κ a) sz [.int x0] (QV D κ (xw κ a) sz (fun qs : W1 => xw κ a)) := by
  refine NM.of (by decide +kernel) (Nat.le_of_ble_eq_true rfl) ?_
  intro p e s m below meth c ls hC hr hk hin hsz hE hT H locs hG hl
  have hx := hC.1
  have hb := hC.2.1
  have hl : lv_has ls 1 [(0, .int x0)] := hl
  refine lv_iload_n hx hb dX7_needDay_0 rfl (lv_at hl 0 rfl) ?_
  refine lv_if_lt (tgt := 11) hx hb dX7_needDay_1 (by decide) (fun h1 => absurd h1 (mt Int32.lt_iff_toInt_lt.mp (by have e1 : (0 : Int32).toInt = 0 := (by decide); omega))) (fun _ => ?_)
  refine lv_iload_n hx hb dX7_needDay_4 rfl (lv_at hl 0 rfl) ?_
  refine lv_sipush (v := 364) hx hb dX7_needDay_5 (by decide) ?_
  refine lv_icmp_le (tgt := 21) hx hb dX7_needDay_8 (by decide) (fun _ => ?_) (fun h8 => absurd (Int32.le_iff_toInt_le.mpr (by have e0 : (364 : Int32).toInt = 364 := (by decide); omega)) h8)
  exact ze_v (qs := fun _ => 0) hC hG rfl hr hk (Nat.le_of_ble_eq_true rfl) (Nat.le_of_ble_eq_true rfl) dX7_needDay_21
theorem dX7_draft_15 : decode cX7_draft 15 = .ok (.new 71, 3) := by decide +kernel
theorem dX7_draft_18 : decode cX7_draft 18 = .ok (.dup, 1) := by decide +kernel
theorem dX7_draft_19 : decode cX7_draft 19 = .ok (.ldc 136, 2) := by decide +kernel
theorem dX7_draft_21 : decode cX7_draft 21 = .ok (.invokespecial 75, 3) := by decide +kernel
theorem dX7_draft_24 : decode cX7_draft 24 = .ok (.athrow, 1) := by decide +kernel
theorem dX7_draft_4 : decode cX7_draft 4 = .ok (.iload_n 2, 1) := by decide +kernel
theorem dX7_draft_5 : decode cX7_draft 5 = .ok (.ifCond .lt 10, 3) := by decide +kernel
set_option maxHeartbeats 4000000 in
set_option maxRecDepth 100000 in
theorem z_146_draft (l : Launch) (hst : l.stackTraces = false) (D : va_G) (κ : K4) (E0 : Nat) (sz : Nat) (a : Nat → Nat) (x0 : Int32) (x1 : Int32) (k_x0 : 0 ≤ x0.toInt ∧ x0.toInt ≤ 364) (k_x1 : -2147483648 ≤ x1.toInt ∧ x1.toInt ≤ -1) : XM l yX7_draft cX7_draft 4 (some .int) 6 82 1 6 E0 D κ (xw κ a) sz [.ref (a 0), .int x0, .int x1] "java/lang/IllegalArgumentException" (NI (xw κ a) sz) := by
  refine XM.of (by decide +kernel) (Nat.le_of_ble_eq_true rfl) ?_
  intro p e s m below meth c ls hC hk hno hsz hE hT H locs hG hl
  have hx := hC.1
  have hb := hC.2.1
  have hl : lv_has ls 4 [(0, .ref (a 0)), (1, .int x0), (2, .int x1)] := hl
  refine lv_iload_n hx hb dX7_draft_0 rfl (lv_at hl 1 rfl) ?_
  have cut1 : Cut (xw κ a) (xw κ a) ([]) := (Cut.all 45 rfl (by decide))
  refine zc_v hG cut1 (zr_S (n := 1) (As := [.int x0]) (rest := []) hC hG hE hT cut1 (z_145_needDay l hst D κ E0 H.size a x0 ⟨by omega, by omega⟩) w413 w2 w415 w414 (by decide +kernel) ⟨Nat.le_of_ble_eq_true rfl, Nat.le_of_ble_eq_true rfl⟩ rfl hl.1 rfl (Nat.le_of_ble_eq_true rfl) dX7_draft_1 ⟨Nat.le_of_ble_eq_true rfl, Nat.le_of_ble_eq_true rfl⟩) (fun z1 H locs hG => ?_)
  have hG : BW D κ (xw κ a) _ s H locs := hG
  refine lv_iload_n hx hb dX7_draft_4 rfl (lv_at hl 2 rfl) ?_
  refine lv_if_lt (tgt := 15) hx hb dX7_draft_5 (by decide) (fun _ => ?_) (fun h5 => absurd (Int32.lt_iff_toInt_lt.mpr (by have e1 : (0 : Int32).toInt = 0 := (by decide); omega)) h5)
  exact th_IA hC hst hE hT hno hk hG hl.1 (List.mem_of_getElem? (i := 16) rfl) w150 w151 dX7_draft_15 dX7_draft_18 dX7_draft_19 dX7_draft_21 dX7_draft_24 (Nat.le_of_ble_eq_true rfl) (Nat.le_of_ble_eq_true rfl) (Nat.le_of_ble_eq_true rfl) (Nat.le_of_ble_eq_true rfl) (Nat.le_of_ble_eq_true rfl) (Nat.le_of_ble_eq_true rfl)
set_option maxHeartbeats 4000000 in
set_option maxRecDepth 100000 in
theorem z_147_draft (l : Launch) (hst : l.stackTraces = false) (D : va_G) (κ : K4) (E0 : Nat) (sz : Nat) (a : Nat → Nat) (x0 : Int32) (x1 : Int32) (o : Nat) (k_x0 : 0 ≤ x0.toInt ∧ x0.toInt ≤ 364) (k_x1 : -2147483648 ≤ x1.toInt ∧ x1.toInt ≤ -1) : NH l yL_draft cL_draft 5 (some .int) [(0, 10, 13, 13)] 7 105 1 6 E0 D κ (xw κ a ++ [(o, .inl (κ.2.1, 1, .inr (.inl (fun _ => 0))))]) sz [.ref (a 0), .int x0, .int x1, .ref o] (QI D κ (xw κ a ++ [(o, .inl (κ.2.1, 1, .inr (.inl (fun _ => 0))))]) sz 1 (fun qs : W1 => [(o, .inl (κ.2.1, 1, .inr (.inl (fun _ => 0))))])) := by
  refine NH.of (by decide +kernel) (Nat.le_of_ble_eq_true rfl) ?_
  intro p e s m below meth c ls hC hr hk htab hsz hE hT H locs hG hl
  have hx := hC.1
  have hb := hC.2.1
  have hl : lv_has ls 5 [(0, .ref (a 0)), (1, .int x0), (2, .int x1), (3, .ref o)] := hl
  refine lv_aload_n hx hb dL_draft_0 rfl (lv_at hl 3 rfl) ?_
  refine lv_iconst (v := 0) hx hb dL_draft_1 (by decide) ?_
  refine lv_aload_n hx hb dL_draft_2 rfl (lv_at hl 0 rfl) ?_
  refine lv_iload_n hx hb dL_draft_3 rfl (lv_at hl 1 rfl) ?_
  refine lv_iload_n hx hb dL_draft_4 rfl (lv_at hl 2 rfl) ?_
  have cut5 : Cut (xw κ a ++ [(o, .inl (κ.2.1, 1, .inr (.inl (fun _ => 0))))]) (xw κ a) ([(o, .inl (κ.2.1, 1, .inr (.inl (fun _ => 0))))]) := (Cut.one 45 rfl (by decide))
  refine zt_i hG cut5 (zx_V (k := 0) (ci := 7) (n := 2) (As := [.int x0, .int x1]) (rest := [.int 0, .ref o]) hC hG hE hT cut5 (z_146_draft l hst D κ E0 H.size a x0 x1 ⟨by omega, by omega⟩ ⟨by omega, by omega⟩) rfl rfl w407 w2 w410 w408 w409 (by decide +kernel) ⟨Nat.le_of_ble_eq_true rfl, Nat.le_of_ble_eq_true rfl⟩ rfl hl.1 rfl (Nat.le_of_ble_eq_true rfl) dL_draft_5 ⟨Nat.le_of_ble_eq_true rfl, Nat.le_of_ble_eq_true rfl⟩) (fun ce q9 H locs hG hz1 hz2 hz3 => ?_)
  refine vx_catch (own := RL) (name := "java/lang/IllegalArgumentException") (E := "java/lang/IllegalArgumentException") hC.2.2.2.1 [] ⟨0, 10, 13, 13⟩ [] htab (fun z hz => by simp at hz) (by decide) (by decide) (hC.2.2.2.2 _ w145) (va_Nw.use rfl (hT.1 ("java/lang/IllegalArgumentException", "java/lang/IllegalArgumentException") (by decide))) hz1 hz2 hz3 ?_
  refine lv_astore (lv' := [(4, .ref q9), (0, .ref (a 0)), (1, .int x0), (2, .int x1), (3, .ref o)]) hx hb dL_draft_13 hl (by decide) rfl (fun ls hl => ?_)
  refine lv_iconst (v := 1) hx hb dL_draft_15 (by decide) ?_
  exact ze_i (qs := fun _ => 0) hC hG rfl rfl hr rfl hk (Nat.le_of_ble_eq_true rfl) (Nat.le_of_ble_eq_true rfl) dL_draft_16
set_option maxHeartbeats 4000000 in
set_option maxRecDepth 100000 in
theorem z_148_isIn (l : Launch) (hst : l.stackTraces = false) (D : va_G) (κ : K4) (E0 : Nat) (sz : Nat) (b : Nat → Nat) (x0 : Int32) (k_x0 : -2147483648 ≤ x0.toInt ∧ x0.toInt ≤ -1) : NM l yX14_isIn cX14_isIn 3 (some .boolean) 0 0 0 0 E0 D κ (mw κ b E0 0) sz [.int x0, .int 0, .int 999] (QI D κ (mw κ b E0 0) sz 0 (fun qs : W1 => mw κ b E0 0)) := by
  refine NM.of (by decide +kernel) (Nat.le_of_ble_eq_true rfl) ?_
  intro p e s m below meth c ls hC hr hk hin hsz hE hT H locs hG hl
  have hx := hC.1
  have hb := hC.2.1
  have hl : lv_has ls 3 [(0, .int x0), (1, .int 0), (2, .int 999)] := hl
  refine lv_iload_n hx hb dX14_isIn_0 rfl (lv_at hl 0 rfl) ?_
  refine lv_iload_n hx hb dX14_isIn_1 rfl (lv_at hl 1 rfl) ?_
  refine lv_icmp_lt (tgt := 14) hx hb dX14_isIn_2 (by decide) (fun _ => ?_) (fun h2 => absurd (Int32.lt_iff_toInt_lt.mpr (by have e1 : (0 : Int32).toInt = 0 := (by decide); omega)) h2)
  refine lv_iconst (v := 0) hx hb dX14_isIn_14 (by decide) ?_
  exact ze_i (qs := fun _ => 0) hC hG rfl rfl hr rfl hk (Nat.le_of_ble_eq_true rfl) (Nat.le_of_ble_eq_true rfl) dX14_isIn_15
theorem dX14_draft_12 : decode cX14_draft 12 = .ok (.iload_n 2, 1) := by decide +kernel
theorem dX14_draft_13 : decode cX14_draft 13 = .ok (.iconst 0, 1) := by decide +kernel
theorem dX14_draft_14 : decode cX14_draft 14 = .ok (.sipush 999, 3) := by decide +kernel
theorem dX14_draft_17 : decode cX14_draft 17 = .ok (.invokestatic 53, 3) := by decide +kernel
theorem dX14_draft_20 : decode cX14_draft 20 = .ok (.ifCond .ne 7, 3) := by decide +kernel
set_option maxHeartbeats 4000000 in
set_option maxRecDepth 100000 in
theorem z_149_draft (l : Launch) (hst : l.stackTraces = false) (D : va_G) (κ : K4) (E0 : Nat) (sz : Nat) (b : Nat → Nat) (x0 : Int32) (x1 : Int32) (k_x0 : 0 ≤ x0.toInt ∧ x0.toInt ≤ 364) (k_x1 : -2147483648 ≤ x1.toInt ∧ x1.toInt ≤ -1) : NM l yX14_draft cX14_draft 4 (some .int) 2 44 0 0 E0 D κ (mw κ b E0 0) sz [.ref (b 0), .int x0, .int x1] (QI D κ (mw κ b E0 0) sz 0 (fun qs : W1 => mw κ b E0 1)) := by
  refine NM.of (by decide +kernel) (Nat.le_of_ble_eq_true rfl) ?_
  intro p e s m below meth c ls hC hr hk hin hsz hE hT H locs hG hl
  have hx := hC.1
  have hb := hC.2.1
  have hl : lv_has ls 4 [(0, .ref (b 0)), (1, .int x0), (2, .int x1)] := hl
  refine lv_aload_n hx hb dX14_draft_0 rfl (lv_at hl 0 rfl) ?_
  refine lv_iload_n hx hb dX14_draft_1 rfl (lv_at hl 1 rfl) ?_
  refine lv_iconst (v := 0) hx hb dX14_draft_2 (by decide) ?_
  refine lv_sipush (v := 364) hx hb dX14_draft_3 (by decide) ?_
  have cut6 : Cut (mw κ b E0 0) (mw κ b E0 0) ([]) := (Cut.all 9 rfl (by decide))
  refine zc_i hG cut6 (zr_S (n := 3) (As := [.int x0, .int 0, .int 364]) (rest := [.ref (b 0)]) hC hG hE hT cut6 (z_134_isIn l hst D κ E0 H.size b x0 ⟨by omega, by omega⟩) w167 w5 w169 w168 (by decide +kernel) ⟨Nat.le_of_ble_eq_true rfl, Nat.le_of_ble_eq_true rfl⟩ rfl hl.1 rfl (Nat.le_of_ble_eq_true rfl) dX14_draft_6 ⟨Nat.le_of_ble_eq_true rfl, Nat.le_of_ble_eq_true rfl⟩) (fun z1 H locs hG => ?_)
  have hG : BW D κ (mw κ b E0 0) _ s H locs := hG
  refine lv_if_eq (tgt := 23) hx hb dX14_draft_9 (by decide) (fun h9 => absurd h9 (by decide)) (fun _ => ?_)
  refine lv_iload_n hx hb dX14_draft_12 rfl (lv_at hl 2 rfl) ?_
  refine lv_iconst (v := 0) hx hb dX14_draft_13 (by decide) ?_
  refine lv_sipush (v := 999) hx hb dX14_draft_14 (by decide) ?_
  have cut17 : Cut (mw κ b E0 0) (mw κ b E0 0) ([]) := (Cut.all 9 rfl (by decide))
  refine zc_i hG cut17 (zr_S (n := 3) (As := [.int x1, .int 0, .int 999]) (rest := [.ref (b 0)]) hC hG hE hT cut17 (z_148_isIn l hst D κ E0 H.size b x1 ⟨by omega, by omega⟩) w167 w5 w169 w168 (by decide +kernel) ⟨Nat.le_of_ble_eq_true rfl, Nat.le_of_ble_eq_true rfl⟩ rfl hl.1 rfl (Nat.le_of_ble_eq_true rfl) dX14_draft_17 ⟨Nat.le_of_ble_eq_true rfl, Nat.le_of_ble_eq_true rfl⟩) (fun z2 H locs hG => ?_)
  have hG : BW D κ (mw κ b E0 0) _ s H locs := hG
  refine lv_if_ne (tgt := 27) hx hb dX14_draft_20 (by decide) (fun h20 => absurd (by decide) h20) (fun _ => ?_)
  refine lv_iconst (v := 1) hx hb dX14_draft_23 (by decide) ?_
  refine lv_goto (tgt := 28) hx hb dX14_draft_24 (by decide) ?_
  refine lv_iconst (v := 1) hx hb dX14_draft_28 (by decide) ?_
  have cut29 : Cut (mw κ b E0 0) (mw κ b E0 0) ([]) := (Cut.all 9 rfl (by decide))
  refine zc_i hG cut29 (zr_V (k := 0) (ci := 9) (n := 2) (As := [.int 1, .int 1]) (rest := []) hC hG hE hT cut29 (z_4_start l hst D κ E0 H.size b) rfl rfl w170 w5 w173 w171 w172 (by decide +kernel) ⟨Nat.le_of_ble_eq_true rfl, Nat.le_of_ble_eq_true rfl⟩ rfl hl.1 rfl (Nat.le_of_ble_eq_true rfl) dX14_draft_29 ⟨Nat.le_of_ble_eq_true rfl, Nat.le_of_ble_eq_true rfl⟩) (fun z3 H locs hG => ?_)
  have hG : BW D κ (mw κ b E0 1) _ s H locs := hG
  refine lv_if_eq (tgt := 37) hx hb dX14_draft_32 (by decide) (fun h32 => absurd h32 (by decide)) (fun _ => ?_)
  refine lv_iconst (v := 0) hx hb dX14_draft_35 (by decide) ?_
  exact ze_i (qs := fun _ => 0) hC hG rfl rfl hr rfl hk (Nat.le_of_ble_eq_true rfl) (Nat.le_of_ble_eq_true rfl) dX14_draft_36
theorem dX7_draft_12 : decode cX7_draft 12 = .ok (.if_icmp .le 13, 3) := by decide +kernel
theorem dX7_draft_8 : decode cX7_draft 8 = .ok (.iload_n 2, 1) := by decide +kernel
theorem dX7_draft_9 : decode cX7_draft 9 = .ok (.sipush 999, 3) := by decide +kernel
set_option maxHeartbeats 4000000 in
set_option maxRecDepth 100000 in
theorem z_150_draft (l : Launch) (hst : l.stackTraces = false) (D : va_G) (κ : K4) (E0 : Nat) (sz : Nat) (a : Nat → Nat) (x0 : Int32) (x1 : Int32) (k_x0 : 0 ≤ x0.toInt ∧ x0.toInt ≤ 364) (k_x1 : 1000 ≤ x1.toInt ∧ x1.toInt ≤ 2147483647) : XM l yX7_draft cX7_draft 4 (some .int) 6 82 1 6 E0 D κ (xw κ a) sz [.ref (a 0), .int x0, .int x1] "java/lang/IllegalArgumentException" (NI (xw κ a) sz) := by
  refine XM.of (by decide +kernel) (Nat.le_of_ble_eq_true rfl) ?_
  intro p e s m below meth c ls hC hk hno hsz hE hT H locs hG hl
  have hx := hC.1
  have hb := hC.2.1
  have hl : lv_has ls 4 [(0, .ref (a 0)), (1, .int x0), (2, .int x1)] := hl
  refine lv_iload_n hx hb dX7_draft_0 rfl (lv_at hl 1 rfl) ?_
  have cut1 : Cut (xw κ a) (xw κ a) ([]) := (Cut.all 45 rfl (by decide))
  refine zc_v hG cut1 (zr_S (n := 1) (As := [.int x0]) (rest := []) hC hG hE hT cut1 (z_145_needDay l hst D κ E0 H.size a x0 ⟨by omega, by omega⟩) w413 w2 w415 w414 (by decide +kernel) ⟨Nat.le_of_ble_eq_true rfl, Nat.le_of_ble_eq_true rfl⟩ rfl hl.1 rfl (Nat.le_of_ble_eq_true rfl) dX7_draft_1 ⟨Nat.le_of_ble_eq_true rfl, Nat.le_of_ble_eq_true rfl⟩) (fun z1 H locs hG => ?_)
  have hG : BW D κ (xw κ a) _ s H locs := hG
  refine lv_iload_n hx hb dX7_draft_4 rfl (lv_at hl 2 rfl) ?_
  refine lv_if_lt (tgt := 15) hx hb dX7_draft_5 (by decide) (fun h5 => absurd h5 (mt Int32.lt_iff_toInt_lt.mp (by have e1 : (0 : Int32).toInt = 0 := (by decide); omega))) (fun _ => ?_)
  refine lv_iload_n hx hb dX7_draft_8 rfl (lv_at hl 2 rfl) ?_
  refine lv_sipush (v := 999) hx hb dX7_draft_9 (by decide) ?_
  refine lv_icmp_le (tgt := 25) hx hb dX7_draft_12 (by decide) (fun h12 => absurd h12 (mt Int32.le_iff_toInt_le.mp (by have e0 : (999 : Int32).toInt = 999 := (by decide); omega))) (fun _ => ?_)
  exact th_IA hC hst hE hT hno hk hG hl.1 (List.mem_of_getElem? (i := 16) rfl) w150 w151 dX7_draft_15 dX7_draft_18 dX7_draft_19 dX7_draft_21 dX7_draft_24 (Nat.le_of_ble_eq_true rfl) (Nat.le_of_ble_eq_true rfl) (Nat.le_of_ble_eq_true rfl) (Nat.le_of_ble_eq_true rfl) (Nat.le_of_ble_eq_true rfl) (Nat.le_of_ble_eq_true rfl)
set_option maxHeartbeats 4000000 in
set_option maxRecDepth 100000 in
theorem z_151_draft (l : Launch) (hst : l.stackTraces = false) (D : va_G) (κ : K4) (E0 : Nat) (sz : Nat) (a : Nat → Nat) (x0 : Int32) (x1 : Int32) (o : Nat) (k_x0 : 0 ≤ x0.toInt ∧ x0.toInt ≤ 364) (k_x1 : 1000 ≤ x1.toInt ∧ x1.toInt ≤ 2147483647) : NH l yL_draft cL_draft 5 (some .int) [(0, 10, 13, 13)] 7 105 1 6 E0 D κ (xw κ a ++ [(o, .inl (κ.2.1, 1, .inr (.inl (fun _ => 0))))]) sz [.ref (a 0), .int x0, .int x1, .ref o] (QI D κ (xw κ a ++ [(o, .inl (κ.2.1, 1, .inr (.inl (fun _ => 0))))]) sz 1 (fun qs : W1 => [(o, .inl (κ.2.1, 1, .inr (.inl (fun _ => 0))))])) := by
  refine NH.of (by decide +kernel) (Nat.le_of_ble_eq_true rfl) ?_
  intro p e s m below meth c ls hC hr hk htab hsz hE hT H locs hG hl
  have hx := hC.1
  have hb := hC.2.1
  have hl : lv_has ls 5 [(0, .ref (a 0)), (1, .int x0), (2, .int x1), (3, .ref o)] := hl
  refine lv_aload_n hx hb dL_draft_0 rfl (lv_at hl 3 rfl) ?_
  refine lv_iconst (v := 0) hx hb dL_draft_1 (by decide) ?_
  refine lv_aload_n hx hb dL_draft_2 rfl (lv_at hl 0 rfl) ?_
  refine lv_iload_n hx hb dL_draft_3 rfl (lv_at hl 1 rfl) ?_
  refine lv_iload_n hx hb dL_draft_4 rfl (lv_at hl 2 rfl) ?_
  have cut5 : Cut (xw κ a ++ [(o, .inl (κ.2.1, 1, .inr (.inl (fun _ => 0))))]) (xw κ a) ([(o, .inl (κ.2.1, 1, .inr (.inl (fun _ => 0))))]) := (Cut.one 45 rfl (by decide))
  refine zt_i hG cut5 (zx_V (k := 0) (ci := 7) (n := 2) (As := [.int x0, .int x1]) (rest := [.int 0, .ref o]) hC hG hE hT cut5 (z_150_draft l hst D κ E0 H.size a x0 x1 ⟨by omega, by omega⟩ ⟨by omega, by omega⟩) rfl rfl w407 w2 w410 w408 w409 (by decide +kernel) ⟨Nat.le_of_ble_eq_true rfl, Nat.le_of_ble_eq_true rfl⟩ rfl hl.1 rfl (Nat.le_of_ble_eq_true rfl) dL_draft_5 ⟨Nat.le_of_ble_eq_true rfl, Nat.le_of_ble_eq_true rfl⟩) (fun ce q9 H locs hG hz1 hz2 hz3 => ?_)
  refine vx_catch (own := RL) (name := "java/lang/IllegalArgumentException") (E := "java/lang/IllegalArgumentException") hC.2.2.2.1 [] ⟨0, 10, 13, 13⟩ [] htab (fun z hz => by simp at hz) (by decide) (by decide) (hC.2.2.2.2 _ w145) (va_Nw.use rfl (hT.1 ("java/lang/IllegalArgumentException", "java/lang/IllegalArgumentException") (by decide))) hz1 hz2 hz3 ?_
  refine lv_astore (lv' := [(4, .ref q9), (0, .ref (a 0)), (1, .int x0), (2, .int x1), (3, .ref o)]) hx hb dL_draft_13 hl (by decide) rfl (fun ls hl => ?_)
  refine lv_iconst (v := 1) hx hb dL_draft_15 (by decide) ?_
  exact ze_i (qs := fun _ => 0) hC hG rfl rfl hr rfl hk (Nat.le_of_ble_eq_true rfl) (Nat.le_of_ble_eq_true rfl) dL_draft_16
set_option maxHeartbeats 4000000 in
set_option maxRecDepth 100000 in
theorem z_152_isIn (l : Launch) (hst : l.stackTraces = false) (D : va_G) (κ : K4) (E0 : Nat) (sz : Nat) (b : Nat → Nat) (x0 : Int32) (k_x0 : 1000 ≤ x0.toInt ∧ x0.toInt ≤ 2147483647) : NM l yX14_isIn cX14_isIn 3 (some .boolean) 0 0 0 0 E0 D κ (mw κ b E0 0) sz [.int x0, .int 0, .int 999] (QI D κ (mw κ b E0 0) sz 0 (fun qs : W1 => mw κ b E0 0)) := by
  refine NM.of (by decide +kernel) (Nat.le_of_ble_eq_true rfl) ?_
  intro p e s m below meth c ls hC hr hk hin hsz hE hT H locs hG hl
  have hx := hC.1
  have hb := hC.2.1
  have hl : lv_has ls 3 [(0, .int x0), (1, .int 0), (2, .int 999)] := hl
  refine lv_iload_n hx hb dX14_isIn_0 rfl (lv_at hl 0 rfl) ?_
  refine lv_iload_n hx hb dX14_isIn_1 rfl (lv_at hl 1 rfl) ?_
  refine lv_icmp_lt (tgt := 14) hx hb dX14_isIn_2 (by decide) (fun h2 => absurd h2 (mt Int32.lt_iff_toInt_lt.mp (by have e1 : (0 : Int32).toInt = 0 := (by decide); omega))) (fun _ => ?_)
  refine lv_iload_n hx hb dX14_isIn_5 rfl (lv_at hl 0 rfl) ?_
  refine lv_iload_n hx hb dX14_isIn_6 rfl (lv_at hl 2 rfl) ?_
  refine lv_icmp_gt (tgt := 14) hx hb dX14_isIn_7 (by decide) (fun _ => ?_) (fun h7 => absurd (Int32.lt_iff_toInt_lt.mpr (by have e0 : (999 : Int32).toInt = 999 := (by decide); omega)) h7)
  refine lv_iconst (v := 0) hx hb dX14_isIn_14 (by decide) ?_
  exact ze_i (qs := fun _ => 0) hC hG rfl rfl hr rfl hk (Nat.le_of_ble_eq_true rfl) (Nat.le_of_ble_eq_true rfl) dX14_isIn_15
set_option maxHeartbeats 4000000 in
set_option maxRecDepth 100000 in
theorem z_153_draft (l : Launch) (hst : l.stackTraces = false) (D : va_G) (κ : K4) (E0 : Nat) (sz : Nat) (b : Nat → Nat) (x0 : Int32) (x1 : Int32) (k_x0 : 0 ≤ x0.toInt ∧ x0.toInt ≤ 364) (k_x1 : 1000 ≤ x1.toInt ∧ x1.toInt ≤ 2147483647) : NM l yX14_draft cX14_draft 4 (some .int) 2 44 0 0 E0 D κ (mw κ b E0 0) sz [.ref (b 0), .int x0, .int x1] (QI D κ (mw κ b E0 0) sz 0 (fun qs : W1 => mw κ b E0 1)) := by
  refine NM.of (by decide +kernel) (Nat.le_of_ble_eq_true rfl) ?_
  intro p e s m below meth c ls hC hr hk hin hsz hE hT H locs hG hl
  have hx := hC.1
  have hb := hC.2.1
  have hl : lv_has ls 4 [(0, .ref (b 0)), (1, .int x0), (2, .int x1)] := hl
  refine lv_aload_n hx hb dX14_draft_0 rfl (lv_at hl 0 rfl) ?_
  refine lv_iload_n hx hb dX14_draft_1 rfl (lv_at hl 1 rfl) ?_
  refine lv_iconst (v := 0) hx hb dX14_draft_2 (by decide) ?_
  refine lv_sipush (v := 364) hx hb dX14_draft_3 (by decide) ?_
  have cut6 : Cut (mw κ b E0 0) (mw κ b E0 0) ([]) := (Cut.all 9 rfl (by decide))
  refine zc_i hG cut6 (zr_S (n := 3) (As := [.int x0, .int 0, .int 364]) (rest := [.ref (b 0)]) hC hG hE hT cut6 (z_134_isIn l hst D κ E0 H.size b x0 ⟨by omega, by omega⟩) w167 w5 w169 w168 (by decide +kernel) ⟨Nat.le_of_ble_eq_true rfl, Nat.le_of_ble_eq_true rfl⟩ rfl hl.1 rfl (Nat.le_of_ble_eq_true rfl) dX14_draft_6 ⟨Nat.le_of_ble_eq_true rfl, Nat.le_of_ble_eq_true rfl⟩) (fun z1 H locs hG => ?_)
  have hG : BW D κ (mw κ b E0 0) _ s H locs := hG
  refine lv_if_eq (tgt := 23) hx hb dX14_draft_9 (by decide) (fun h9 => absurd h9 (by decide)) (fun _ => ?_)
  refine lv_iload_n hx hb dX14_draft_12 rfl (lv_at hl 2 rfl) ?_
  refine lv_iconst (v := 0) hx hb dX14_draft_13 (by decide) ?_
  refine lv_sipush (v := 999) hx hb dX14_draft_14 (by decide) ?_
  have cut17 : Cut (mw κ b E0 0) (mw κ b E0 0) ([]) := (Cut.all 9 rfl (by decide))
  refine zc_i hG cut17 (zr_S (n := 3) (As := [.int x1, .int 0, .int 999]) (rest := [.ref (b 0)]) hC hG hE hT cut17 (z_152_isIn l hst D κ E0 H.size b x1 ⟨by omega, by omega⟩) w167 w5 w169 w168 (by decide +kernel) ⟨Nat.le_of_ble_eq_true rfl, Nat.le_of_ble_eq_true rfl⟩ rfl hl.1 rfl (Nat.le_of_ble_eq_true rfl) dX14_draft_17 ⟨Nat.le_of_ble_eq_true rfl, Nat.le_of_ble_eq_true rfl⟩) (fun z2 H locs hG => ?_)
  have hG : BW D κ (mw κ b E0 0) _ s H locs := hG
  refine lv_if_ne (tgt := 27) hx hb dX14_draft_20 (by decide) (fun h20 => absurd (by decide) h20) (fun _ => ?_)
  refine lv_iconst (v := 1) hx hb dX14_draft_23 (by decide) ?_
  refine lv_goto (tgt := 28) hx hb dX14_draft_24 (by decide) ?_
  refine lv_iconst (v := 1) hx hb dX14_draft_28 (by decide) ?_
  have cut29 : Cut (mw κ b E0 0) (mw κ b E0 0) ([]) := (Cut.all 9 rfl (by decide))
  refine zc_i hG cut29 (zr_V (k := 0) (ci := 9) (n := 2) (As := [.int 1, .int 1]) (rest := []) hC hG hE hT cut29 (z_4_start l hst D κ E0 H.size b) rfl rfl w170 w5 w173 w171 w172 (by decide +kernel) ⟨Nat.le_of_ble_eq_true rfl, Nat.le_of_ble_eq_true rfl⟩ rfl hl.1 rfl (Nat.le_of_ble_eq_true rfl) dX14_draft_29 ⟨Nat.le_of_ble_eq_true rfl, Nat.le_of_ble_eq_true rfl⟩) (fun z3 H locs hG => ?_)
  have hG : BW D κ (mw κ b E0 1) _ s H locs := hG
  refine lv_if_eq (tgt := 37) hx hb dX14_draft_32 (by decide) (fun h32 => absurd h32 (by decide)) (fun _ => ?_)
  refine lv_iconst (v := 0) hx hb dX14_draft_35 (by decide) ?_
  exact ze_i (qs := fun _ => 0) hC hG rfl rfl hr rfl hk (Nat.le_of_ble_eq_true rfl) (Nat.le_of_ble_eq_true rfl) dX14_draft_36
theorem dX1_begin_0 : decode cX1_begin 0 = .ok (.aload_n 0, 1) := by decide +kernel
theorem dX1_begin_1 : decode cX1_begin 1 = .ok (.getfield 10, 3) := by decide +kernel
theorem dX1_begin_10 : decode cX1_begin 10 = .ok (.putfield 16, 3) := by decide +kernel
theorem dX1_begin_13 : decode cX1_begin 13 = .ok (.aload_n 0, 1) := by decide +kernel
theorem dX1_begin_14 : decode cX1_begin 14 = .ok (.iload_n 1, 1) := by decide +kernel
theorem dX1_begin_15 : decode cX1_begin 15 = .ok (.putfield 20, 3) := by decide +kernel
theorem dX1_begin_18 : decode cX1_begin 18 = .ok (.aload_n 0, 1) := by decide +kernel
theorem dX1_begin_19 : decode cX1_begin 19 = .ok (.iload_n 2, 1) := by decide +kernel
theorem dX1_begin_20 : decode cX1_begin 20 = .ok (.putfield 24, 3) := by decide +kernel
theorem dX1_begin_23 : decode cX1_begin 23 = .ok (.return_, 1) := by decide +kernel
theorem dX1_begin_4 : decode cX1_begin 4 = .ok (.iconst 0, 1) := by decide +kernel
theorem dX1_begin_5 : decode cX1_begin 5 = .ok (.putfield 27, 3) := by decide +kernel
theorem dX1_begin_8 : decode cX1_begin 8 = .ok (.aload_n 0, 1) := by decide +kernel
theorem dX1_begin_9 : decode cX1_begin 9 = .ok (.iconst 1, 1) := by decide +kernel
set_option maxHeartbeats 4000000 in
set_option maxRecDepth 100000 in
theorem z_154_begin (l : Launch) (hst : l.stackTraces = false) (D : va_G) (κ : K4) (E0 : Nat) (sz : Nat) (a : Nat → Nat) (x0 : Int32) (x1 : Int32) (k_x0 : 0 ≤ x0.toInt ∧ x0.toInt ≤ 364) (k_x1 : 0 ≤ x1.toInt ∧ x1.toInt ≤ 999) : NM l yX1_begin cX1_begin 3 none 0 0 0 0 E0 D κ (xw κ a) sz [.ref (a 7), .int x0, .int x1] (QV D κ (xw κ a) sz (fun qs : W1 => [])) := by
  refine NM.of (by decide +kernel) (Nat.le_of_ble_eq_true rfl) ?_
  intro p e s m below meth c ls hC hr hk hin hsz hE hT H locs hG hl
  have hx := hC.1
  have hb := hC.2.1
  have hl : lv_has ls 3 [(0, .ref (a 7)), (1, .int x0), (2, .int x1)] := hl
  refine lv_aload_n hx hb dX1_begin_0 rfl (lv_at hl 0 rfl) ?_
  refine bw_get (C := RX1) (T := TX1) (N := 4) (ci := 1) (v := .ref (a 8)) 0 (by decide) 7 hC hG iwX1 (xw_7 κ a) rfl w59 rfl rfl dX1_begin_1 ?_
  refine lv_iconst (v := 0) hx hb dX1_begin_4 (by decide) ?_
  refine bw_put (C := RX4) (T := TX4) (N := 4) (ci := 4) (ty0 := tyX4) (ty := .int) (v := .int 0) 3 (by decide) 8 hC hG iwX4 tyX4_ok nmX4 rfl rfl w420 rfl (Or.inl rfl) (by decide +kernel) rfl rfl (Nat.le_of_ble_eq_true rfl) dX1_begin_5 (fun H locs hG => ?_)
  have hG : BW D κ (xw κ a) _ s H locs := hG
  refine lv_aload_n hx hb dX1_begin_8 rfl (lv_at hl 0 rfl) ?_
  refine lv_iconst (v := 1) hx hb dX1_begin_9 (by decide) ?_
  refine bw_put (C := RX1) (T := TX1) (N := 4) (ci := 1) (ty0 := tyX1) (ty := .boolean) (v := .int 1) 1 (by decide) 7 hC hG iwX1 tyX1_ok nmX1 rfl rfl w60 rfl (Or.inl rfl) (by decide +kernel) rfl rfl (Nat.le_of_ble_eq_true rfl) dX1_begin_10 (fun H locs hG => ?_)
  have hG : BW D κ ((xw κ a : va_W).set 7 (a 7, .inr (1, [.ref (a 8), .int 1, .int 0, .int 0]))) _ s H locs := hG
  refine lv_aload_n hx hb dX1_begin_13 rfl (lv_at hl 0 rfl) ?_
  refine lv_iload_n hx hb dX1_begin_14 rfl (lv_at hl 1 rfl) ?_
  refine bw_put (C := RX1) (T := TX1) (N := 4) (ci := 1) (ty0 := tyX1) (ty := .int) (v := .int x0) 2 (by decide) 7 hC hG iwX1 tyX1_ok nmX1 rfl rfl w61 rfl (Or.inl rfl) (by decide +kernel) rfl rfl (Nat.le_of_ble_eq_true rfl) dX1_begin_15 (fun H locs hG => ?_)
  have hG : BW D κ (((xw κ a : va_W).set 7 (a 7, .inr (1, [.ref (a 8), .int 1, .int 0, .int 0])) : va_W).set 7 (a 7, .inr (1, [.ref (a 8), .int 1, .int x0, .int 0]))) _ s H locs := hG
  refine lv_aload_n hx hb dX1_begin_18 rfl (lv_at hl 0 rfl) ?_
  refine lv_iload_n hx hb dX1_begin_19 rfl (lv_at hl 2 rfl) ?_
  refine bw_put (C := RX1) (T := TX1) (N := 4) (ci := 1) (ty0 := tyX1) (ty := .int) (v := .int x1) 3 (by decide) 7 hC hG iwX1 tyX1_ok nmX1 rfl rfl w62 rfl (Or.inl rfl) (by decide +kernel) rfl rfl (Nat.le_of_ble_eq_true rfl) dX1_begin_20 (fun H locs hG => ?_)
  have hG : BW D κ ((((xw κ a : va_W).set 7 (a 7, .inr (1, [.ref (a 8), .int 1, .int 0, .int 0])) : va_W).set 7 (a 7, .inr (1, [.ref (a 8), .int 1, .int x0, .int 0])) : va_W).set 7 (a 7, .inr (1, [.ref (a 8), .int 1, .int x0, .int x1]))) _ s H locs := hG
  have hG := hG.at (ws' := []) [] (by decide) rfl
  exact ze_v (qs := fun _ => 0) hC hG rfl hr hk (Nat.le_of_ble_eq_true rfl) (Nat.le_of_ble_eq_true rfl) dX1_begin_23
theorem dX7_draft_25 : decode cX7_draft 25 = .ok (.aload_n 0, 1) := by decide +kernel
theorem dX7_draft_26 : decode cX7_draft 26 = .ok (.getfield 19, 3) := by decide +kernel
theorem dX7_draft_29 : decode cX7_draft 29 = .ok (.getfield 138, 3) := by decide +kernel
theorem dX7_draft_32 : decode cX7_draft 32 = .ok (.getfield 141, 3) := by decide +kernel
theorem dX7_draft_35 : decode cX7_draft 35 = .ok (.istore_n 3, 1) := by decide +kernel
theorem dX7_draft_36 : decode cX7_draft 36 = .ok (.aload_n 0, 1) := by decide +kernel
theorem dX7_draft_37 : decode cX7_draft 37 = .ok (.getfield 19, 3) := by decide +kernel
theorem dX7_draft_40 : decode cX7_draft 40 = .ok (.iload_n 1, 1) := by decide +kernel
theorem dX7_draft_41 : decode cX7_draft 41 = .ok (.iload_n 2, 1) := by decide +kernel
theorem dX7_draft_42 : decode cX7_draft 42 = .ok (.invokevirtual 142, 3) := by decide +kernel
theorem dX7_draft_45 : decode cX7_draft 45 = .ok (.iload_n 3, 1) := by decide +kernel
theorem dX7_draft_46 : decode cX7_draft 46 = .ok (.ireturn, 1) := by decide +kernel
set_option maxHeartbeats 4000000 in
set_option maxRecDepth 100000 in
theorem z_155_draft (l : Launch) (hst : l.stackTraces = false) (D : va_G) (κ : K4) (E0 : Nat) (sz : Nat) (a : Nat → Nat) (x0 : Int32) (x1 : Int32) (k_x0 : 0 ≤ x0.toInt ∧ x0.toInt ≤ 364) (k_x1 : 0 ≤ x1.toInt ∧ x1.toInt ≤ 999) : NM l yX7_draft cX7_draft 4 (some .int) 1 22 0 0 E0 D κ (xw κ a) sz [.ref (a 0), .int x0, .int x1] (QI D κ (xw κ a) sz 0 (fun qs : W1 => [])) := by
  refine NM.of (by decide +kernel) (Nat.le_of_ble_eq_true rfl) ?_
  intro p e s m below meth c ls hC hr hk hin hsz hE hT H locs hG hl
  have hx := hC.1
  have hb := hC.2.1
  have hl : lv_has ls 4 [(0, .ref (a 0)), (1, .int x0), (2, .int x1)] := hl
  refine lv_iload_n hx hb dX7_draft_0 rfl (lv_at hl 1 rfl) ?_
  have cut1 : Cut (xw κ a) (xw κ a) ([]) := (Cut.all 45 rfl (by decide))
  refine zc_v hG cut1 (zr_S (n := 1) (As := [.int x0]) (rest := []) hC hG hE hT cut1 (z_145_needDay l hst D κ E0 H.size a x0 ⟨by omega, by omega⟩) w413 w2 w415 w414 (by decide +kernel) ⟨Nat.le_of_ble_eq_true rfl, Nat.le_of_ble_eq_true rfl⟩ rfl hl.1 rfl (Nat.le_of_ble_eq_true rfl) dX7_draft_1 ⟨Nat.le_of_ble_eq_true rfl, Nat.le_of_ble_eq_true rfl⟩) (fun z1 H locs hG => ?_)
  have hG : BW D κ (xw κ a) _ s H locs := hG
  refine lv_iload_n hx hb dX7_draft_4 rfl (lv_at hl 2 rfl) ?_
  refine lv_if_lt (tgt := 15) hx hb dX7_draft_5 (by decide) (fun h5 => absurd h5 (mt Int32.lt_iff_toInt_lt.mp (by have e1 : (0 : Int32).toInt = 0 := (by decide); omega))) (fun _ => ?_)
  refine lv_iload_n hx hb dX7_draft_8 rfl (lv_at hl 2 rfl) ?_
  refine lv_sipush (v := 999) hx hb dX7_draft_9 (by decide) ?_
  refine lv_icmp_le (tgt := 25) hx hb dX7_draft_12 (by decide) (fun _ => ?_) (fun h12 => absurd (Int32.le_iff_toInt_le.mpr (by have e0 : (999 : Int32).toInt = 999 := (by decide); omega)) h12)
  refine lv_aload_n hx hb dX7_draft_25 rfl (lv_at hl 0 rfl) ?_
  refine bw_get (C := RX7) (T := TX7) (N := 10) (ci := 7) (v := .ref (a 7)) 1 (by decide) 0 hC hG iwX7 (xw_0 κ a) rfl w20 rfl rfl dX7_draft_26 ?_
  refine bw_get (C := RX1) (T := TX1) (N := 4) (ci := 1) (v := .ref (a 8)) 0 (by decide) 7 hC hG iwX1 (xw_7 κ a) rfl w411 rfl rfl dX7_draft_29 ?_
  refine bw_get (C := RX4) (T := TX4) (N := 4) (ci := 4) (v := .int 0) 3 (by decide) 8 hC hG iwX4 (xw_8 κ a) rfl w412 rfl rfl dX7_draft_32 ?_
  refine lv_istore_n (lv' := [(3, .int 0), (0, .ref (a 0)), (1, .int x0), (2, .int x1)]) hx hb dX7_draft_35 rfl hl (by decide) rfl (fun ls hl => ?_)
  refine lv_aload_n hx hb dX7_draft_36 rfl (lv_at hl 1 rfl) ?_
  refine bw_get (C := RX7) (T := TX7) (N := 10) (ci := 7) (v := .ref (a 7)) 1 (by decide) 0 hC hG iwX7 (xw_0 κ a) rfl w20 rfl rfl dX7_draft_37 ?_
  refine lv_iload_n hx hb dX7_draft_40 rfl (lv_at hl 2 rfl) ?_
  refine lv_iload_n hx hb dX7_draft_41 rfl (lv_at hl 3 rfl) ?_
  have cut42 : Cut (xw κ a) (xw κ a) ([]) := (Cut.all 45 rfl (by decide))
  refine zc_v hG cut42 (zr_V (k := 7) (ci := 1) (n := 2) (As := [.int x0, .int x1]) (rest := []) hC hG hE hT cut42 (z_154_begin l hst D κ E0 H.size a x0 x1 ⟨by omega, by omega⟩ ⟨by omega, by omega⟩) rfl rfl w416 w19 w419 w417 w418 (by decide +kernel) ⟨Nat.le_of_ble_eq_true rfl, Nat.le_of_ble_eq_true rfl⟩ rfl hl.1 rfl (Nat.le_of_ble_eq_true rfl) dX7_draft_42 ⟨Nat.le_of_ble_eq_true rfl, Nat.le_of_ble_eq_true rfl⟩) (fun z2 H locs hG => ?_)
  have hG : BW D κ ([]) _ s H locs := hG
  refine lv_iload_n hx hb dX7_draft_45 rfl (lv_at hl 0 rfl) ?_
  exact ze_i (qs := fun _ => 0) hC hG rfl rfl hr rfl hk (Nat.le_of_ble_eq_true rfl) (Nat.le_of_ble_eq_true rfl) dX7_draft_46
theorem dL_draft_10 : decode cL_draft 10 = .ok (.goto 7, 3) := by decide +kernel
theorem dL_draft_17 : decode cL_draft 17 = .ok (.iconst 0, 1) := by decide +kernel
theorem dL_draft_18 : decode cL_draft 18 = .ok (.ireturn, 1) := by decide +kernel
theorem dL_draft_8 : decode cL_draft 8 = .ok (.i2l, 1) := by decide +kernel
theorem dL_draft_9 : decode cL_draft 9 = .ok (.lastore, 1) := by decide +kernel
set_option maxHeartbeats 4000000 in
set_option maxRecDepth 100000 in
theorem z_156_draft (l : Launch) (hst : l.stackTraces = false) (D : va_G) (κ : K4) (E0 : Nat) (sz : Nat) (a : Nat → Nat) (x0 : Int32) (x1 : Int32) (o : Nat) (k_x0 : 0 ≤ x0.toInt ∧ x0.toInt ≤ 364) (k_x1 : 0 ≤ x1.toInt ∧ x1.toInt ≤ 999) : NH l yL_draft cL_draft 5 (some .int) [(0, 10, 13, 13)] 2 45 0 0 E0 D κ (xw κ a ++ [(o, .inl (κ.2.1, 1, .inr (.inl (fun _ => 0))))]) sz [.ref (a 0), .int x0, .int x1, .ref o] (QI D κ (xw κ a ++ [(o, .inl (κ.2.1, 1, .inr (.inl (fun _ => 0))))]) sz 0 (fun qs : W1 => [(o, .inl (κ.2.1, 1, .inr (.inl (va_up (fun _ => 0) ((0 : Int32).toNatClampNeg) 0))))])) := by
  refine NH.of (by decide +kernel) (Nat.le_of_ble_eq_true rfl) ?_
  intro p e s m below meth c ls hC hr hk htab hsz hE hT H locs hG hl
  have hx := hC.1
  have hb := hC.2.1
  have hl : lv_has ls 5 [(0, .ref (a 0)), (1, .int x0), (2, .int x1), (3, .ref o)] := hl
  refine lv_aload_n hx hb dL_draft_0 rfl (lv_at hl 3 rfl) ?_
  refine lv_iconst (v := 0) hx hb dL_draft_1 (by decide) ?_
  refine lv_aload_n hx hb dL_draft_2 rfl (lv_at hl 0 rfl) ?_
  refine lv_iload_n hx hb dL_draft_3 rfl (lv_at hl 1 rfl) ?_
  refine lv_iload_n hx hb dL_draft_4 rfl (lv_at hl 2 rfl) ?_
  have cut5 : Cut (xw κ a ++ [(o, .inl (κ.2.1, 1, .inr (.inl (fun _ => 0))))]) (xw κ a) ([(o, .inl (κ.2.1, 1, .inr (.inl (fun _ => 0))))]) := (Cut.one 45 rfl (by decide))
  refine zc_i hG cut5 (zr_V (k := 0) (ci := 7) (n := 2) (As := [.int x0, .int x1]) (rest := [.int 0, .ref o]) hC hG hE hT cut5 (z_155_draft l hst D κ E0 H.size a x0 x1 ⟨by omega, by omega⟩ ⟨by omega, by omega⟩) rfl rfl w407 w2 w410 w408 w409 (by decide +kernel) ⟨Nat.le_of_ble_eq_true rfl, Nat.le_of_ble_eq_true rfl⟩ rfl hl.1 rfl (Nat.le_of_ble_eq_true rfl) dL_draft_5 ⟨Nat.le_of_ble_eq_true rfl, Nat.le_of_ble_eq_true rfl⟩) (fun z1 H locs hG => ?_)
  have hG : BW D κ ([(o, .inl (κ.2.1, 1, .inr (.inl (fun _ => 0))))]) _ s H locs := hG
  refine lv_i2l (v := 0) hx hb dL_draft_8 (by decide) ?_
  refine zs_lst 0 hC hG rfl (vp_box (by have e0 : (0 : Int32).toInt = 0 := (by decide); omega) (by have e0 : (0 : Int32).toInt = 0 := (by decide); omega)) dL_draft_9 (fun H locs hG => ?_)
  have hG : BW D κ (([(o, .inl (κ.2.1, 1, .inr (.inl (fun _ => 0))))] : va_W).set 0 (o, .inl (κ.2.1, 1, .inr (.inl (va_up (fun _ => 0) ((0 : Int32).toNatClampNeg) 0))))) _ s H locs := hG
  refine lv_goto (tgt := 17) hx hb dL_draft_10 (by decide) ?_
  refine lv_iconst (v := 0) hx hb dL_draft_17 (by decide) ?_
  exact ze_i (qs := fun _ => 0) hC hG rfl rfl hr rfl hk (Nat.le_of_ble_eq_true rfl) (Nat.le_of_ble_eq_true rfl) dL_draft_18
set_option maxHeartbeats 4000000 in
set_option maxRecDepth 100000 in
theorem z_157_isIn (l : Launch) (hst : l.stackTraces = false) (D : va_G) (κ : K4) (E0 : Nat) (sz : Nat) (b : Nat → Nat) (x0 : Int32) (k_x0 : 0 ≤ x0.toInt ∧ x0.toInt ≤ 999) : NM l yX14_isIn cX14_isIn 3 (some .boolean) 0 0 0 0 E0 D κ (mw κ b E0 0) sz [.int x0, .int 0, .int 999] (QI D κ (mw κ b E0 0) sz 1 (fun qs : W1 => mw κ b E0 0)) := by
  refine NM.of (by decide +kernel) (Nat.le_of_ble_eq_true rfl) ?_
  intro p e s m below meth c ls hC hr hk hin hsz hE hT H locs hG hl
  have hx := hC.1
  have hb := hC.2.1
  have hl : lv_has ls 3 [(0, .int x0), (1, .int 0), (2, .int 999)] := hl
  refine lv_iload_n hx hb dX14_isIn_0 rfl (lv_at hl 0 rfl) ?_
  refine lv_iload_n hx hb dX14_isIn_1 rfl (lv_at hl 1 rfl) ?_
  refine lv_icmp_lt (tgt := 14) hx hb dX14_isIn_2 (by decide) (fun h2 => absurd h2 (mt Int32.lt_iff_toInt_lt.mp (by have e1 : (0 : Int32).toInt = 0 := (by decide); omega))) (fun _ => ?_)
  refine lv_iload_n hx hb dX14_isIn_5 rfl (lv_at hl 0 rfl) ?_
  refine lv_iload_n hx hb dX14_isIn_6 rfl (lv_at hl 2 rfl) ?_
  refine lv_icmp_gt (tgt := 14) hx hb dX14_isIn_7 (by decide) (fun h7 => absurd h7 (mt Int32.lt_iff_toInt_lt.mp (by have e0 : (999 : Int32).toInt = 999 := (by decide); omega))) (fun _ => ?_)
  refine lv_iconst (v := 1) hx hb dX14_isIn_10 (by decide) ?_
  refine lv_goto (tgt := 15) hx hb dX14_isIn_11 (by decide) ?_
  exact ze_i (qs := fun _ => 0) hC hG rfl rfl hr rfl hk (Nat.le_of_ble_eq_true rfl) (Nat.le_of_ble_eq_true rfl) dX14_isIn_15
set_option maxHeartbeats 4000000 in
set_option maxRecDepth 100000 in
theorem z_158_size (l : Launch) (hst : l.stackTraces = false) (D : va_G) (κ : K4) (E0 : Nat) (sz : Nat) (h0 : Nat) (h1 : Nat) (h2 : Nat) (h3 : Nat) (h4 : Nat) (h5 : Nat) (h6 : Nat) (h7 : Nat) (h8 : Nat) : NM l yJx4a65c_size_8abf5 cJx4a65c_size_8abf5 1 (some .int) 0 0 0 0 E0 D κ ([(h1, .inr (9, [.int 0, .ref h2, .ref h3, .ref h4, .ref h5, .ref h6, .ref h7, .ref h8, .null, .int 0, .int (-1), .int 0, .int 0, .int 0, .ref h0])), (h2, .inl (κ.1, 4, .inl (fun _ => 1000))), (h3, .inr (10, [.int 0, .ref E0, .int 0])), (h4, .inr (10, [.int 0, .ref E0, .int 0])), (h5, .inr (10, [.int 0, .ref E0, .int 0])), (h6, .inr (10, [.int 0, .ref E0, .int 0])), (h7, .inr (10, [.int 0, .ref E0, .int 0])), (h8, .inr (10, [.int 0, .ref E0, .int 0])), (h0, .inr (10, [.int 0, .ref E0, .int 0]))]) sz [.ref h0] (QI D κ ([(h1, .inr (9, [.int 0, .ref h2, .ref h3, .ref h4, .ref h5, .ref h6, .ref h7, .ref h8, .null, .int 0, .int (-1), .int 0, .int 0, .int 0, .ref h0])), (h2, .inl (κ.1, 4, .inl (fun _ => 1000))), (h3, .inr (10, [.int 0, .ref E0, .int 0])), (h4, .inr (10, [.int 0, .ref E0, .int 0])), (h5, .inr (10, [.int 0, .ref E0, .int 0])), (h6, .inr (10, [.int 0, .ref E0, .int 0])), (h7, .inr (10, [.int 0, .ref E0, .int 0])), (h8, .inr (10, [.int 0, .ref E0, .int 0])), (h0, .inr (10, [.int 0, .ref E0, .int 0]))]) sz 0 (fun qs : W1 => [(h1, .inr (9, [.int 0, .ref h2, .ref h3, .ref h4, .ref h5, .ref h6, .ref h7, .ref h8, .null, .int 0, .int (-1), .int 0, .int 0, .int 0, .ref h0])), (h2, .inl (κ.1, 4, .inl (fun _ => 1000))), (h3, .inr (10, [.int 0, .ref E0, .int 0])), (h4, .inr (10, [.int 0, .ref E0, .int 0])), (h5, .inr (10, [.int 0, .ref E0, .int 0])), (h6, .inr (10, [.int 0, .ref E0, .int 0])), (h7, .inr (10, [.int 0, .ref E0, .int 0])), (h8, .inr (10, [.int 0, .ref E0, .int 0])), (h0, .inr (10, [.int 0, .ref E0, .int 0]))])) := by
  refine NM.of (by decide +kernel) (Nat.le_of_ble_eq_true rfl) ?_
  intro p e s m below meth c ls hC hr hk hin hsz hE hT H locs hG hl
  have hx := hC.1
  have hb := hC.2.1
  have hl : lv_has ls 1 [(0, .ref h0)] := hl
  refine lv_aload_n hx hb dJx4a65c_size_8abf5_0 rfl (lv_at hl 0 rfl) ?_
  refine bw_get (C := RJx4a65c) (T := TJx4a65c) (N := 3) (ci := 10) (v := .int 0) 2 (by decide) 8 hC hG iwJA rfl rfl w183 rfl rfl dJx4a65c_size_8abf5_1 ?_
  exact ze_i (qs := fun _ => 0) hC hG rfl rfl hr rfl hk (Nat.le_of_ble_eq_true rfl) (Nat.le_of_ble_eq_true rfl) dJx4a65c_size_8abf5_4
theorem dJxa1e45_init_da8c8_0 : decode cJxa1e45_init_da8c8 0 = .ok (.aload_n 0, 1) := by decide +kernel
theorem dJxa1e45_init_da8c8_1 : decode cJxa1e45_init_da8c8 1 = .ok (.invokespecial 1, 3) := by decide +kernel
theorem dJxa1e45_init_da8c8_4 : decode cJxa1e45_init_da8c8 4 = .ok (.return_, 1) := by decide +kernel
set_option maxHeartbeats 4000000 in
set_option maxRecDepth 100000 in
theorem z_159_init (l : Launch) (hst : l.stackTraces = false) (D : va_G) (κ : K4) (E0 : Nat) (sz : Nat) (h0 : Nat) : NM l yJxa1e45_init_da8c8 cJxa1e45_init_da8c8 1 none 1 12 0 0 E0 D κ ([(h0, .inr (10, [.int 0, .null, .int 0]))]) sz [.ref h0] (QV D κ ([(h0, .inr (10, [.int 0, .null, .int 0]))]) sz (fun qs : W1 => [(h0, .inr (10, [.int 0, .null, .int 0]))])) := by
  refine NM.of (by decide +kernel) (Nat.le_of_ble_eq_true rfl) ?_
  intro p e s m below meth c ls hC hr hk hin hsz hE hT H locs hG hl
  have hx := hC.1
  have hb := hC.2.1
  have hl : lv_has ls 1 [(0, .ref h0)] := hl
  refine lv_aload_n hx hb dJxa1e45_init_da8c8_0 rfl (lv_at hl 0 rfl) ?_
  refine bw_obj hC w140 hl.1 dJxa1e45_init_da8c8_1 (Nat.le_of_ble_eq_true rfl) (Nat.le_of_ble_eq_true rfl) w11 w12 ?_
  exact ze_v (qs := fun _ => 0) hC hG rfl hr hk (Nat.le_of_ble_eq_true rfl) (Nat.le_of_ble_eq_true rfl) dJxa1e45_init_da8c8_4
theorem dJxc12de_init_da8c8_0 : decode cJxc12de_init_da8c8 0 = .ok (.aload_n 0, 1) := by decide +kernel
theorem dJxc12de_init_da8c8_1 : decode cJxc12de_init_da8c8 1 = .ok (.invokespecial 1, 3) := by decide +kernel
theorem dJxc12de_init_da8c8_4 : decode cJxc12de_init_da8c8 4 = .ok (.aload_n 0, 1) := by decide +kernel
theorem dJxc12de_init_da8c8_5 : decode cJxc12de_init_da8c8 5 = .ok (.iconst 0, 1) := by decide +kernel
theorem dJxc12de_init_da8c8_6 : decode cJxc12de_init_da8c8 6 = .ok (.putfield 7, 3) := by decide +kernel
theorem dJxc12de_init_da8c8_9 : decode cJxc12de_init_da8c8 9 = .ok (.return_, 1) := by decide +kernel
set_option maxHeartbeats 4000000 in
set_option maxRecDepth 100000 in
theorem z_160_init (l : Launch) (hst : l.stackTraces = false) (D : va_G) (κ : K4) (E0 : Nat) (sz : Nat) (h0 : Nat) : NM l yJxc12de_init_da8c8 cJxc12de_init_da8c8 1 none 2 32 0 0 E0 D κ ([(h0, .inr (10, [.int 0, .null, .int 0]))]) sz [.ref h0] (QV D κ ([(h0, .inr (10, [.int 0, .null, .int 0]))]) sz (fun qs : W1 => [(h0, .inr (10, [.int 0, .null, .int 0]))])) := by
  refine NM.of (by decide +kernel) (Nat.le_of_ble_eq_true rfl) ?_
  intro p e s m below meth c ls hC hr hk hin hsz hE hT H locs hG hl
  have hx := hC.1
  have hb := hC.2.1
  have hl : lv_has ls 1 [(0, .ref h0)] := hl
  refine lv_aload_n hx hb dJxc12de_init_da8c8_0 rfl (lv_at hl 0 rfl) ?_
  have cut1 : Cut ([(h0, .inr (10, [.int 0, .null, .int 0]))]) ([(h0, .inr (10, [.int 0, .null, .int 0]))]) ([]) := (Cut.all 1 rfl (by decide))
  refine zc_v hG cut1 (zr_I (n := 0) (As := []) (rest := []) hC hG hE hT cut1 (z_159_init l hst D κ E0 H.size h0) w136 w138 w139 w137 rfl (by decide +kernel) ⟨Nat.le_of_ble_eq_true rfl, Nat.le_of_ble_eq_true rfl⟩ rfl hl.1 rfl (Nat.le_of_ble_eq_true rfl) dJxc12de_init_da8c8_1 ⟨Nat.le_of_ble_eq_true rfl, Nat.le_of_ble_eq_true rfl⟩) (fun z1 H locs hG => ?_)
  have hG : BW D κ ([(h0, .inr (10, [.int 0, .null, .int 0]))]) _ s H locs := hG
  refine lv_aload_n hx hb dJxc12de_init_da8c8_4 rfl (lv_at hl 0 rfl) ?_
  refine lv_iconst (v := 0) hx hb dJxc12de_init_da8c8_5 (by decide) ?_
  refine bw_put (C := RJx4a65c) (T := TJx4a65c) (N := 3) (ci := 10) (ty0 := tyJx4a65c) (ty := .int) (v := .int 0) 0 (by decide) 0 hC hG iwJA tyJx4a65c_ok nmJx4a65c rfl rfl w135 rfl (Or.inl rfl) (by decide +kernel) rfl rfl (Nat.le_of_ble_eq_true rfl) dJxc12de_init_da8c8_6 (fun H locs hG => ?_)
  have hG : BW D κ (([(h0, .inr (10, [.int 0, .null, .int 0]))] : va_W).set 0 (h0, .inr (10, [.int 0, .null, .int 0]))) _ s H locs := hG
  exact ze_v (qs := fun _ => 0) hC hG rfl hr hk (Nat.le_of_ble_eq_true rfl) (Nat.le_of_ble_eq_true rfl) dJxc12de_init_da8c8_9
theorem dJx4a65c_init_da8c8_0 : decode cJx4a65c_init_da8c8 0 = .ok (.aload_n 0, 1) := by decide +kernel
theorem dJx4a65c_init_da8c8_1 : decode cJx4a65c_init_da8c8 1 = .ok (.invokespecial 1, 3) := by decide +kernel
theorem dJx4a65c_init_da8c8_11 : decode cJx4a65c_init_da8c8 11 = .ok (.return_, 1) := by decide +kernel
theorem dJx4a65c_init_da8c8_4 : decode cJx4a65c_init_da8c8 4 = .ok (.aload_n 0, 1) := by decide +kernel
theorem dJx4a65c_init_da8c8_5 : decode cJx4a65c_init_da8c8 5 = .ok (.getstatic 39, 3) := by decide +kernel
theorem dJx4a65c_init_da8c8_8 : decode cJx4a65c_init_da8c8 8 = .ok (.putfield 9, 3) := by decide +kernel
set_option maxHeartbeats 4000000 in
set_option maxRecDepth 100000 in
theorem z_161_init (l : Launch) (hst : l.stackTraces = false) (D : va_G) (κ : K4) (E0 : Nat) (sz : Nat) (h0 : Nat) : NM l yJx4a65c_init_da8c8 cJx4a65c_init_da8c8 1 none 3 52 0 0 E0 D κ ([(h0, .inr (10, [.int 0, .null, .int 0]))]) sz [.ref h0] (QV D κ ([(h0, .inr (10, [.int 0, .null, .int 0]))]) sz (fun qs : W1 => [(h0, .inr (10, [.int 0, .ref E0, .int 0]))])) := by
  refine NM.of (by decide +kernel) (Nat.le_of_ble_eq_true rfl) ?_
  intro p e s m below meth c ls hC hr hk hin hsz hE hT H locs hG hl
  have hx := hC.1
  have hb := hC.2.1
  have hl : lv_has ls 1 [(0, .ref h0)] := hl
  refine lv_aload_n hx hb dJx4a65c_init_da8c8_0 rfl (lv_at hl 0 rfl) ?_
  have cut1 : Cut ([(h0, .inr (10, [.int 0, .null, .int 0]))]) ([(h0, .inr (10, [.int 0, .null, .int 0]))]) ([]) := (Cut.all 1 rfl (by decide))
  refine zc_v hG cut1 (zr_I (n := 0) (As := []) (rest := []) hC hG hE hT cut1 (z_160_init l hst D κ E0 H.size h0) w131 w133 w134 w132 rfl (by decide +kernel) ⟨Nat.le_of_ble_eq_true rfl, Nat.le_of_ble_eq_true rfl⟩ rfl hl.1 rfl (Nat.le_of_ble_eq_true rfl) dJx4a65c_init_da8c8_1 ⟨Nat.le_of_ble_eq_true rfl, Nat.le_of_ble_eq_true rfl⟩) (fun z1 H locs hG => ?_)
  have hG : BW D κ ([(h0, .inr (10, [.int 0, .null, .int 0]))]) _ s H locs := hG
  refine lv_aload_n hx hb dJx4a65c_init_da8c8_4 rfl (lv_at hl 0 rfl) ?_
  refine zs_est hC hG hE w129 dJx4a65c_init_da8c8_5 ?_
  refine bw_put (C := RJx4a65c) (T := TJx4a65c) (N := 3) (ci := 10) (ty0 := tyJx4a65c) (ty := .array (.object "java/lang/Object")) (v := .ref E0) 1 (by decide) 0 hC hG iwJA tyJx4a65c_ok nmJx4a65c rfl rfl w130 rfl (Or.inl rfl) (by decide +kernel) rfl rfl (Nat.le_of_ble_eq_true rfl) dJx4a65c_init_da8c8_8 (fun H locs hG => ?_)
  have hG : BW D κ (([(h0, .inr (10, [.int 0, .null, .int 0]))] : va_W).set 0 (h0, .inr (10, [.int 0, .ref E0, .int 0]))) _ s H locs := hG
  exact ze_v (qs := fun _ => 0) hC hG rfl hr hk (Nat.le_of_ble_eq_true rfl) (Nat.le_of_ble_eq_true rfl) dJx4a65c_init_da8c8_11
theorem dX14_draft_27 : decode cX14_draft 27 = .ok (.iconst 0, 1) := by decide +kernel
theorem dX14_draft_37 : decode cX14_draft 37 = .ok (.aload_n 0, 1) := by decide +kernel
theorem dX14_draft_38 : decode cX14_draft 38 = .ok (.getfield 39, 3) := by decide +kernel
theorem dX14_draft_41 : decode cX14_draft 41 = .ok (.invokevirtual 49, 3) := by decide +kernel
theorem dX14_draft_44 : decode cX14_draft 44 = .ok (.istore_n 3, 1) := by decide +kernel
theorem dX14_draft_45 : decode cX14_draft 45 = .ok (.aload_n 0, 1) := by decide +kernel
theorem dX14_draft_46 : decode cX14_draft 46 = .ok (.new 13, 3) := by decide +kernel
theorem dX14_draft_49 : decode cX14_draft 49 = .ok (.dup, 1) := by decide +kernel
theorem dX14_draft_50 : decode cX14_draft 50 = .ok (.invokespecial 15, 3) := by decide +kernel
theorem dX14_draft_53 : decode cX14_draft 53 = .ok (.putfield 39, 3) := by decide +kernel
theorem dX14_draft_56 : decode cX14_draft 56 = .ok (.aload_n 0, 1) := by decide +kernel
theorem dX14_draft_57 : decode cX14_draft 57 = .ok (.iconst 1, 1) := by decide +kernel
theorem dX14_draft_58 : decode cX14_draft 58 = .ok (.putfield 167, 3) := by decide +kernel
theorem dX14_draft_61 : decode cX14_draft 61 = .ok (.aload_n 0, 1) := by decide +kernel
theorem dX14_draft_62 : decode cX14_draft 62 = .ok (.iload_n 1, 1) := by decide +kernel
theorem dX14_draft_63 : decode cX14_draft 63 = .ok (.putfield 170, 3) := by decide +kernel
theorem dX14_draft_66 : decode cX14_draft 66 = .ok (.aload_n 0, 1) := by decide +kernel
theorem dX14_draft_67 : decode cX14_draft 67 = .ok (.iload_n 2, 1) := by decide +kernel
theorem dX14_draft_68 : decode cX14_draft 68 = .ok (.putfield 173, 3) := by decide +kernel
theorem dX14_draft_71 : decode cX14_draft 71 = .ok (.iload_n 3, 1) := by decide +kernel
theorem dX14_draft_72 : decode cX14_draft 72 = .ok (.ireturn, 1) := by decide +kernel
set_option maxHeartbeats 4000000 in
set_option maxRecDepth 100000 in
theorem z_162_draft (l : Launch) (hst : l.stackTraces = false) (D : va_G) (κ : K4) (E0 : Nat) (sz : Nat) (b : Nat → Nat) (x0 : Int32) (x1 : Int32) (k_x0 : 0 ≤ x0.toInt ∧ x0.toInt ≤ 364) (k_x1 : 0 ≤ x1.toInt ∧ x1.toInt ≤ 999) : NM l yX14_draft cX14_draft 4 (some .int) 4 72 1 3 E0 D κ (mw κ b E0 0) sz [.ref (b 0), .int x0, .int x1] (QI D κ (mw κ b E0 0) sz 0 (fun qs : W1 => [(b 0, .inr (9, [.int 0, .ref (b 1), .ref (b 2), .ref (b 3), .ref (b 4), .ref (b 5), .ref (b 6), .ref (b 7), .null, .int 0, .int (-1), .int 1, .int x0, .int x1, .ref (qs 0)]))])) := by
  refine NM.of (by decide +kernel) (Nat.le_of_ble_eq_true rfl) ?_
  intro p e s m below meth c ls hC hr hk hin hsz hE hT H locs hG hl
  have hx := hC.1
  have hb := hC.2.1
  have hl : lv_has ls 4 [(0, .ref (b 0)), (1, .int x0), (2, .int x1)] := hl
  refine lv_aload_n hx hb dX14_draft_0 rfl (lv_at hl 0 rfl) ?_
  refine lv_iload_n hx hb dX14_draft_1 rfl (lv_at hl 1 rfl) ?_
  refine lv_iconst (v := 0) hx hb dX14_draft_2 (by decide) ?_
  refine lv_sipush (v := 364) hx hb dX14_draft_3 (by decide) ?_
  have cut6 : Cut (mw κ b E0 0) (mw κ b E0 0) ([]) := (Cut.all 9 rfl (by decide))
  refine zc_i hG cut6 (zr_S (n := 3) (As := [.int x0, .int 0, .int 364]) (rest := [.ref (b 0)]) hC hG hE hT cut6 (z_134_isIn l hst D κ E0 H.size b x0 ⟨by omega, by omega⟩) w167 w5 w169 w168 (by decide +kernel) ⟨Nat.le_of_ble_eq_true rfl, Nat.le_of_ble_eq_true rfl⟩ rfl hl.1 rfl (Nat.le_of_ble_eq_true rfl) dX14_draft_6 ⟨Nat.le_of_ble_eq_true rfl, Nat.le_of_ble_eq_true rfl⟩) (fun z1 H locs hG => ?_)
  have hG : BW D κ (mw κ b E0 0) _ s H locs := hG
  refine lv_if_eq (tgt := 23) hx hb dX14_draft_9 (by decide) (fun h9 => absurd h9 (by decide)) (fun _ => ?_)
  refine lv_iload_n hx hb dX14_draft_12 rfl (lv_at hl 2 rfl) ?_
  refine lv_iconst (v := 0) hx hb dX14_draft_13 (by decide) ?_
  refine lv_sipush (v := 999) hx hb dX14_draft_14 (by decide) ?_
  have cut17 : Cut (mw κ b E0 0) (mw κ b E0 0) ([]) := (Cut.all 9 rfl (by decide))
  refine zc_i hG cut17 (zr_S (n := 3) (As := [.int x1, .int 0, .int 999]) (rest := [.ref (b 0)]) hC hG hE hT cut17 (z_157_isIn l hst D κ E0 H.size b x1 ⟨by omega, by omega⟩) w167 w5 w169 w168 (by decide +kernel) ⟨Nat.le_of_ble_eq_true rfl, Nat.le_of_ble_eq_true rfl⟩ rfl hl.1 rfl (Nat.le_of_ble_eq_true rfl) dX14_draft_17 ⟨Nat.le_of_ble_eq_true rfl, Nat.le_of_ble_eq_true rfl⟩) (fun z2 H locs hG => ?_)
  have hG : BW D κ (mw κ b E0 0) _ s H locs := hG
  refine lv_if_ne (tgt := 27) hx hb dX14_draft_20 (by decide) (fun _ => ?_) (fun h20 => absurd h20 (by decide))
  refine lv_iconst (v := 0) hx hb dX14_draft_27 (by decide) ?_
  refine lv_iconst (v := 1) hx hb dX14_draft_28 (by decide) ?_
  have cut29 : Cut (mw κ b E0 0) (mw κ b E0 0) ([]) := (Cut.all 9 rfl (by decide))
  refine zc_i hG cut29 (zr_V (k := 0) (ci := 9) (n := 2) (As := [.int 0, .int 1]) (rest := []) hC hG hE hT cut29 (z_25_start l hst D κ E0 H.size b) rfl rfl w170 w5 w173 w171 w172 (by decide +kernel) ⟨Nat.le_of_ble_eq_true rfl, Nat.le_of_ble_eq_true rfl⟩ rfl hl.1 rfl (Nat.le_of_ble_eq_true rfl) dX14_draft_29 ⟨Nat.le_of_ble_eq_true rfl, Nat.le_of_ble_eq_true rfl⟩) (fun z3 H locs hG => ?_)
  have hG : BW D κ (mw κ b E0 0) _ s H locs := hG
  refine lv_if_eq (tgt := 37) hx hb dX14_draft_32 (by decide) (fun _ => ?_) (fun h32 => absurd (by decide) h32)
  refine lv_aload_n hx hb dX14_draft_37 rfl (lv_at hl 0 rfl) ?_
  refine bw_get (C := RX14) (T := TX14) (N := 15) (ci := 9) (v := .ref (b 8)) 14 (by decide) 0 hC hG iwX14 rfl rfl w125 rfl rfl dX14_draft_38 ?_
  have cut41 : Cut (mw κ b E0 0) (mw κ b E0 0) ([]) := (Cut.all 9 rfl (by decide))
  refine zc_i hG cut41 (zr_V (k := 8) (ci := 10) (n := 0) (As := []) (rest := []) hC hG hE hT cut41 (z_158_size l hst D κ E0 H.size (b 8) (b 0) (b 1) (b 2) (b 3) (b 4) (b 5) (b 6) (b 7)) rfl rfl w179 w117 w182 w180 w181 (by decide +kernel) ⟨Nat.le_of_ble_eq_true rfl, Nat.le_of_ble_eq_true rfl⟩ rfl hl.1 rfl (Nat.le_of_ble_eq_true rfl) dX14_draft_41 ⟨Nat.le_of_ble_eq_true rfl, Nat.le_of_ble_eq_true rfl⟩) (fun z4 H locs hG => ?_)
  have hG : BW D κ (mw κ b E0 0) _ s H locs := hG
  refine lv_istore_n (lv' := [(3, .int 0), (0, .ref (b 0)), (1, .int x0), (2, .int x1)]) hx hb dX14_draft_44 rfl hl (by decide) rfl (fun ls hl => ?_)
  refine lv_aload_n hx hb dX14_draft_45 rfl (lv_at hl 1 rfl) ?_
  refine bw_new (C := RJx4a65c) (T := TJx4a65c) (N := 3) (ci := 10) (fs := [.int 0, .null, .int 0]) hC hG iwJA tyJx4a65c_ok w115 w116 w117 rfl (fun j hj => by rcases (show j = 0 ∨ j = 1 ∨ j = 2 by omega) with rfl | rfl | rfl <;> rfl) (Nat.le_of_ble_eq_true rfl) (Nat.le_of_ble_eq_true rfl) dX14_draft_46 (fun q1 H hG => ?_)
  have hG : BW D κ ((mw κ b E0 0) ++ [(q1, .inr (10, [.int 0, .null, .int 0]))]) _ s H locs := hG
  refine lv_dup hx hb dX14_draft_49 rfl ?_
  have cut50 : Cut ((mw κ b E0 0) ++ [(q1, .inr (10, [.int 0, .null, .int 0]))]) ([(q1, .inr (10, [.int 0, .null, .int 0]))]) ([(b 0, .inr (9, [.int 0, .ref (b 1), .ref (b 2), .ref (b 3), .ref (b 4), .ref (b 5), .ref (b 6), .ref (b 7), .null, .int 0, .int (-1), .int 0, .int 0, .int 0, .ref (b 8)])), (b 1, .inl (κ.1, 4, .inl (fun _ => 1000))), (b 2, .inr (10, [.int 0, .ref E0, .int 0])), (b 3, .inr (10, [.int 0, .ref E0, .int 0])), (b 4, .inr (10, [.int 0, .ref E0, .int 0])), (b 5, .inr (10, [.int 0, .ref E0, .int 0])), (b 6, .inr (10, [.int 0, .ref E0, .int 0])), (b 7, .inr (10, [.int 0, .ref E0, .int 0])), (b 8, .inr (10, [.int 0, .ref E0, .int 0]))]) := (Cut.idx [9] [0, 1, 2, 3, 4, 5, 6, 7, 8] rfl rfl (by decide) (by decide) (by decide))
  refine zc_v hG cut50 (zr_I (n := 0) (As := []) (rest := [.ref q1, .ref (b 0)]) hC hG hE hT cut50 (z_161_init l hst D κ E0 H.size q1) w126 w117 w128 w127 rfl (by decide +kernel) ⟨Nat.le_of_ble_eq_true rfl, Nat.le_of_ble_eq_true rfl⟩ rfl hl.1 rfl (Nat.le_of_ble_eq_true rfl) dX14_draft_50 ⟨Nat.le_of_ble_eq_true rfl, Nat.le_of_ble_eq_true rfl⟩) (fun z5 H locs hG => ?_)
  have hG : BW D κ (([(b 0, .inr (9, [.int 0, .ref (b 1), .ref (b 2), .ref (b 3), .ref (b 4), .ref (b 5), .ref (b 6), .ref (b 7), .null, .int 0, .int (-1), .int 0, .int 0, .int 0, .ref (b 8)])), (b 1, .inl (κ.1, 4, .inl (fun _ => 1000))), (b 2, .inr (10, [.int 0, .ref E0, .int 0])), (b 3, .inr (10, [.int 0, .ref E0, .int 0])), (b 4, .inr (10, [.int 0, .ref E0, .int 0])), (b 5, .inr (10, [.int 0, .ref E0, .int 0])), (b 6, .inr (10, [.int 0, .ref E0, .int 0])), (b 7, .inr (10, [.int 0, .ref E0, .int 0])), (b 8, .inr (10, [.int 0, .ref E0, .int 0]))]) ++ ([(q1, .inr (10, [.int 0, .ref E0, .int 0]))])) _ s H locs := hG
  refine bw_put (C := RX14) (T := TX14) (N := 15) (ci := 9) (ty0 := tyX14) (ty := .object "java/util/ArrayList") (v := .ref q1) 14 (by decide) 0 hC hG iwX14 tyX14_ok nmX14 rfl rfl w125 rfl (Or.inl rfl) (by decide +kernel) rfl rfl (Nat.le_of_ble_eq_true rfl) dX14_draft_53 (fun H locs hG => ?_)
  have hG : BW D κ ((([(b 0, .inr (9, [.int 0, .ref (b 1), .ref (b 2), .ref (b 3), .ref (b 4), .ref (b 5), .ref (b 6), .ref (b 7), .null, .int 0, .int (-1), .int 0, .int 0, .int 0, .ref (b 8)])), (b 1, .inl (κ.1, 4, .inl (fun _ => 1000))), (b 2, .inr (10, [.int 0, .ref E0, .int 0])), (b 3, .inr (10, [.int 0, .ref E0, .int 0])), (b 4, .inr (10, [.int 0, .ref E0, .int 0])), (b 5, .inr (10, [.int 0, .ref E0, .int 0])), (b 6, .inr (10, [.int 0, .ref E0, .int 0])), (b 7, .inr (10, [.int 0, .ref E0, .int 0])), (b 8, .inr (10, [.int 0, .ref E0, .int 0]))]) ++ ([(q1, .inr (10, [.int 0, .ref E0, .int 0]))]) : va_W).set 0 (b 0, .inr (9, [.int 0, .ref (b 1), .ref (b 2), .ref (b 3), .ref (b 4), .ref (b 5), .ref (b 6), .ref (b 7), .null, .int 0, .int (-1), .int 0, .int 0, .int 0, .ref q1]))) _ s H locs := hG
  refine lv_aload_n hx hb dX14_draft_56 rfl (lv_at hl 1 rfl) ?_
  refine lv_iconst (v := 1) hx hb dX14_draft_57 (by decide) ?_
  refine bw_put (C := RX14) (T := TX14) (N := 15) (ci := 9) (ty0 := tyX14) (ty := .boolean) (v := .int 1) 11 (by decide) 0 hC hG iwX14 tyX14_ok nmX14 rfl rfl w425 rfl (Or.inl rfl) (by decide +kernel) rfl rfl (Nat.le_of_ble_eq_true rfl) dX14_draft_58 (fun H locs hG => ?_)
  have hG : BW D κ (((([(b 0, .inr (9, [.int 0, .ref (b 1), .ref (b 2), .ref (b 3), .ref (b 4), .ref (b 5), .ref (b 6), .ref (b 7), .null, .int 0, .int (-1), .int 0, .int 0, .int 0, .ref (b 8)])), (b 1, .inl (κ.1, 4, .inl (fun _ => 1000))), (b 2, .inr (10, [.int 0, .ref E0, .int 0])), (b 3, .inr (10, [.int 0, .ref E0, .int 0])), (b 4, .inr (10, [.int 0, .ref E0, .int 0])), (b 5, .inr (10, [.int 0, .ref E0, .int 0])), (b 6, .inr (10, [.int 0, .ref E0, .int 0])), (b 7, .inr (10, [.int 0, .ref E0, .int 0])), (b 8, .inr (10, [.int 0, .ref E0, .int 0]))]) ++ ([(q1, .inr (10, [.int 0, .ref E0, .int 0]))]) : va_W).set 0 (b 0, .inr (9, [.int 0, .ref (b 1), .ref (b 2), .ref (b 3), .ref (b 4), .ref (b 5), .ref (b 6), .ref (b 7), .null, .int 0, .int (-1), .int 0, .int 0, .int 0, .ref q1])) : va_W).set 0 (b 0, .inr (9, [.int 0, .ref (b 1), .ref (b 2), .ref (b 3), .ref (b 4), .ref (b 5), .ref (b 6), .ref (b 7), .null, .int 0, .int (-1), .int 1, .int 0, .int 0, .ref q1]))) _ s H locs := hG
  refine lv_aload_n hx hb dX14_draft_61 rfl (lv_at hl 1 rfl) ?_
  refine lv_iload_n hx hb dX14_draft_62 rfl (lv_at hl 2 rfl) ?_
  refine bw_put (C := RX14) (T := TX14) (N := 15) (ci := 9) (ty0 := tyX14) (ty := .int) (v := .int x0) 12 (by decide) 0 hC hG iwX14 tyX14_ok nmX14 rfl rfl w426 rfl (Or.inl rfl) (by decide +kernel) rfl rfl (Nat.le_of_ble_eq_true rfl) dX14_draft_63 (fun H locs hG => ?_)
  have hG : BW D κ ((((([(b 0, .inr (9, [.int 0, .ref (b 1), .ref (b 2), .ref (b 3), .ref (b 4), .ref (b 5), .ref (b 6), .ref (b 7), .null, .int 0, .int (-1), .int 0, .int 0, .int 0, .ref (b 8)])), (b 1, .inl (κ.1, 4, .inl (fun _ => 1000))), (b 2, .inr (10, [.int 0, .ref E0, .int 0])), (b 3, .inr (10, [.int 0, .ref E0, .int 0])), (b 4, .inr (10, [.int 0, .ref E0, .int 0])), (b 5, .inr (10, [.int 0, .ref E0, .int 0])), (b 6, .inr (10, [.int 0, .ref E0, .int 0])), (b 7, .inr (10, [.int 0, .ref E0, .int 0])), (b 8, .inr (10, [.int 0, .ref E0, .int 0]))]) ++ ([(q1, .inr (10, [.int 0, .ref E0, .int 0]))]) : va_W).set 0 (b 0, .inr (9, [.int 0, .ref (b 1), .ref (b 2), .ref (b 3), .ref (b 4), .ref (b 5), .ref (b 6), .ref (b 7), .null, .int 0, .int (-1), .int 0, .int 0, .int 0, .ref q1])) : va_W).set 0 (b 0, .inr (9, [.int 0, .ref (b 1), .ref (b 2), .ref (b 3), .ref (b 4), .ref (b 5), .ref (b 6), .ref (b 7), .null, .int 0, .int (-1), .int 1, .int 0, .int 0, .ref q1])) : va_W).set 0 (b 0, .inr (9, [.int 0, .ref (b 1), .ref (b 2), .ref (b 3), .ref (b 4), .ref (b 5), .ref (b 6), .ref (b 7), .null, .int 0, .int (-1), .int 1, .int x0, .int 0, .ref q1]))) _ s H locs := hG
  refine lv_aload_n hx hb dX14_draft_66 rfl (lv_at hl 1 rfl) ?_
  refine lv_iload_n hx hb dX14_draft_67 rfl (lv_at hl 3 rfl) ?_
  refine bw_put (C := RX14) (T := TX14) (N := 15) (ci := 9) (ty0 := tyX14) (ty := .int) (v := .int x1) 13 (by decide) 0 hC hG iwX14 tyX14_ok nmX14 rfl rfl w427 rfl (Or.inl rfl) (by decide +kernel) rfl rfl (Nat.le_of_ble_eq_true rfl) dX14_draft_68 (fun H locs hG => ?_)
  have hG : BW D κ (((((([(b 0, .inr (9, [.int 0, .ref (b 1), .ref (b 2), .ref (b 3), .ref (b 4), .ref (b 5), .ref (b 6), .ref (b 7), .null, .int 0, .int (-1), .int 0, .int 0, .int 0, .ref (b 8)])), (b 1, .inl (κ.1, 4, .inl (fun _ => 1000))), (b 2, .inr (10, [.int 0, .ref E0, .int 0])), (b 3, .inr (10, [.int 0, .ref E0, .int 0])), (b 4, .inr (10, [.int 0, .ref E0, .int 0])), (b 5, .inr (10, [.int 0, .ref E0, .int 0])), (b 6, .inr (10, [.int 0, .ref E0, .int 0])), (b 7, .inr (10, [.int 0, .ref E0, .int 0])), (b 8, .inr (10, [.int 0, .ref E0, .int 0]))]) ++ ([(q1, .inr (10, [.int 0, .ref E0, .int 0]))]) : va_W).set 0 (b 0, .inr (9, [.int 0, .ref (b 1), .ref (b 2), .ref (b 3), .ref (b 4), .ref (b 5), .ref (b 6), .ref (b 7), .null, .int 0, .int (-1), .int 0, .int 0, .int 0, .ref q1])) : va_W).set 0 (b 0, .inr (9, [.int 0, .ref (b 1), .ref (b 2), .ref (b 3), .ref (b 4), .ref (b 5), .ref (b 6), .ref (b 7), .null, .int 0, .int (-1), .int 1, .int 0, .int 0, .ref q1])) : va_W).set 0 (b 0, .inr (9, [.int 0, .ref (b 1), .ref (b 2), .ref (b 3), .ref (b 4), .ref (b 5), .ref (b 6), .ref (b 7), .null, .int 0, .int (-1), .int 1, .int x0, .int 0, .ref q1])) : va_W).set 0 (b 0, .inr (9, [.int 0, .ref (b 1), .ref (b 2), .ref (b 3), .ref (b 4), .ref (b 5), .ref (b 6), .ref (b 7), .null, .int 0, .int (-1), .int 1, .int x0, .int x1, .ref q1]))) _ s H locs := hG
  refine lv_iload_n hx hb dX14_draft_71 rfl (lv_at hl 0 rfl) ?_
  have hG := hG.at (ws' := [(b 0, .inr (9, [.int 0, .ref (b 1), .ref (b 2), .ref (b 3), .ref (b 4), .ref (b 5), .ref (b 6), .ref (b 7), .null, .int 0, .int (-1), .int 1, .int x0, .int x1, .ref q1]))]) [0] (by decide) rfl
  exact ze_i (qs := fun k => match k with  | _ => q1) hC hG rfl rfl hr rfl hk (Nat.le_of_ble_eq_true rfl) (Nat.le_of_ble_eq_true rfl) dX14_draft_72
set_option maxHeartbeats 4000000 in
set_option maxRecDepth 100000 in
theorem z_163_thrown (l : Launch) (hst : l.stackTraces = false) (D : va_G) (κ : K4) (E0 : Nat) (sz : Nat) (b : Nat → Nat) (x0 : Int32) (x1 : Int32) (h0 : Nat) (k_x0 : 0 ≤ x0.toInt ∧ x0.toInt ≤ 364) (k_x1 : 0 ≤ x1.toInt ∧ x1.toInt ≤ 999) : NM l yX14_thrown cX14_thrown 1 (some .int) 0 0 0 0 E0 D κ ([(b 0, .inr (9, [.int 0, .ref (b 1), .ref (b 2), .ref (b 3), .ref (b 4), .ref (b 5), .ref (b 6), .ref (b 7), .null, .int 0, .int (-1), .int 1, .int x0, .int x1, .ref h0]))]) sz [.ref (b 0)] (QI D κ ([(b 0, .inr (9, [.int 0, .ref (b 1), .ref (b 2), .ref (b 3), .ref (b 4), .ref (b 5), .ref (b 6), .ref (b 7), .null, .int 0, .int (-1), .int 1, .int x0, .int x1, .ref h0]))]) sz 0 (fun qs : W1 => [(b 0, .inr (9, [.int 0, .ref (b 1), .ref (b 2), .ref (b 3), .ref (b 4), .ref (b 5), .ref (b 6), .ref (b 7), .null, .int 0, .int (-1), .int 1, .int x0, .int x1, .ref h0]))])) := by
  refine NM.of (by decide +kernel) (Nat.le_of_ble_eq_true rfl) ?_
  intro p e s m below meth c ls hC hr hk hin hsz hE hT H locs hG hl
  have hx := hC.1
  have hb := hC.2.1
  have hl : lv_has ls 1 [(0, .ref (b 0))] := hl
  refine lv_aload_n hx hb dX14_thrown_0 rfl (lv_at hl 0 rfl) ?_
  refine bw_get (C := RX14) (T := TX14) (N := 15) (ci := 9) (v := .int 0) 0 (by decide) 0 hC hG iwX14 rfl rfl w174 rfl rfl dX14_thrown_1 ?_
  exact ze_i (qs := fun _ => 0) hC hG rfl rfl hr rfl hk (Nat.le_of_ble_eq_true rfl) (Nat.le_of_ble_eq_true rfl) dX14_thrown_4
theorem dX7_whyNotPosted_0 : decode cX7_whyNotPosted 0 = .ok (.aload_n 0, 1) := by decide +kernel
theorem dX7_whyNotPosted_1 : decode cX7_whyNotPosted 1 = .ok (.getfield 19, 3) := by decide +kernel
theorem dX7_whyNotPosted_10 : decode cX7_whyNotPosted 10 = .ok (.iconst 1, 1) := by decide +kernel
theorem dX7_whyNotPosted_11 : decode cX7_whyNotPosted 11 = .ok (.ireturn, 1) := by decide +kernel
theorem dX7_whyNotPosted_4 : decode cX7_whyNotPosted 4 = .ok (.getfield 149, 3) := by decide +kernel
theorem dX7_whyNotPosted_7 : decode cX7_whyNotPosted 7 = .ok (.ifCond .ne 5, 3) := by decide +kernel
set_option maxHeartbeats 4000000 in
set_option maxRecDepth 100000 in
theorem z_164_whyNotPosted (l : Launch) (hst : l.stackTraces = false) (D : va_G) (κ : K4) (E0 : Nat) (sz : Nat) (a : Nat → Nat) : NM l yX7_whyNotPosted cX7_whyNotPosted 1 (some .int) 0 0 0 0 E0 D κ (xw κ a) sz [.ref (a 0)] (QI D κ (xw κ a) sz 1 (fun qs : W1 => xw κ a)) := by
  refine NM.of (by decide +kernel) (Nat.le_of_ble_eq_true rfl) ?_
  intro p e s m below meth c ls hC hr hk hin hsz hE hT H locs hG hl
  have hx := hC.1
  have hb := hC.2.1
  have hl : lv_has ls 1 [(0, .ref (a 0))] := hl
  refine lv_aload_n hx hb dX7_whyNotPosted_0 rfl (lv_at hl 0 rfl) ?_
  refine bw_get (C := RX7) (T := TX7) (N := 10) (ci := 7) (v := .ref (a 7)) 1 (by decide) 0 hC hG iwX7 (xw_0 κ a) rfl w20 rfl rfl dX7_whyNotPosted_1 ?_
  refine bw_get (C := RX1) (T := TX1) (N := 4) (ci := 1) (v := .int 0) 1 (by decide) 7 hC hG iwX1 (xw_7 κ a) rfl w435 rfl rfl dX7_whyNotPosted_4 ?_
  refine lv_if_ne (tgt := 12) hx hb dX7_whyNotPosted_7 (by decide) (fun h7 => absurd (by decide) h7) (fun _ => ?_)
  refine lv_iconst (v := 1) hx hb dX7_whyNotPosted_10 (by decide) ?_
  exact ze_i (qs := fun _ => 0) hC hG rfl rfl hr rfl hk (Nat.le_of_ble_eq_true rfl) (Nat.le_of_ble_eq_true rfl) dX7_whyNotPosted_11
theorem dX7_post_0 : decode cX7_post 0 = .ok (.aload_n 0, 1) := by decide +kernel
theorem dX7_post_1 : decode cX7_post 1 = .ok (.invokevirtual 166, 3) := by decide +kernel
theorem dX7_post_10 : decode cX7_post 10 = .ok (.dup, 1) := by decide +kernel
theorem dX7_post_11 : decode cX7_post 11 = .ok (.ldc 170, 2) := by decide +kernel
theorem dX7_post_13 : decode cX7_post 13 = .ok (.invokespecial 86, 3) := by decide +kernel
theorem dX7_post_16 : decode cX7_post 16 = .ok (.athrow, 1) := by decide +kernel
theorem dX7_post_4 : decode cX7_post 4 = .ok (.ifCond .eq 13, 3) := by decide +kernel
theorem dX7_post_7 : decode cX7_post 7 = .ok (.new 82, 3) := by decide +kernel
set_option maxHeartbeats 4000000 in
set_option maxRecDepth 100000 in
theorem z_165_post (l : Launch) (hst : l.stackTraces = false) (D : va_G) (κ : K4) (E0 : Nat) (sz : Nat) (a : Nat → Nat) : XM l yX7_post cX7_post 2 (some .int) 6 82 1 6 E0 D κ (xw κ a) sz [.ref (a 0)] "java/lang/IllegalStateException" (NI (xw κ a) sz) := by
  refine XM.of (by decide +kernel) (Nat.le_of_ble_eq_true rfl) ?_
  intro p e s m below meth c ls hC hk hno hsz hE hT H locs hG hl
  have hx := hC.1
  have hb := hC.2.1
  have hl : lv_has ls 2 [(0, .ref (a 0))] := hl
  refine lv_aload_n hx hb dX7_post_0 rfl (lv_at hl 0 rfl) ?_
  have cut1 : Cut (xw κ a) (xw κ a) ([]) := (Cut.all 45 rfl (by decide))
  refine zc_i hG cut1 (zr_V (k := 0) (ci := 7) (n := 0) (As := []) (rest := []) hC hG hE hT cut1 (z_164_whyNotPosted l hst D κ E0 H.size a) rfl rfl w501 w2 w504 w502 w503 (by decide +kernel) ⟨Nat.le_of_ble_eq_true rfl, Nat.le_of_ble_eq_true rfl⟩ rfl hl.1 rfl (Nat.le_of_ble_eq_true rfl) dX7_post_1 ⟨Nat.le_of_ble_eq_true rfl, Nat.le_of_ble_eq_true rfl⟩) (fun z1 H locs hG => ?_)
  have hG : BW D κ (xw κ a) _ s H locs := hG
  refine lv_if_eq (tgt := 17) hx hb dX7_post_4 (by decide) (fun h4 => absurd h4 (by decide)) (fun _ => ?_)
  exact th_IS hC hst hE hT hno hk hG hl.1 (List.mem_of_getElem? (i := 19) rfl) w152 w153 dX7_post_7 dX7_post_10 dX7_post_11 dX7_post_13 dX7_post_16 (Nat.le_of_ble_eq_true rfl) (Nat.le_of_ble_eq_true rfl) (Nat.le_of_ble_eq_true rfl) (Nat.le_of_ble_eq_true rfl) (Nat.le_of_ble_eq_true rfl) (Nat.le_of_ble_eq_true rfl)
theorem dL_post_0 : decode cL_post 0 = .ok (.aload_n 1, 1) := by decide +kernel
theorem dL_post_1 : decode cL_post 1 = .ok (.iconst 0, 1) := by decide +kernel
theorem dL_post_11 : decode cL_post 11 = .ok (.astore_n 2, 1) := by decide +kernel
theorem dL_post_12 : decode cL_post 12 = .ok (.iconst 1, 1) := by decide +kernel
theorem dL_post_13 : decode cL_post 13 = .ok (.ireturn, 1) := by decide +kernel
theorem dL_post_2 : decode cL_post 2 = .ok (.aload_n 0, 1) := by decide +kernel
theorem dL_post_3 : decode cL_post 3 = .ok (.invokevirtual 39, 3) := by decide +kernel
set_option maxHeartbeats 4000000 in
set_option maxRecDepth 100000 in
theorem z_166_post (l : Launch) (hst : l.stackTraces = false) (D : va_G) (κ : K4) (E0 : Nat) (sz : Nat) (a : Nat → Nat) (o : Nat) : NH l yL_post cL_post 3 (some .int) [(0, 8, 11, 15)] 7 103 1 6 E0 D κ (xw κ a ++ [(o, .inl (κ.2.1, 1, .inr (.inl (fun _ => 0))))]) sz [.ref (a 0), .ref o] (QI D κ (xw κ a ++ [(o, .inl (κ.2.1, 1, .inr (.inl (fun _ => 0))))]) sz 1 (fun qs : W1 => [(o, .inl (κ.2.1, 1, .inr (.inl (fun _ => 0))))])) := by
  refine NH.of (by decide +kernel) (Nat.le_of_ble_eq_true rfl) ?_
  intro p e s m below meth c ls hC hr hk htab hsz hE hT H locs hG hl
  have hx := hC.1
  have hb := hC.2.1
  have hl : lv_has ls 3 [(0, .ref (a 0)), (1, .ref o)] := hl
  refine lv_aload_n hx hb dL_post_0 rfl (lv_at hl 1 rfl) ?_
  refine lv_iconst (v := 0) hx hb dL_post_1 (by decide) ?_
  refine lv_aload_n hx hb dL_post_2 rfl (lv_at hl 0 rfl) ?_
  have cut3 : Cut (xw κ a ++ [(o, .inl (κ.2.1, 1, .inr (.inl (fun _ => 0))))]) (xw κ a) ([(o, .inl (κ.2.1, 1, .inr (.inl (fun _ => 0))))]) := (Cut.one 45 rfl (by decide))
  refine zt_i hG cut3 (zx_V (k := 0) (ci := 7) (n := 0) (As := []) (rest := [.int 0, .ref o]) hC hG hE hT cut3 (z_165_post l hst D κ E0 H.size a) rfl rfl w495 w2 w498 w496 w497 (by decide +kernel) ⟨Nat.le_of_ble_eq_true rfl, Nat.le_of_ble_eq_true rfl⟩ rfl hl.1 rfl (Nat.le_of_ble_eq_true rfl) dL_post_3 ⟨Nat.le_of_ble_eq_true rfl, Nat.le_of_ble_eq_true rfl⟩) (fun ce q9 H locs hG hz1 hz2 hz3 => ?_)
  refine vx_catch (own := RL) (name := "java/lang/IllegalStateException") (E := "java/lang/IllegalStateException") hC.2.2.2.1 [] ⟨0, 8, 11, 15⟩ [] htab (fun z hz => by simp at hz) (by decide) (by decide) (hC.2.2.2.2 _ w494) (va_Nw.use rfl (hT.1 ("java/lang/IllegalStateException", "java/lang/IllegalStateException") (by decide))) hz1 hz2 hz3 ?_
  refine lv_astore_n (lv' := [(2, .ref q9), (0, .ref (a 0)), (1, .ref o)]) hx hb dL_post_11 rfl hl (by decide) rfl (fun ls hl => ?_)
  refine lv_iconst (v := 1) hx hb dL_post_12 (by decide) ?_
  exact ze_i (qs := fun _ => 0) hC hG rfl rfl hr rfl hk (Nat.le_of_ble_eq_true rfl) (Nat.le_of_ble_eq_true rfl) dL_post_13
theorem dX14_reasonNow_0 : decode cX14_reasonNow 0 = .ok (.aload_n 0, 1) := by decide +kernel
theorem dX14_reasonNow_1 : decode cX14_reasonNow 1 = .ok (.getfield 167, 3) := by decide +kernel
theorem dX14_reasonNow_4 : decode cX14_reasonNow 4 = .ok (.ifCond .ne 5, 3) := by decide +kernel
theorem dX14_reasonNow_7 : decode cX14_reasonNow 7 = .ok (.iconst 1, 1) := by decide +kernel
theorem dX14_reasonNow_8 : decode cX14_reasonNow 8 = .ok (.ireturn, 1) := by decide +kernel
set_option maxHeartbeats 4000000 in
set_option maxRecDepth 100000 in
theorem z_167_reasonNow (l : Launch) (hst : l.stackTraces = false) (D : va_G) (κ : K4) (E0 : Nat) (sz : Nat) (b : Nat → Nat) : NM l yX14_reasonNow cX14_reasonNow 3 (some .int) 0 0 0 0 E0 D κ (mw κ b E0 0) sz [.ref (b 0)] (QI D κ (mw κ b E0 0) sz 1 (fun qs : W1 => mw κ b E0 0)) := by
  refine NM.of (by decide +kernel) (Nat.le_of_ble_eq_true rfl) ?_
  intro p e s m below meth c ls hC hr hk hin hsz hE hT H locs hG hl
  have hx := hC.1
  have hb := hC.2.1
  have hl : lv_has ls 3 [(0, .ref (b 0))] := hl
  refine lv_aload_n hx hb dX14_reasonNow_0 rfl (lv_at hl 0 rfl) ?_
  refine bw_get (C := RX14) (T := TX14) (N := 15) (ci := 9) (v := .int 0) 11 (by decide) 0 hC hG iwX14 rfl rfl w425 rfl rfl dX14_reasonNow_1 ?_
  refine lv_if_ne (tgt := 9) hx hb dX14_reasonNow_4 (by decide) (fun h4 => absurd (by decide) h4) (fun _ => ?_)
  refine lv_iconst (v := 1) hx hb dX14_reasonNow_7 (by decide) ?_
  exact ze_i (qs := fun _ => 0) hC hG rfl rfl hr rfl hk (Nat.le_of_ble_eq_true rfl) (Nat.le_of_ble_eq_true rfl) dX14_reasonNow_8
