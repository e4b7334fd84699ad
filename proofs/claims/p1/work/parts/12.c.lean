theorem dX7_account_28 : decode cX7_account 28 = .ok (.aload_n 0, 1) := by decide +kernel
theorem dX7_account_29 : decode cX7_account 29 = .ok (.getfield 12, 3) := by decide +kernel
theorem dX7_account_32 : decode cX7_account 32 = .ok (.getfield 93, 3) := by decide +kernel
theorem dX7_account_35 : decode cX7_account 35 = .ok (.bipush 10, 2) := by decide +kernel
theorem dX7_account_37 : decode cX7_account 37 = .ok (.if_icmp .lt 13, 3) := by decide +kernel
theorem dX7_account_50 : decode cX7_account 50 = .ok (.aload_n 0, 1) := by decide +kernel
theorem dX7_account_51 : decode cX7_account 51 = .ok (.getfield 12, 3) := by decide +kernel
theorem dX7_account_54 : decode cX7_account 54 = .ok (.iload_n 1, 1) := by decide +kernel
theorem dX7_account_55 : decode cX7_account 55 = .ok (.iload_n 2, 1) := by decide +kernel
theorem dX7_account_56 : decode cX7_account 56 = .ok (.invokevirtual 98, 3) := by decide +kernel
theorem dX7_account_59 : decode cX7_account 59 = .ok (.ireturn, 1) := by decide +kernel
set_option maxHeartbeats 4000000 in
set_option maxRecDepth 100000 in
theorem z_48_account (l : Launch) (hst : l.stackTraces = false) (D : va_G) (κ : K4) (E0 : Nat) (sz : Nat) (a : Nat → Nat) (x0 : Int32) (x1 : Int32) (k_x0 : 0 ≤ x0.toInt ∧ x0.toInt ≤ 4) (k_x1 : 0 ≤ x1.toInt ∧ x1.toInt ≤ 3) : NM l yX7_account cX7_account 3 (some .int) 1 22 0 0 E0 D κ (xw κ a) sz [.ref (a 0), .int x0, .int x1] (QI D κ (xw κ a) sz 0 (fun qs : W1 => [])) := by
  refine NM.of (by decide +kernel) (Nat.le_of_ble_eq_true rfl) ?_
  intro p e s m below meth c ls hC hr hk hin hsz hE hT H locs hG hl
  have hx := hC.1
  have hb := hC.2.1
  have hl : lv_has ls 3 [(0, .ref (a 0)), (1, .int x0), (2, .int x1)] := hl
  refine lv_iload_n hx hb dX7_account_0 rfl (lv_at hl 1 rfl) ?_
  refine lv_if_lt (tgt := 18) hx hb dX7_account_1 (by decide) (fun h1 => absurd h1 (mt Int32.lt_iff_toInt_lt.mp (by have e1 : (0 : Int32).toInt = 0 := (by decide); omega))) (fun _ => ?_)
  refine lv_iload_n hx hb dX7_account_4 rfl (lv_at hl 1 rfl) ?_
  refine lv_iconst (v := 4) hx hb dX7_account_5 (by decide) ?_
  refine lv_icmp_gt (tgt := 18) hx hb dX7_account_6 (by decide) (fun h6 => absurd h6 (mt Int32.lt_iff_toInt_lt.mp (by have e0 : (4 : Int32).toInt = 4 := (by decide); omega))) (fun _ => ?_)
  refine lv_iload_n hx hb dX7_account_9 rfl (lv_at hl 2 rfl) ?_
  refine lv_if_lt (tgt := 18) hx hb dX7_account_10 (by decide) (fun h10 => absurd h10 (mt Int32.lt_iff_toInt_lt.mp (by have e1 : (0 : Int32).toInt = 0 := (by decide); omega))) (fun _ => ?_)
  refine lv_iload_n hx hb dX7_account_13 rfl (lv_at hl 2 rfl) ?_
  refine lv_iconst (v := 3) hx hb dX7_account_14 (by decide) ?_
  refine lv_icmp_le (tgt := 28) hx hb dX7_account_15 (by decide) (fun _ => ?_) (fun h15 => absurd (Int32.le_iff_toInt_le.mpr (by have e0 : (3 : Int32).toInt = 3 := (by decide); omega)) h15)
  refine lv_aload_n hx hb dX7_account_28 rfl (lv_at hl 0 rfl) ?_
  refine bw_get (C := RX7) (T := TX7) (N := 10) (ci := 7) (v := .ref (a 1)) 0 (by decide) 0 hC hG iwX7 (xw_0 κ a) rfl w16 rfl rfl dX7_account_29 ?_
  refine bw_get (C := RX0) (T := TX0) (N := 6) (ci := 0) (v := .int 0) 5 (by decide) 1 hC hG iwX0 (xw_1 κ a) rfl w211 rfl rfl dX7_account_32 ?_
  refine lv_bipush (v := 10) hx hb dX7_account_35 (by decide) ?_
  refine lv_icmp_lt (tgt := 50) hx hb dX7_account_37 (by decide) (fun _ => ?_) (fun h37 => absurd (by decide) h37)
  refine lv_aload_n hx hb dX7_account_50 rfl (lv_at hl 0 rfl) ?_
  refine bw_get (C := RX7) (T := TX7) (N := 10) (ci := 7) (v := .ref (a 1)) 0 (by decide) 0 hC hG iwX7 (xw_0 κ a) rfl w16 rfl rfl dX7_account_51 ?_
  refine lv_iload_n hx hb dX7_account_54 rfl (lv_at hl 1 rfl) ?_
  refine lv_iload_n hx hb dX7_account_55 rfl (lv_at hl 2 rfl) ?_
  have cut56 : Cut (xw κ a) (xw κ a) ([]) := (Cut.all 45 rfl (by decide))
  refine zc_i hG cut56 (zr_V (k := 1) (ci := 0) (n := 2) (As := [.int x0, .int x1]) (rest := []) hC hG hE hT cut56 (z_47_add l hst D κ E0 H.size a x0 x1 ⟨by omega, by omega⟩ ⟨by omega, by omega⟩) rfl rfl w212 w15 w215 w213 w214 (by decide +kernel) ⟨Nat.le_of_ble_eq_true rfl, Nat.le_of_ble_eq_true rfl⟩ rfl hl.1 rfl (Nat.le_of_ble_eq_true rfl) dX7_account_56 ⟨Nat.le_of_ble_eq_true rfl, Nat.le_of_ble_eq_true rfl⟩) (fun z1 H locs hG => ?_)
  have hG : BW D κ ([]) _ s H locs := hG
  exact ze_i (qs := fun _ => 0) hC hG rfl rfl hr rfl hk (Nat.le_of_ble_eq_true rfl) (Nat.le_of_ble_eq_true rfl) dX7_account_59
theorem dL_account_10 : decode cL_account 10 = .ok (.goto 11, 3) := by decide +kernel
theorem dL_account_21 : decode cL_account 21 = .ok (.iconst 0, 1) := by decide +kernel
theorem dL_account_22 : decode cL_account 22 = .ok (.ireturn, 1) := by decide +kernel
theorem dL_account_8 : decode cL_account 8 = .ok (.i2l, 1) := by decide +kernel
theorem dL_account_9 : decode cL_account 9 = .ok (.lastore, 1) := by decide +kernel
set_option maxHeartbeats 4000000 in
set_option maxRecDepth 100000 in
theorem z_49_account (l : Launch) (hst : l.stackTraces = false) (D : va_G) (κ : K4) (E0 : Nat) (sz : Nat) (a : Nat → Nat) (x0 : Int32) (x1 : Int32) (o : Nat) (k_x0 : 0 ≤ x0.toInt ∧ x0.toInt ≤ 4) (k_x1 : 0 ≤ x1.toInt ∧ x1.toInt ≤ 3) : NH l yL_account cL_account 5 (some .int) [(0, 10, 13, 13), (0, 10, 17, 15)] 2 44 0 0 E0 D κ (xw κ a ++ [(o, .inl (κ.2.1, 1, .inr (.inl (fun _ => 0))))]) sz [.ref (a 0), .int x0, .int x1, .ref o] (QI D κ (xw κ a ++ [(o, .inl (κ.2.1, 1, .inr (.inl (fun _ => 0))))]) sz 0 (fun qs : W1 => [(o, .inl (κ.2.1, 1, .inr (.inl (va_up (fun _ => 0) ((0 : Int32).toNatClampNeg) 0))))])) := by
  refine NH.of (by decide +kernel) (Nat.le_of_ble_eq_true rfl) ?_
  intro p e s m below meth c ls hC hr hk htab hsz hE hT H locs hG hl
  have hx := hC.1
  have hb := hC.2.1
  have hl : lv_has ls 5 [(0, .ref (a 0)), (1, .int x0), (2, .int x1), (3, .ref o)] := hl
  refine lv_aload_n hx hb dL_account_0 rfl (lv_at hl 3 rfl) ?_
  refine lv_iconst (v := 0) hx hb dL_account_1 (by decide) ?_
  refine lv_aload_n hx hb dL_account_2 rfl (lv_at hl 0 rfl) ?_
  refine lv_iload_n hx hb dL_account_3 rfl (lv_at hl 1 rfl) ?_
  refine lv_iload_n hx hb dL_account_4 rfl (lv_at hl 2 rfl) ?_
  have cut5 : Cut (xw κ a ++ [(o, .inl (κ.2.1, 1, .inr (.inl (fun _ => 0))))]) (xw κ a) ([(o, .inl (κ.2.1, 1, .inr (.inl (fun _ => 0))))]) := (Cut.one 45 rfl (by decide))
  refine zc_i hG cut5 (zr_V (k := 0) (ci := 7) (n := 2) (As := [.int x0, .int x1]) (rest := [.int 0, .ref o]) hC hG hE hT cut5 (z_48_account l hst D κ E0 H.size a x0 x1 ⟨by omega, by omega⟩ ⟨by omega, by omega⟩) rfl rfl w207 w2 w210 w208 w209 (by decide +kernel) ⟨Nat.le_of_ble_eq_true rfl, Nat.le_of_ble_eq_true rfl⟩ rfl hl.1 rfl (Nat.le_of_ble_eq_true rfl) dL_account_5 ⟨Nat.le_of_ble_eq_true rfl, Nat.le_of_ble_eq_true rfl⟩) (fun z1 H locs hG => ?_)
  have hG : BW D κ ([(o, .inl (κ.2.1, 1, .inr (.inl (fun _ => 0))))]) _ s H locs := hG
  refine lv_i2l (v := 0) hx hb dL_account_8 (by decide) ?_
  refine zs_lst 0 hC hG rfl (vp_box (by have e0 : (0 : Int32).toInt = 0 := (by decide); omega) (by have e0 : (0 : Int32).toInt = 0 := (by decide); omega)) dL_account_9 (fun H locs hG => ?_)
  have hG : BW D κ (([(o, .inl (κ.2.1, 1, .inr (.inl (fun _ => 0))))] : va_W).set 0 (o, .inl (κ.2.1, 1, .inr (.inl (va_up (fun _ => 0) ((0 : Int32).toNatClampNeg) 0))))) _ s H locs := hG
  refine lv_goto (tgt := 21) hx hb dL_account_10 (by decide) ?_
  refine lv_iconst (v := 0) hx hb dL_account_21 (by decide) ?_
  exact ze_i (qs := fun _ => 0) hC hG rfl rfl hr rfl hk (Nat.le_of_ble_eq_true rfl) (Nat.le_of_ble_eq_true rfl) dL_account_22
set_option maxHeartbeats 4000000 in
set_option maxRecDepth 100000 in
theorem z_50_isIn (l : Launch) (hst : l.stackTraces = false) (D : va_G) (κ : K4) (E0 : Nat) (sz : Nat) (b : Nat → Nat) (x0 : Int32) (k_x0 : 0 ≤ x0.toInt ∧ x0.toInt ≤ 3) : NM l yX14_isIn cX14_isIn 3 (some .boolean) 0 0 0 0 E0 D κ (mw κ b E0 0) sz [.int x0, .int 0, .int 3] (QI D κ (mw κ b E0 0) sz 1 (fun qs : W1 => mw κ b E0 0)) := by
  refine NM.of (by decide +kernel) (Nat.le_of_ble_eq_true rfl) ?_
  intro p e s m below meth c ls hC hr hk hin hsz hE hT H locs hG hl
  have hx := hC.1
  have hb := hC.2.1
  have hl : lv_has ls 3 [(0, .int x0), (1, .int 0), (2, .int 3)] := hl
  refine lv_iload_n hx hb dX14_isIn_0 rfl (lv_at hl 0 rfl) ?_
  refine lv_iload_n hx hb dX14_isIn_1 rfl (lv_at hl 1 rfl) ?_
  refine lv_icmp_lt (tgt := 14) hx hb dX14_isIn_2 (by decide) (fun h2 => absurd h2 (mt Int32.lt_iff_toInt_lt.mp (by have e1 : (0 : Int32).toInt = 0 := (by decide); omega))) (fun _ => ?_)
  refine lv_iload_n hx hb dX14_isIn_5 rfl (lv_at hl 0 rfl) ?_
  refine lv_iload_n hx hb dX14_isIn_6 rfl (lv_at hl 2 rfl) ?_
  refine lv_icmp_gt (tgt := 14) hx hb dX14_isIn_7 (by decide) (fun h7 => absurd h7 (mt Int32.lt_iff_toInt_lt.mp (by have e0 : (3 : Int32).toInt = 3 := (by decide); omega))) (fun _ => ?_)
  refine lv_iconst (v := 1) hx hb dX14_isIn_10 (by decide) ?_
  refine lv_goto (tgt := 15) hx hb dX14_isIn_11 (by decide) ?_
  exact ze_i (qs := fun _ => 0) hC hG rfl rfl hr rfl hk (Nat.le_of_ble_eq_true rfl) (Nat.le_of_ble_eq_true rfl) dX14_isIn_15
theorem dX8_init_0 : decode cX8_init 0 = .ok (.aload_n 0, 1) := by decide +kernel
theorem dX8_init_1 : decode cX8_init 1 = .ok (.invokespecial 3, 3) := by decide +kernel
theorem dX8_init_10 : decode cX8_init 10 = .ok (.iload_n 2, 1) := by decide +kernel
theorem dX8_init_11 : decode cX8_init 11 = .ok (.putfield 15, 3) := by decide +kernel
theorem dX8_init_14 : decode cX8_init 14 = .ok (.aload_n 0, 1) := by decide +kernel
theorem dX8_init_15 : decode cX8_init 15 = .ok (.iload_n 3, 1) := by decide +kernel
theorem dX8_init_16 : decode cX8_init 16 = .ok (.putfield 18, 3) := by decide +kernel
theorem dX8_init_19 : decode cX8_init 19 = .ok (.return_, 1) := by decide +kernel
theorem dX8_init_4 : decode cX8_init 4 = .ok (.aload_n 0, 1) := by decide +kernel
theorem dX8_init_5 : decode cX8_init 5 = .ok (.iload_n 1, 1) := by decide +kernel
theorem dX8_init_6 : decode cX8_init 6 = .ok (.putfield 9, 3) := by decide +kernel
theorem dX8_init_9 : decode cX8_init 9 = .ok (.aload_n 0, 1) := by decide +kernel
set_option maxHeartbeats 4000000 in
set_option maxRecDepth 100000 in
theorem z_51_init (l : Launch) (hst : l.stackTraces = false) (D : va_G) (κ : K4) (E0 : Nat) (sz : Nat) (h0 : Nat) (x0 : Int32) (x1 : Int32) (k_x0 : 0 ≤ x0.toInt ∧ x0.toInt ≤ 4) (k_x1 : 0 ≤ x1.toInt ∧ x1.toInt ≤ 3) : NM l yX8_init cX8_init 4 none 1 12 0 0 E0 D κ ([(h0, .inr (8, [.int 0, .int 0, .int 0, .int 0, .int 0]))]) sz [.ref h0, .int 0, .int x0, .int x1] (QV D κ ([(h0, .inr (8, [.int 0, .int 0, .int 0, .int 0, .int 0]))]) sz (fun qs : W1 => [(h0, .inr (8, [.int 0, .int x0, .int x1, .int 0, .int 0]))])) := by
  refine NM.of (by decide +kernel) (Nat.le_of_ble_eq_true rfl) ?_
  intro p e s m below meth c ls hC hr hk hin hsz hE hT H locs hG hl
  have hx := hC.1
  have hb := hC.2.1
  have hl : lv_has ls 4 [(0, .ref h0), (1, .int 0), (2, .int x0), (3, .int x1)] := hl
  refine lv_aload_n hx hb dX8_init_0 rfl (lv_at hl 0 rfl) ?_
  refine bw_obj hC w226 hl.1 dX8_init_1 (Nat.le_of_ble_eq_true rfl) (Nat.le_of_ble_eq_true rfl) w11 w12 ?_
  refine lv_aload_n hx hb dX8_init_4 rfl (lv_at hl 0 rfl) ?_
  refine lv_iload_n hx hb dX8_init_5 rfl (lv_at hl 1 rfl) ?_
  refine bw_put (C := RX8) (T := TX8) (N := 5) (ci := 8) (ty0 := tyX8) (ty := .int) (v := .int 0) 0 (by decide) 0 hC hG iwX8 tyX8_ok nmX8 rfl rfl w227 rfl (Or.inr ⟨hin rfl, rfl⟩) (by decide +kernel) rfl rfl (Nat.le_of_ble_eq_true rfl) dX8_init_6 (fun H locs hG => ?_)
  have hG : BW D κ (([(h0, .inr (8, [.int 0, .int 0, .int 0, .int 0, .int 0]))] : va_W).set 0 (h0, .inr (8, [.int 0, .int 0, .int 0, .int 0, .int 0]))) _ s H locs := hG
  refine lv_aload_n hx hb dX8_init_9 rfl (lv_at hl 0 rfl) ?_
  refine lv_iload_n hx hb dX8_init_10 rfl (lv_at hl 2 rfl) ?_
  refine bw_put (C := RX8) (T := TX8) (N := 5) (ci := 8) (ty0 := tyX8) (ty := .int) (v := .int x0) 1 (by decide) 0 hC hG iwX8 tyX8_ok nmX8 rfl rfl w228 rfl (Or.inr ⟨hin rfl, rfl⟩) (by decide +kernel) rfl rfl (Nat.le_of_ble_eq_true rfl) dX8_init_11 (fun H locs hG => ?_)
  have hG : BW D κ ((([(h0, .inr (8, [.int 0, .int 0, .int 0, .int 0, .int 0]))] : va_W).set 0 (h0, .inr (8, [.int 0, .int 0, .int 0, .int 0, .int 0])) : va_W).set 0 (h0, .inr (8, [.int 0, .int x0, .int 0, .int 0, .int 0]))) _ s H locs := hG
  refine lv_aload_n hx hb dX8_init_14 rfl (lv_at hl 0 rfl) ?_
  refine lv_iload_n hx hb dX8_init_15 rfl (lv_at hl 3 rfl) ?_
  refine bw_put (C := RX8) (T := TX8) (N := 5) (ci := 8) (ty0 := tyX8) (ty := .int) (v := .int x1) 2 (by decide) 0 hC hG iwX8 tyX8_ok nmX8 rfl rfl w229 rfl (Or.inr ⟨hin rfl, rfl⟩) (by decide +kernel) rfl rfl (Nat.le_of_ble_eq_true rfl) dX8_init_16 (fun H locs hG => ?_)
  have hG : BW D κ (((([(h0, .inr (8, [.int 0, .int 0, .int 0, .int 0, .int 0]))] : va_W).set 0 (h0, .inr (8, [.int 0, .int 0, .int 0, .int 0, .int 0])) : va_W).set 0 (h0, .inr (8, [.int 0, .int x0, .int 0, .int 0, .int 0])) : va_W).set 0 (h0, .inr (8, [.int 0, .int x0, .int x1, .int 0, .int 0]))) _ s H locs := hG
  exact ze_v (qs := fun _ => 0) hC hG rfl hr hk (Nat.le_of_ble_eq_true rfl) (Nat.le_of_ble_eq_true rfl) dX8_init_19
theorem dJx4a65c_grow_92f84_0 : decode cJx4a65c_grow_92f84 0 = .ok (.aload_n 0, 1) := by decide +kernel
theorem dJx4a65c_grow_92f84_1 : decode cJx4a65c_grow_92f84 1 = .ok (.getfield 9, 3) := by decide +kernel
theorem dJx4a65c_grow_92f84_10 : decode cJx4a65c_grow_92f84 10 = .ok (.aload_n 0, 1) := by decide +kernel
theorem dJx4a65c_grow_92f84_11 : decode cJx4a65c_grow_92f84 11 = .ok (.getfield 9, 3) := by decide +kernel
theorem dJx4a65c_grow_92f84_14 : decode cJx4a65c_grow_92f84 14 = .ok (.getstatic 39, 3) := by decide +kernel
theorem dJx4a65c_grow_92f84_17 : decode cJx4a65c_grow_92f84 17 = .ok (.if_acmp .eq 28, 3) := by decide +kernel
theorem dJx4a65c_grow_92f84_4 : decode cJx4a65c_grow_92f84 4 = .ok (.arraylength, 1) := by decide +kernel
theorem dJx4a65c_grow_92f84_45 : decode cJx4a65c_grow_92f84 45 = .ok (.aload_n 0, 1) := by decide +kernel
theorem dJx4a65c_grow_92f84_46 : decode cJx4a65c_grow_92f84 46 = .ok (.bipush 10, 2) := by decide +kernel
theorem dJx4a65c_grow_92f84_48 : decode cJx4a65c_grow_92f84 48 = .ok (.iload_n 1, 1) := by decide +kernel
theorem dJx4a65c_grow_92f84_49 : decode cJx4a65c_grow_92f84 49 = .ok (.invokestatic 79, 3) := by decide +kernel
theorem dJx4a65c_grow_92f84_5 : decode cJx4a65c_grow_92f84 5 = .ok (.istore_n 2, 1) := by decide +kernel
theorem dJx4a65c_grow_92f84_52 : decode cJx4a65c_grow_92f84 52 = .ok (.anewarray 7, 3) := by decide +kernel
theorem dJx4a65c_grow_92f84_55 : decode cJx4a65c_grow_92f84 55 = .ok (.dup_x1, 1) := by decide +kernel
theorem dJx4a65c_grow_92f84_56 : decode cJx4a65c_grow_92f84 56 = .ok (.putfield 9, 3) := by decide +kernel
theorem dJx4a65c_grow_92f84_59 : decode cJx4a65c_grow_92f84 59 = .ok (.areturn, 1) := by decide +kernel
theorem dJx4a65c_grow_92f84_6 : decode cJx4a65c_grow_92f84 6 = .ok (.iload_n 2, 1) := by decide +kernel
theorem dJx4a65c_grow_92f84_7 : decode cJx4a65c_grow_92f84 7 = .ok (.ifCond .gt 13, 3) := by decide +kernel
set_option maxHeartbeats 4000000 in
set_option maxRecDepth 100000 in
theorem z_52_grow (l : Launch) (hst : l.stackTraces = false) (D : va_G) (κ : K4) (E0 : Nat) (sz : Nat) (h0 : Nat) : NM l yJx4a65c_grow_92f84 cJx4a65c_grow_92f84 4 (some (.array (.object "java/lang/Object"))) 1 14 1 10 E0 D κ ([(h0, .inr (10, [.int 1, .ref E0, .int 0]))]) sz [.ref h0, .int 1] (QR D κ ([(h0, .inr (10, [.int 1, .ref E0, .int 0]))]) sz (fun qs : W1 => (qs 0)) (fun qs : W1 => [(h0, .inr (10, [.int 1, .ref (qs 0), .int 0])), ((qs 0), .inl (κ.2.2.2, 10, .inr (.inr (.inr (.inr (fun _ => none))))))])) := by
  refine NM.of (by decide +kernel) (Nat.le_of_ble_eq_true rfl) ?_
  intro p e s m below meth c ls hC hr hk hin hsz hE hT H locs hG hl
  have hx := hC.1
  have hb := hC.2.1
  have hl : lv_has ls 4 [(0, .ref h0), (1, .int 1)] := hl
  refine lv_aload_n hx hb dJx4a65c_grow_92f84_0 rfl (lv_at hl 0 rfl) ?_
  refine bw_get (C := RJx4a65c) (T := TJx4a65c) (N := 3) (ci := 10) (v := .ref E0) 1 (by decide) 0 hC hG iwJA rfl rfl w130 rfl rfl dJx4a65c_grow_92f84_1 ?_
  refine zs_elen hC hG hE dJx4a65c_grow_92f84_4 ?_
  refine lv_istore_n (lv' := [(2, .int 0), (0, .ref h0), (1, .int 1)]) hx hb dJx4a65c_grow_92f84_5 rfl hl (by decide) rfl (fun ls hl => ?_)
  refine lv_iload_n hx hb dJx4a65c_grow_92f84_6 rfl (lv_at hl 0 rfl) ?_
  refine lv_if_gt (tgt := 20) hx hb dJx4a65c_grow_92f84_7 (by decide) (fun h7 => absurd h7 (by decide)) (fun _ => ?_)
  refine lv_aload_n hx hb dJx4a65c_grow_92f84_10 rfl (lv_at hl 1 rfl) ?_
  refine bw_get (C := RJx4a65c) (T := TJx4a65c) (N := 3) (ci := 10) (v := .ref E0) 1 (by decide) 0 hC hG iwJA rfl rfl w130 rfl rfl dJx4a65c_grow_92f84_11 ?_
  refine zs_est hC hG hE w129 dJx4a65c_grow_92f84_14 ?_
  refine W.eq (g2 := F0 m 17 ls (va_rf (some E0) :: va_rf (some E0) :: [])) rfl ?_
  refine lv_acmp_eq (tgt := 45) hx hb dJx4a65c_grow_92f84_17 (by decide) (fun _ => ?_) (fun h9 => absurd rfl h9)
  refine lv_aload_n hx hb dJx4a65c_grow_92f84_45 rfl (lv_at hl 1 rfl) ?_
  refine lv_bipush (v := 10) hx hb dJx4a65c_grow_92f84_46 (by decide) ?_
  refine lv_iload_n hx hb dJx4a65c_grow_92f84_48 rfl (lv_at hl 2 rfl) ?_
  refine va_mmax hx hb (hC.2.2.1.trans hl.1.symm) hC.2.2.2.1 (hC.2.2.2.2 _ w248) (hC.2.2.2.2 _ w249) (hC.2.2.2.2 _ w250) (hC.2.2.2.2 _ w251) (Nat.le_of_ble_eq_true rfl) (Nat.le_of_ble_eq_true rfl) (Nat.le_of_ble_eq_true rfl) (Nat.le_of_ble_eq_true rfl) dJx4a65c_grow_92f84_49 ?_
  refine W.eq (g2 := F0 m 52 ls [.int 10, .ref h0]) rfl ?_
  refine bw_nO (N := 10) hC hG hT w252 (by decide) (by decide) (by decide) (Nat.le_of_ble_eq_true rfl) (Nat.le_of_ble_eq_true rfl) dJx4a65c_grow_92f84_52 (fun q1 H hG => ?_)
  have hG : BW D κ (([(h0, .inr (10, [.int 1, .ref E0, .int 0]))]) ++ [(q1, .inl (κ.2.2.2, 10, .inr (.inr (.inr (.inr (fun _ => none))))))]) _ s H locs := hG
  refine lv_dup_x1 hx hb dJx4a65c_grow_92f84_55 rfl rfl ?_
  refine bw_put (C := RJx4a65c) (T := TJx4a65c) (N := 3) (ci := 10) (ty0 := tyJx4a65c) (ty := .array (.object "java/lang/Object")) (v := .ref q1) 1 (by decide) 0 hC hG iwJA tyJx4a65c_ok nmJx4a65c rfl rfl w130 rfl (Or.inl rfl) (by decide +kernel) rfl rfl (Nat.le_of_ble_eq_true rfl) dJx4a65c_grow_92f84_56 (fun H locs hG => ?_)
  have hG : BW D κ ((([(h0, .inr (10, [.int 1, .ref E0, .int 0]))]) ++ [(q1, .inl (κ.2.2.2, 10, .inr (.inr (.inr (.inr (fun _ => none))))))] : va_W).set 0 (h0, .inr (10, [.int 1, .ref q1, .int 0]))) _ s H locs := hG
  exact ze_r (v := q1) (qs := fun k => match k with  | _ => q1) hC hG rfl rfl hr (Or.inr ⟨_, rfl⟩) hk (Nat.le_of_ble_eq_true rfl) (Nat.le_of_ble_eq_true rfl) dJx4a65c_grow_92f84_59
theorem dJx4a65c_grow_d5877_0 : decode cJx4a65c_grow_d5877 0 = .ok (.aload_n 0, 1) := by decide +kernel
theorem dJx4a65c_grow_d5877_1 : decode cJx4a65c_grow_d5877 1 = .ok (.aload_n 0, 1) := by decide +kernel
theorem dJx4a65c_grow_d5877_10 : decode cJx4a65c_grow_d5877 10 = .ok (.areturn, 1) := by decide +kernel
theorem dJx4a65c_grow_d5877_2 : decode cJx4a65c_grow_d5877 2 = .ok (.getfield 48, 3) := by decide +kernel
theorem dJx4a65c_grow_d5877_5 : decode cJx4a65c_grow_d5877 5 = .ok (.iconst 1, 1) := by decide +kernel
theorem dJx4a65c_grow_d5877_6 : decode cJx4a65c_grow_d5877 6 = .ok (.iadd, 1) := by decide +kernel
theorem dJx4a65c_grow_d5877_7 : decode cJx4a65c_grow_d5877 7 = .ok (.invokevirtual 69, 3) := by decide +kernel
set_option maxHeartbeats 4000000 in
set_option maxRecDepth 100000 in
theorem z_53_grow (l : Launch) (hst : l.stackTraces = false) (D : va_G) (κ : K4) (E0 : Nat) (sz : Nat) (h0 : Nat) : NM l yJx4a65c_grow_d5877 cJx4a65c_grow_d5877 1 (some (.array (.object "java/lang/Object"))) 2 37 1 10 E0 D κ ([(h0, .inr (10, [.int 1, .ref E0, .int 0]))]) sz [.ref h0] (QR D κ ([(h0, .inr (10, [.int 1, .ref E0, .int 0]))]) sz (fun qs : W1 => (qs 0)) (fun qs : W1 => [(h0, .inr (10, [.int 1, .ref ((qs 0)), .int 0])), ((qs 0), .inl (κ.2.2.2, 10, .inr (.inr (.inr (.inr (fun _ => none))))))])) := by
  refine NM.of (by decide +kernel) (Nat.le_of_ble_eq_true rfl) ?_
  intro p e s m below meth c ls hC hr hk hin hsz hE hT H locs hG hl
  have hx := hC.1
  have hb := hC.2.1
  have hl : lv_has ls 1 [(0, .ref h0)] := hl
  refine lv_aload_n hx hb dJx4a65c_grow_d5877_0 rfl (lv_at hl 0 rfl) ?_
  refine lv_aload_n hx hb dJx4a65c_grow_d5877_1 rfl (lv_at hl 0 rfl) ?_
  refine bw_get (C := RJx4a65c) (T := TJx4a65c) (N := 3) (ci := 10) (v := .int 0) 2 (by decide) 0 hC hG iwJA rfl rfl w183 rfl rfl dJx4a65c_grow_d5877_2 ?_
  refine lv_iconst (v := 1) hx hb dJx4a65c_grow_d5877_5 (by decide) ?_
  refine lv_iadd hx hb dJx4a65c_grow_d5877_6 ?_
  refine W.eq (g2 := F0 m 7 ls [.int 1, .ref h0]) rfl ?_
  have cut7 : Cut ([(h0, .inr (10, [.int 1, .ref E0, .int 0]))]) ([(h0, .inr (10, [.int 1, .ref E0, .int 0]))]) ([]) := (Cut.all 1 rfl (by decide))
  refine zc_r hG cut7 (zr_V (k := 0) (ci := 10) (n := 1) (As := [.int 1]) (rest := []) hC hG hE hT cut7 (z_52_grow l hst D κ E0 H.size h0) rfl rfl w244 w117 w247 w245 w246 (by decide +kernel) ⟨Nat.le_of_ble_eq_true rfl, Nat.le_of_ble_eq_true rfl⟩ rfl hl.1 rfl (Nat.le_of_ble_eq_true rfl) dJx4a65c_grow_d5877_7 ⟨Nat.le_of_ble_eq_true rfl, Nat.le_of_ble_eq_true rfl⟩) (fun z1 H locs hG => ?_)
  have hG : BW D κ ([(h0, .inr (10, [.int 1, .ref (z1 0), .int 0])), (z1 0, .inl (κ.2.2.2, 10, .inr (.inr (.inr (.inr (fun _ => none))))))]) _ s H locs := hG
  exact ze_r (v := (z1 0)) (qs := fun k => match k with  | _ => z1 0) hC hG rfl rfl hr (Or.inr ⟨_, rfl⟩) hk (Nat.le_of_ble_eq_true rfl) (Nat.le_of_ble_eq_true rfl) dJx4a65c_grow_d5877_10
theorem dJx4a65c_add_72be8_0 : decode cJx4a65c_add_72be8 0 = .ok (.iload_n 3, 1) := by decide +kernel
theorem dJx4a65c_add_72be8_1 : decode cJx4a65c_add_72be8 1 = .ok (.aload_n 2, 1) := by decide +kernel
theorem dJx4a65c_add_72be8_10 : decode cJx4a65c_add_72be8 10 = .ok (.astore_n 2, 1) := by decide +kernel
theorem dJx4a65c_add_72be8_11 : decode cJx4a65c_add_72be8 11 = .ok (.aload_n 2, 1) := by decide +kernel
theorem dJx4a65c_add_72be8_12 : decode cJx4a65c_add_72be8 12 = .ok (.iload_n 3, 1) := by decide +kernel
theorem dJx4a65c_add_72be8_13 : decode cJx4a65c_add_72be8 13 = .ok (.aload_n 1, 1) := by decide +kernel
theorem dJx4a65c_add_72be8_14 : decode cJx4a65c_add_72be8 14 = .ok (.aastore, 1) := by decide +kernel
theorem dJx4a65c_add_72be8_15 : decode cJx4a65c_add_72be8 15 = .ok (.aload_n 0, 1) := by decide +kernel
theorem dJx4a65c_add_72be8_16 : decode cJx4a65c_add_72be8 16 = .ok (.iload_n 3, 1) := by decide +kernel
theorem dJx4a65c_add_72be8_17 : decode cJx4a65c_add_72be8 17 = .ok (.iconst 1, 1) := by decide +kernel
theorem dJx4a65c_add_72be8_18 : decode cJx4a65c_add_72be8 18 = .ok (.iadd, 1) := by decide +kernel
theorem dJx4a65c_add_72be8_19 : decode cJx4a65c_add_72be8 19 = .ok (.putfield 48, 3) := by decide +kernel
theorem dJx4a65c_add_72be8_2 : decode cJx4a65c_add_72be8 2 = .ok (.arraylength, 1) := by decide +kernel
theorem dJx4a65c_add_72be8_22 : decode cJx4a65c_add_72be8 22 = .ok (.return_, 1) := by decide +kernel
theorem dJx4a65c_add_72be8_3 : decode cJx4a65c_add_72be8 3 = .ok (.if_icmp .ne 8, 3) := by decide +kernel
theorem dJx4a65c_add_72be8_6 : decode cJx4a65c_add_72be8 6 = .ok (.aload_n 0, 1) := by decide +kernel
theorem dJx4a65c_add_72be8_7 : decode cJx4a65c_add_72be8 7 = .ok (.invokevirtual 129, 3) := by decide +kernel
set_option maxHeartbeats 4000000 in
set_option maxRecDepth 100000 in
theorem z_54_add (l : Launch) (hst : l.stackTraces = false) (D : va_G) (κ : K4) (E0 : Nat) (sz : Nat) (h0 : Nat) (h1 : Nat) (x0 : Int32) (x1 : Int32) (k_x0 : 0 ≤ x0.toInt ∧ x0.toInt ≤ 4) (k_x1 : 0 ≤ x1.toInt ∧ x1.toInt ≤ 3) : NM l yJx4a65c_add_72be8 cJx4a65c_add_72be8 4 none 3 57 1 10 E0 D κ ([(h0, .inr (10, [.int 1, .ref E0, .int 0])), (h1, .inr (8, [.int 0, .int x0, .int x1, .int 0, .int 0]))]) sz [.ref h0, .ref h1, .ref E0, .int 0] (QV D κ ([(h0, .inr (10, [.int 1, .ref E0, .int 0])), (h1, .inr (8, [.int 0, .int x0, .int x1, .int 0, .int 0]))]) sz (fun qs : W1 => [(h0, .inr (10, [.int 1, .ref ((qs 0)), .int 1])), (h1, .inr (8, [.int 0, .int x0, .int x1, .int 0, .int 0]))])) := by
  refine NM.of (by decide +kernel) (Nat.le_of_ble_eq_true rfl) ?_
  intro p e s m below meth c ls hC hr hk hin hsz hE hT H locs hG hl
  have hx := hC.1
  have hb := hC.2.1
  have hl : lv_has ls 4 [(0, .ref h0), (1, .ref h1), (2, .ref E0), (3, .int 0)] := hl
  refine lv_iload_n hx hb dJx4a65c_add_72be8_0 rfl (lv_at hl 3 rfl) ?_
  refine lv_aload_n hx hb dJx4a65c_add_72be8_1 rfl (lv_at hl 2 rfl) ?_
  refine zs_elen hC hG hE dJx4a65c_add_72be8_2 ?_
  refine lv_icmp_ne (tgt := 11) hx hb dJx4a65c_add_72be8_3 (by decide) (fun h3 => absurd (by decide) h3) (fun _ => ?_)
  refine lv_aload_n hx hb dJx4a65c_add_72be8_6 rfl (lv_at hl 0 rfl) ?_
  have cut7 : Cut ([(h0, .inr (10, [.int 1, .ref E0, .int 0])), (h1, .inr (8, [.int 0, .int x0, .int x1, .int 0, .int 0]))]) ([(h0, .inr (10, [.int 1, .ref E0, .int 0]))]) ([(h1, .inr (8, [.int 0, .int x0, .int x1, .int 0, .int 0]))]) := (Cut.idx [0] [1] rfl rfl (by decide) (by decide) (by decide))
  refine zc_r hG cut7 (zr_V (k := 0) (ci := 10) (n := 0) (As := []) (rest := []) hC hG hE hT cut7 (z_53_grow l hst D κ E0 H.size h0) rfl rfl w240 w117 w243 w241 w242 (by decide +kernel) ⟨Nat.le_of_ble_eq_true rfl, Nat.le_of_ble_eq_true rfl⟩ rfl hl.1 rfl (Nat.le_of_ble_eq_true rfl) dJx4a65c_add_72be8_7 ⟨Nat.le_of_ble_eq_true rfl, Nat.le_of_ble_eq_true rfl⟩) (fun z1 H locs hG => ?_)
  have hG : BW D κ (([(h1, .inr (8, [.int 0, .int x0, .int x1, .int 0, .int 0]))]) ++ ([(h0, .inr (10, [.int 1, .ref (z1 0), .int 0])), (z1 0, .inl (κ.2.2.2, 10, .inr (.inr (.inr (.inr (fun _ => none))))))])) _ s H locs := hG
  refine lv_astore_n (lv' := [(2, .ref (z1 0)), (0, .ref h0), (1, .ref h1), (3, .int 0)]) hx hb dJx4a65c_add_72be8_10 rfl hl (by decide) rfl (fun ls hl => ?_)
  refine lv_aload_n hx hb dJx4a65c_add_72be8_11 rfl (lv_at hl 0 rfl) ?_
  refine lv_iload_n hx hb dJx4a65c_add_72be8_12 rfl (lv_at hl 3 rfl) ?_
  refine lv_aload_n hx hb dJx4a65c_add_72be8_13 rfl (lv_at hl 2 rfl) ?_
  refine zs_rst 2 0 8 hC hG hT rfl (List.mem_of_getElem? (i := 3) rfl) rfl rfl (vp_box (by have e0 : (0 : Int32).toInt = 0 := (by decide); omega) (by have e0 : (0 : Int32).toInt = 0 := (by decide); omega)) dJx4a65c_add_72be8_14 (fun H locs hG => ?_)
  have hG : BW D κ ((([(h1, .inr (8, [.int 0, .int x0, .int x1, .int 0, .int 0]))]) ++ ([(h0, .inr (10, [.int 1, .ref (z1 0), .int 0])), (z1 0, .inl (κ.2.2.2, 10, .inr (.inr (.inr (.inr (fun _ => none))))))]) : va_W).set 2 (z1 0, .inl (κ.2.2.2, 10, .inr (.inr (.inr (.inr (va_up (fun _ => none) ((0 : Int32).toNatClampNeg) (some h1)))))))) _ s H locs := hG
  refine lv_aload_n hx hb dJx4a65c_add_72be8_15 rfl (lv_at hl 1 rfl) ?_
  refine lv_iload_n hx hb dJx4a65c_add_72be8_16 rfl (lv_at hl 3 rfl) ?_
  refine lv_iconst (v := 1) hx hb dJx4a65c_add_72be8_17 (by decide) ?_
  refine lv_iadd hx hb dJx4a65c_add_72be8_18 ?_
  refine W.eq (g2 := F0 m 19 ls [.int 1, .ref h0]) rfl ?_
  refine bw_put (C := RJx4a65c) (T := TJx4a65c) (N := 3) (ci := 10) (ty0 := tyJx4a65c) (ty := .int) (v := .int 1) 2 (by decide) 1 hC hG iwJA tyJx4a65c_ok nmJx4a65c rfl rfl w183 rfl (Or.inl rfl) (by decide +kernel) rfl rfl (Nat.le_of_ble_eq_true rfl) dJx4a65c_add_72be8_19 (fun H locs hG => ?_)
  have hG : BW D κ (((([(h1, .inr (8, [.int 0, .int x0, .int x1, .int 0, .int 0]))]) ++ ([(h0, .inr (10, [.int 1, .ref (z1 0), .int 0])), (z1 0, .inl (κ.2.2.2, 10, .inr (.inr (.inr (.inr (fun _ => none))))))]) : va_W).set 2 (z1 0, .inl (κ.2.2.2, 10, .inr (.inr (.inr (.inr (va_up (fun _ => none) ((0 : Int32).toNatClampNeg) (some h1))))))) : va_W).set 1 (h0, .inr (10, [.int 1, .ref (z1 0), .int 1]))) _ s H locs := hG
  have hG := hG.at (ws' := [(h0, .inr (10, [.int 1, .ref (z1 0), .int 1])), (h1, .inr (8, [.int 0, .int x0, .int x1, .int 0, .int 0]))]) [1, 0] (by decide) rfl
  exact ze_v (qs := fun k => match k with  | _ => z1 0) hC hG rfl hr hk (Nat.le_of_ble_eq_true rfl) (Nat.le_of_ble_eq_true rfl) dJx4a65c_add_72be8_22
theorem dJx4a65c_add_9ea2d_0 : decode cJx4a65c_add_9ea2d 0 = .ok (.aload_n 0, 1) := by decide +kernel
theorem dJx4a65c_add_9ea2d_1 : decode cJx4a65c_add_9ea2d 1 = .ok (.dup, 1) := by decide +kernel
theorem dJx4a65c_add_9ea2d_10 : decode cJx4a65c_add_9ea2d 10 = .ok (.aload_n 0, 1) := by decide +kernel
theorem dJx4a65c_add_9ea2d_11 : decode cJx4a65c_add_9ea2d 11 = .ok (.aload_n 1, 1) := by decide +kernel
theorem dJx4a65c_add_9ea2d_12 : decode cJx4a65c_add_9ea2d 12 = .ok (.aload_n 0, 1) := by decide +kernel
theorem dJx4a65c_add_9ea2d_13 : decode cJx4a65c_add_9ea2d 13 = .ok (.getfield 9, 3) := by decide +kernel
theorem dJx4a65c_add_9ea2d_16 : decode cJx4a65c_add_9ea2d 16 = .ok (.aload_n 0, 1) := by decide +kernel
theorem dJx4a65c_add_9ea2d_17 : decode cJx4a65c_add_9ea2d 17 = .ok (.getfield 48, 3) := by decide +kernel
theorem dJx4a65c_add_9ea2d_2 : decode cJx4a65c_add_9ea2d 2 = .ok (.getfield 63, 3) := by decide +kernel
theorem dJx4a65c_add_9ea2d_20 : decode cJx4a65c_add_9ea2d 20 = .ok (.invokevirtual 131, 3) := by decide +kernel
theorem dJx4a65c_add_9ea2d_23 : decode cJx4a65c_add_9ea2d 23 = .ok (.iconst 1, 1) := by decide +kernel
theorem dJx4a65c_add_9ea2d_24 : decode cJx4a65c_add_9ea2d 24 = .ok (.ireturn, 1) := by decide +kernel
theorem dJx4a65c_add_9ea2d_5 : decode cJx4a65c_add_9ea2d 5 = .ok (.iconst 1, 1) := by decide +kernel
theorem dJx4a65c_add_9ea2d_6 : decode cJx4a65c_add_9ea2d 6 = .ok (.iadd, 1) := by decide +kernel
theorem dJx4a65c_add_9ea2d_7 : decode cJx4a65c_add_9ea2d 7 = .ok (.putfield 63, 3) := by decide +kernel
set_option maxHeartbeats 4000000 in
set_option maxRecDepth 100000 in
theorem z_55_add (l : Launch) (hst : l.stackTraces = false) (D : va_G) (κ : K4) (E0 : Nat) (sz : Nat) (h0 : Nat) (h1 : Nat) (x0 : Int32) (x1 : Int32) (k_x0 : 0 ≤ x0.toInt ∧ x0.toInt ≤ 4) (k_x1 : 0 ≤ x1.toInt ∧ x1.toInt ≤ 3) : NM l yJx4a65c_add_9ea2d cJx4a65c_add_9ea2d 2 (some .boolean) 4 80 1 10 E0 D κ ([(h0, .inr (10, [.int 0, .ref E0, .int 0])), (h1, .inr (8, [.int 0, .int x0, .int x1, .int 0, .int 0]))]) sz [.ref h0, .ref h1] (QI D κ ([(h0, .inr (10, [.int 0, .ref E0, .int 0])), (h1, .inr (8, [.int 0, .int x0, .int x1, .int 0, .int 0]))]) sz 1 (fun qs : W1 => [(h0, .inr (10, [.int 1, .ref ((qs 0)), .int 1])), (h1, .inr (8, [.int 0, .int x0, .int x1, .int 0, .int 0]))])) := by
  refine NM.of (by decide +kernel) (Nat.le_of_ble_eq_true rfl) ?_
  intro p e s m below meth c ls hC hr hk hin hsz hE hT H locs hG hl
  have hx := hC.1
  have hb := hC.2.1
  have hl : lv_has ls 2 [(0, .ref h0), (1, .ref h1)] := hl
  refine lv_aload_n hx hb dJx4a65c_add_9ea2d_0 rfl (lv_at hl 0 rfl) ?_
  refine lv_dup hx hb dJx4a65c_add_9ea2d_1 rfl ?_
  refine bw_getI (C := RJx4a65c) (T := TJx4a65c) (N := 3) (ci := 10) (v := .int 0) 0 (by decide) 0 hC hG iwJA rfl rfl w234 w235 rfl dJx4a65c_add_9ea2d_2 ?_
  refine lv_iconst (v := 1) hx hb dJx4a65c_add_9ea2d_5 (by decide) ?_
  refine lv_iadd hx hb dJx4a65c_add_9ea2d_6 ?_
  refine W.eq (g2 := F0 m 7 ls [.int 1, .ref h0]) rfl ?_
  refine bw_putI (C := RJx4a65c) (T := TJx4a65c) (N := 3) (ci := 10) (ty0 := tyJx4a65c) (ty := .int) (v := .int 1) 0 (by decide) 0 hC hG iwJA tyJx4a65c_ok nmJx4a65c rfl rfl w234 w235 (rfl) (by decide +kernel) rfl rfl (Nat.le_of_ble_eq_true rfl) dJx4a65c_add_9ea2d_7 (fun H locs hG => ?_)
  have hG : BW D κ (([(h0, .inr (10, [.int 0, .ref E0, .int 0])), (h1, .inr (8, [.int 0, .int x0, .int x1, .int 0, .int 0]))] : va_W).set 0 (h0, .inr (10, [.int 1, .ref E0, .int 0]))) _ s H locs := hG
  refine lv_aload_n hx hb dJx4a65c_add_9ea2d_10 rfl (lv_at hl 0 rfl) ?_
  refine lv_aload_n hx hb dJx4a65c_add_9ea2d_11 rfl (lv_at hl 1 rfl) ?_
  refine lv_aload_n hx hb dJx4a65c_add_9ea2d_12 rfl (lv_at hl 0 rfl) ?_
  refine bw_get (C := RJx4a65c) (T := TJx4a65c) (N := 3) (ci := 10) (v := .ref E0) 1 (by decide) 0 hC hG iwJA rfl rfl w130 rfl rfl dJx4a65c_add_9ea2d_13 ?_
  refine lv_aload_n hx hb dJx4a65c_add_9ea2d_16 rfl (lv_at hl 0 rfl) ?_
  refine bw_get (C := RJx4a65c) (T := TJx4a65c) (N := 3) (ci := 10) (v := .int 0) 2 (by decide) 0 hC hG iwJA rfl rfl w183 rfl rfl dJx4a65c_add_9ea2d_17 ?_
  have cut20 : Cut (([(h0, .inr (10, [.int 0, .ref E0, .int 0])), (h1, .inr (8, [.int 0, .int x0, .int x1, .int 0, .int 0]))] : va_W).set 0 (h0, .inr (10, [.int 1, .ref E0, .int 0]))) ([(h0, .inr (10, [.int 1, .ref E0, .int 0])), (h1, .inr (8, [.int 0, .int x0, .int x1, .int 0, .int 0]))]) ([]) := (Cut.all 2 rfl (by decide))
  refine zc_v hG cut20 (zr_V (k := 0) (ci := 10) (n := 3) (As := [.ref h1, .ref E0, .int 0]) (rest := []) hC hG hE hT cut20 (z_54_add l hst D κ E0 H.size h0 h1 x0 x1 ⟨by omega, by omega⟩ ⟨by omega, by omega⟩) rfl rfl w236 w117 w239 w237 w238 (by decide +kernel) ⟨Nat.le_of_ble_eq_true rfl, Nat.le_of_ble_eq_true rfl⟩ rfl hl.1 rfl (Nat.le_of_ble_eq_true rfl) dJx4a65c_add_9ea2d_20 ⟨Nat.le_of_ble_eq_true rfl, Nat.le_of_ble_eq_true rfl⟩) (fun z1 H locs hG => ?_)
  have hG : BW D κ ([(h0, .inr (10, [.int 1, .ref (z1 0), .int 1])), (h1, .inr (8, [.int 0, .int x0, .int x1, .int 0, .int 0]))]) _ s H locs := hG
  refine lv_iconst (v := 1) hx hb dJx4a65c_add_9ea2d_23 (by decide) ?_
  exact ze_i (qs := fun k => match k with  | _ => z1 0) hC hG rfl rfl hr rfl hk (Nat.le_of_ble_eq_true rfl) (Nat.le_of_ble_eq_true rfl) dJx4a65c_add_9ea2d_24
set_option maxHeartbeats 4000000 in
set_option maxRecDepth 100000 in
theorem z_56_size (l : Launch) (hst : l.stackTraces = false) (D : va_G) (κ : K4) (E0 : Nat) (sz : Nat) (h0 : Nat) (h1 : Nat) : NM l yJx4a65c_size_8abf5 cJx4a65c_size_8abf5 1 (some .int) 0 0 0 0 E0 D κ ([(h0, .inr (10, [.int 1, .ref h1, .int 1]))]) sz [.ref h0] (QI D κ ([(h0, .inr (10, [.int 1, .ref h1, .int 1]))]) sz 1 (fun qs : W1 => [(h0, .inr (10, [.int 1, .ref h1, .int 1]))])) := by
  refine NM.of (by decide +kernel) (Nat.le_of_ble_eq_true rfl) ?_
  intro p e s m below meth c ls hC hr hk hin hsz hE hT H locs hG hl
  have hx := hC.1
  have hb := hC.2.1
  have hl : lv_has ls 1 [(0, .ref h0)] := hl
  refine lv_aload_n hx hb dJx4a65c_size_8abf5_0 rfl (lv_at hl 0 rfl) ?_
  refine bw_get (C := RJx4a65c) (T := TJx4a65c) (N := 3) (ci := 10) (v := .int 1) 2 (by decide) 0 hC hG iwJA rfl rfl w183 rfl rfl dJx4a65c_size_8abf5_1 ?_
  exact ze_i (qs := fun _ => 0) hC hG rfl rfl hr rfl hk (Nat.le_of_ble_eq_true rfl) (Nat.le_of_ble_eq_true rfl) dJx4a65c_size_8abf5_4
theorem dX14_account_23 : decode cX14_account 23 = .ok (.iconst 0, 1) := by decide +kernel
theorem dX14_account_31 : decode cX14_account 31 = .ok (.aload_n 0, 1) := by decide +kernel
theorem dX14_account_32 : decode cX14_account 32 = .ok (.aload_n 0, 1) := by decide +kernel
theorem dX14_account_33 : decode cX14_account 33 = .ok (.getfield 16, 3) := by decide +kernel
theorem dX14_account_36 : decode cX14_account 36 = .ok (.invokevirtual 49, 3) := by decide +kernel
theorem dX14_account_39 : decode cX14_account 39 = .ok (.bipush 10, 2) := by decide +kernel
theorem dX14_account_41 : decode cX14_account 41 = .ok (.if_icmp .ne 7, 3) := by decide +kernel
theorem dX14_account_48 : decode cX14_account 48 = .ok (.iconst 0, 1) := by decide +kernel
theorem dX14_account_49 : decode cX14_account 49 = .ok (.iconst 2, 1) := by decide +kernel
theorem dX14_account_50 : decode cX14_account 50 = .ok (.invokevirtual 45, 3) := by decide +kernel
theorem dX14_account_53 : decode cX14_account 53 = .ok (.ifCond .eq 5, 3) := by decide +kernel
theorem dX14_account_58 : decode cX14_account 58 = .ok (.aload_n 0, 1) := by decide +kernel
theorem dX14_account_59 : decode cX14_account 59 = .ok (.getfield 16, 3) := by decide +kernel
theorem dX14_account_62 : decode cX14_account 62 = .ok (.new 85, 3) := by decide +kernel
theorem dX14_account_65 : decode cX14_account 65 = .ok (.dup, 1) := by decide +kernel
theorem dX14_account_66 : decode cX14_account 66 = .ok (.aload_n 0, 1) := by decide +kernel
theorem dX14_account_67 : decode cX14_account 67 = .ok (.getfield 16, 3) := by decide +kernel
theorem dX14_account_70 : decode cX14_account 70 = .ok (.invokevirtual 49, 3) := by decide +kernel
theorem dX14_account_73 : decode cX14_account 73 = .ok (.iload_n 1, 1) := by decide +kernel
theorem dX14_account_74 : decode cX14_account 74 = .ok (.iload_n 2, 1) := by decide +kernel
theorem dX14_account_75 : decode cX14_account 75 = .ok (.invokespecial 150, 3) := by decide +kernel
theorem dX14_account_78 : decode cX14_account 78 = .ok (.invokevirtual 153, 3) := by decide +kernel
theorem dX14_account_81 : decode cX14_account 81 = .ok (.pop, 1) := by decide +kernel
theorem dX14_account_82 : decode cX14_account 82 = .ok (.aload_n 0, 1) := by decide +kernel
theorem dX14_account_83 : decode cX14_account 83 = .ok (.getfield 16, 3) := by decide +kernel
theorem dX14_account_86 : decode cX14_account 86 = .ok (.invokevirtual 49, 3) := by decide +kernel
theorem dX14_account_89 : decode cX14_account 89 = .ok (.iconst 1, 1) := by decide +kernel
theorem dX14_account_90 : decode cX14_account 90 = .ok (.isub, 1) := by decide +kernel
theorem dX14_account_91 : decode cX14_account 91 = .ok (.ireturn, 1) := by decide +kernel
set_option maxHeartbeats 4000000 in
set_option maxRecDepth 100000 in
theorem z_57_account (l : Launch) (hst : l.stackTraces = false) (D : va_G) (κ : K4) (E0 : Nat) (sz : Nat) (b : Nat → Nat) (x0 : Int32) (x1 : Int32) (k_x0 : 0 ≤ x0.toInt ∧ x0.toInt ≤ 4) (k_x1 : 0 ≤ x1.toInt ∧ x1.toInt ≤ 3) : NM l yX14_account cX14_account 3 (some .int) 5 101 2 15 E0 D κ (mw κ b E0 0) sz [.ref (b 0), .int x0, .int x1] (QI D κ (mw κ b E0 0) sz 0 (fun qs : W1 => [(b 0, .inr (9, [.int 0, .ref (b 1), .ref (b 2), .ref (b 3), .ref (b 4), .ref (b 5), .ref (b 6), .ref (b 7), .null, .int 0, .int (-1), .int 0, .int 0, .int 0, .ref (b 8)]))])) := by
  refine NM.of (by decide +kernel) (Nat.le_of_ble_eq_true rfl) ?_
  intro p e s m below meth c ls hC hr hk hin hsz hE hT H locs hG hl
  have hx := hC.1
  have hb := hC.2.1
  have hl : lv_has ls 3 [(0, .ref (b 0)), (1, .int x0), (2, .int x1)] := hl
  refine lv_aload_n hx hb dX14_account_0 rfl (lv_at hl 0 rfl) ?_
  refine lv_iload_n hx hb dX14_account_1 rfl (lv_at hl 1 rfl) ?_
  refine lv_iconst (v := 0) hx hb dX14_account_2 (by decide) ?_
  refine lv_iconst (v := 4) hx hb dX14_account_3 (by decide) ?_
  have cut4 : Cut (mw κ b E0 0) (mw κ b E0 0) ([]) := (Cut.all 9 rfl (by decide))
  refine zc_i hG cut4 (zr_S (n := 3) (As := [.int x0, .int 0, .int 4]) (rest := [.ref (b 0)]) hC hG hE hT cut4 (z_40_isIn l hst D κ E0 H.size b x0 ⟨by omega, by omega⟩) w167 w5 w169 w168 (by decide +kernel) ⟨Nat.le_of_ble_eq_true rfl, Nat.le_of_ble_eq_true rfl⟩ rfl hl.1 rfl (Nat.le_of_ble_eq_true rfl) dX14_account_4 ⟨Nat.le_of_ble_eq_true rfl, Nat.le_of_ble_eq_true rfl⟩) (fun z1 H locs hG => ?_)
  have hG : BW D κ (mw κ b E0 0) _ s H locs := hG
  refine lv_if_eq (tgt := 19) hx hb dX14_account_7 (by decide) (fun h7 => absurd h7 (by decide)) (fun _ => ?_)
  refine lv_iload_n hx hb dX14_account_10 rfl (lv_at hl 2 rfl) ?_
  refine lv_iconst (v := 0) hx hb dX14_account_11 (by decide) ?_
  refine lv_iconst (v := 3) hx hb dX14_account_12 (by decide) ?_
  have cut13 : Cut (mw κ b E0 0) (mw κ b E0 0) ([]) := (Cut.all 9 rfl (by decide))
  refine zc_i hG cut13 (zr_S (n := 3) (As := [.int x1, .int 0, .int 3]) (rest := [.ref (b 0)]) hC hG hE hT cut13 (z_50_isIn l hst D κ E0 H.size b x1 ⟨by omega, by omega⟩) w167 w5 w169 w168 (by decide +kernel) ⟨Nat.le_of_ble_eq_true rfl, Nat.le_of_ble_eq_true rfl⟩ rfl hl.1 rfl (Nat.le_of_ble_eq_true rfl) dX14_account_13 ⟨Nat.le_of_ble_eq_true rfl, Nat.le_of_ble_eq_true rfl⟩) (fun z2 H locs hG => ?_)
  have hG : BW D κ (mw κ b E0 0) _ s H locs := hG
  refine lv_if_ne (tgt := 23) hx hb dX14_account_16 (by decide) (fun _ => ?_) (fun h16 => absurd h16 (by decide))
  refine lv_iconst (v := 0) hx hb dX14_account_23 (by decide) ?_
  refine lv_iconst (v := 1) hx hb dX14_account_24 (by decide) ?_
  have cut25 : Cut (mw κ b E0 0) (mw κ b E0 0) ([]) := (Cut.all 9 rfl (by decide))
  refine zc_i hG cut25 (zr_V (k := 0) (ci := 9) (n := 2) (As := [.int 0, .int 1]) (rest := []) hC hG hE hT cut25 (z_25_start l hst D κ E0 H.size b) rfl rfl w170 w5 w173 w171 w172 (by decide +kernel) ⟨Nat.le_of_ble_eq_true rfl, Nat.le_of_ble_eq_true rfl⟩ rfl hl.1 rfl (Nat.le_of_ble_eq_true rfl) dX14_account_25 ⟨Nat.le_of_ble_eq_true rfl, Nat.le_of_ble_eq_true rfl⟩) (fun z3 H locs hG => ?_)
  have hG : BW D κ (mw κ b E0 0) _ s H locs := hG
  refine lv_if_ne (tgt := 56) hx hb dX14_account_28 (by decide) (fun h28 => absurd (by decide) h28) (fun _ => ?_)
  refine lv_aload_n hx hb dX14_account_31 rfl (lv_at hl 0 rfl) ?_
  refine lv_aload_n hx hb dX14_account_32 rfl (lv_at hl 0 rfl) ?_
  refine bw_get (C := RX14) (T := TX14) (N := 15) (ci := 9) (v := .ref (b 2)) 2 (by decide) 0 hC hG iwX14 rfl rfl w118 rfl rfl dX14_account_33 ?_
  have cut36 : Cut (mw κ b E0 0) (mw κ b E0 0) ([]) := (Cut.all 9 rfl (by decide))
  refine zc_i hG cut36 (zr_V (k := 2) (ci := 10) (n := 0) (As := []) (rest := [.ref (b 0)]) hC hG hE hT cut36 (z_26_size l hst D κ E0 H.size (b 2) (b 0) (b 1) (b 3) (b 4) (b 5) (b 6) (b 7) (b 8)) rfl rfl w179 w117 w182 w180 w181 (by decide +kernel) ⟨Nat.le_of_ble_eq_true rfl, Nat.le_of_ble_eq_true rfl⟩ rfl hl.1 rfl (Nat.le_of_ble_eq_true rfl) dX14_account_36 ⟨Nat.le_of_ble_eq_true rfl, Nat.le_of_ble_eq_true rfl⟩) (fun z4 H locs hG => ?_)
  have hG : BW D κ (mw κ b E0 0) _ s H locs := hG
  refine lv_bipush (v := 10) hx hb dX14_account_39 (by decide) ?_
  refine lv_icmp_ne (tgt := 48) hx hb dX14_account_41 (by decide) (fun _ => ?_) (fun h41 => absurd h41 (by decide))
  refine lv_iconst (v := 0) hx hb dX14_account_48 (by decide) ?_
  refine lv_iconst (v := 2) hx hb dX14_account_49 (by decide) ?_
  have cut50 : Cut (mw κ b E0 0) (mw κ b E0 0) ([]) := (Cut.all 9 rfl (by decide))
  refine zc_i hG cut50 (zr_V (k := 0) (ci := 9) (n := 2) (As := [.int 0, .int 2]) (rest := []) hC hG hE hT cut50 (z_27_refuse l hst D κ E0 H.size b) rfl rfl w175 w5 w178 w176 w177 (by decide +kernel) ⟨Nat.le_of_ble_eq_true rfl, Nat.le_of_ble_eq_true rfl⟩ rfl hl.1 rfl (Nat.le_of_ble_eq_true rfl) dX14_account_50 ⟨Nat.le_of_ble_eq_true rfl, Nat.le_of_ble_eq_true rfl⟩) (fun z5 H locs hG => ?_)
  have hG : BW D κ (mw κ b E0 0) _ s H locs := hG
  refine lv_if_eq (tgt := 58) hx hb dX14_account_53 (by decide) (fun _ => ?_) (fun h53 => absurd (by decide) h53)
  refine lv_aload_n hx hb dX14_account_58 rfl (lv_at hl 0 rfl) ?_
  refine bw_get (C := RX14) (T := TX14) (N := 15) (ci := 9) (v := .ref (b 2)) 2 (by decide) 0 hC hG iwX14 rfl rfl w118 rfl rfl dX14_account_59 ?_
  refine bw_new (C := RX8) (T := TX8) (N := 5) (ci := 8) (fs := [.int 0, .int 0, .int 0, .int 0, .int 0]) hC hG iwX8 tyX8_ok w220 w221 w222 rfl (fun j hj => by rcases (show j = 0 ∨ j = 1 ∨ j = 2 ∨ j = 3 ∨ j = 4 by omega) with rfl | rfl | rfl | rfl | rfl <;> rfl) (Nat.le_of_ble_eq_true rfl) (Nat.le_of_ble_eq_true rfl) dX14_account_62 (fun q1 H hG => ?_)
  have hG : BW D κ ((mw κ b E0 0) ++ [(q1, .inr (8, [.int 0, .int 0, .int 0, .int 0, .int 0]))]) _ s H locs := hG
  refine lv_dup hx hb dX14_account_65 rfl ?_
  refine lv_aload_n hx hb dX14_account_66 rfl (lv_at hl 0 rfl) ?_
  refine bw_get (C := RX14) (T := TX14) (N := 15) (ci := 9) (v := .ref (b 2)) 2 (by decide) 0 hC hG iwX14 rfl rfl w118 rfl rfl dX14_account_67 ?_
  have cut70 : Cut ((mw κ b E0 0) ++ [(q1, .inr (8, [.int 0, .int 0, .int 0, .int 0, .int 0]))]) (mw κ b E0 0) ([(q1, .inr (8, [.int 0, .int 0, .int 0, .int 0, .int 0]))]) := (Cut.idx [0, 1, 2, 3, 4, 5, 6, 7, 8] [9] rfl rfl (by decide) (by decide) (by decide))
  refine zc_i hG cut70 (zr_V (k := 2) (ci := 10) (n := 0) (As := []) (rest := [.ref q1, .ref q1, .ref (b 2)]) hC hG hE hT cut70 (z_26_size l hst D κ E0 H.size (b 2) (b 0) (b 1) (b 3) (b 4) (b 5) (b 6) (b 7) (b 8)) rfl rfl w179 w117 w182 w180 w181 (by decide +kernel) ⟨Nat.le_of_ble_eq_true rfl, Nat.le_of_ble_eq_true rfl⟩ rfl hl.1 rfl (Nat.le_of_ble_eq_true rfl) dX14_account_70 ⟨Nat.le_of_ble_eq_true rfl, Nat.le_of_ble_eq_true rfl⟩) (fun z6 H locs hG => ?_)
  have hG : BW D κ (([(q1, .inr (8, [.int 0, .int 0, .int 0, .int 0, .int 0]))]) ++ (mw κ b E0 0)) _ s H locs := hG
  refine lv_iload_n hx hb dX14_account_73 rfl (lv_at hl 1 rfl) ?_
  refine lv_iload_n hx hb dX14_account_74 rfl (lv_at hl 2 rfl) ?_
  have cut75 : Cut (([(q1, .inr (8, [.int 0, .int 0, .int 0, .int 0, .int 0]))]) ++ (mw κ b E0 0)) ([(q1, .inr (8, [.int 0, .int 0, .int 0, .int 0, .int 0]))]) ([(b 0, .inr (9, [.int 0, .ref (b 1), .ref (b 2), .ref (b 3), .ref (b 4), .ref (b 5), .ref (b 6), .ref (b 7), .null, .int 0, .int (-1), .int 0, .int 0, .int 0, .ref (b 8)])), (b 1, .inl (κ.1, 4, .inl (fun _ => 1000))), (b 2, .inr (10, [.int 0, .ref E0, .int 0])), (b 3, .inr (10, [.int 0, .ref E0, .int 0])), (b 4, .inr (10, [.int 0, .ref E0, .int 0])), (b 5, .inr (10, [.int 0, .ref E0, .int 0])), (b 6, .inr (10, [.int 0, .ref E0, .int 0])), (b 7, .inr (10, [.int 0, .ref E0, .int 0])), (b 8, .inr (10, [.int 0, .ref E0, .int 0]))]) := (Cut.idx [0] [1, 2, 3, 4, 5, 6, 7, 8, 9] rfl rfl (by decide) (by decide) (by decide))
  refine zc_v hG cut75 (zr_I (n := 3) (As := [.int 0, .int x0, .int x1]) (rest := [.ref q1, .ref (b 2)]) hC hG hE hT cut75 (z_51_init l hst D κ E0 H.size q1 x0 x1 ⟨by omega, by omega⟩ ⟨by omega, by omega⟩) w223 w222 w225 w224 rfl (by decide +kernel) ⟨Nat.le_of_ble_eq_true rfl, Nat.le_of_ble_eq_true rfl⟩ rfl hl.1 rfl (Nat.le_of_ble_eq_true rfl) dX14_account_75 ⟨Nat.le_of_ble_eq_true rfl, Nat.le_of_ble_eq_true rfl⟩) (fun z7 H locs hG => ?_)
  have hG : BW D κ (([(b 0, .inr (9, [.int 0, .ref (b 1), .ref (b 2), .ref (b 3), .ref (b 4), .ref (b 5), .ref (b 6), .ref (b 7), .null, .int 0, .int (-1), .int 0, .int 0, .int 0, .ref (b 8)])), (b 1, .inl (κ.1, 4, .inl (fun _ => 1000))), (b 2, .inr (10, [.int 0, .ref E0, .int 0])), (b 3, .inr (10, [.int 0, .ref E0, .int 0])), (b 4, .inr (10, [.int 0, .ref E0, .int 0])), (b 5, .inr (10, [.int 0, .ref E0, .int 0])), (b 6, .inr (10, [.int 0, .ref E0, .int 0])), (b 7, .inr (10, [.int 0, .ref E0, .int 0])), (b 8, .inr (10, [.int 0, .ref E0, .int 0]))]) ++ ([(q1, .inr (8, [.int 0, .int x0, .int x1, .int 0, .int 0]))])) _ s H locs := hG
  have cut78 : Cut (([(b 0, .inr (9, [.int 0, .ref (b 1), .ref (b 2), .ref (b 3), .ref (b 4), .ref (b 5), .ref (b 6), .ref (b 7), .null, .int 0, .int (-1), .int 0, .int 0, .int 0, .ref (b 8)])), (b 1, .inl (κ.1, 4, .inl (fun _ => 1000))), (b 2, .inr (10, [.int 0, .ref E0, .int 0])), (b 3, .inr (10, [.int 0, .ref E0, .int 0])), (b 4, .inr (10, [.int 0, .ref E0, .int 0])), (b 5, .inr (10, [.int 0, .ref E0, .int 0])), (b 6, .inr (10, [.int 0, .ref E0, .int 0])), (b 7, .inr (10, [.int 0, .ref E0, .int 0])), (b 8, .inr (10, [.int 0, .ref E0, .int 0]))]) ++ ([(q1, .inr (8, [.int 0, .int x0, .int x1, .int 0, .int 0]))])) ([(b 2, .inr (10, [.int 0, .ref E0, .int 0])), (q1, .inr (8, [.int 0, .int x0, .int x1, .int 0, .int 0]))]) ([(b 0, .inr (9, [.int 0, .ref (b 1), .ref (b 2), .ref (b 3), .ref (b 4), .ref (b 5), .ref (b 6), .ref (b 7), .null, .int 0, .int (-1), .int 0, .int 0, .int 0, .ref (b 8)])), (b 1, .inl (κ.1, 4, .inl (fun _ => 1000))), (b 3, .inr (10, [.int 0, .ref E0, .int 0])), (b 4, .inr (10, [.int 0, .ref E0, .int 0])), (b 5, .inr (10, [.int 0, .ref E0, .int 0])), (b 6, .inr (10, [.int 0, .ref E0, .int 0])), (b 7, .inr (10, [.int 0, .ref E0, .int 0])), (b 8, .inr (10, [.int 0, .ref E0, .int 0]))]) := (Cut.idx [2, 9] [0, 1, 3, 4, 5, 6, 7, 8] rfl rfl (by decide) (by decide) (by decide))
  refine zc_i hG cut78 (zr_V (k := 2) (ci := 10) (n := 1) (As := [.ref q1]) (rest := []) hC hG hE hT cut78 (z_55_add l hst D κ E0 H.size (b 2) q1 x0 x1 ⟨by omega, by omega⟩ ⟨by omega, by omega⟩) rfl rfl w230 w117 w233 w231 w232 (by decide +kernel) ⟨Nat.le_of_ble_eq_true rfl, Nat.le_of_ble_eq_true rfl⟩ rfl hl.1 rfl (Nat.le_of_ble_eq_true rfl) dX14_account_78 ⟨Nat.le_of_ble_eq_true rfl, Nat.le_of_ble_eq_true rfl⟩) (fun z8 H locs hG => ?_)
  have hG : BW D κ (([(b 0, .inr (9, [.int 0, .ref (b 1), .ref (b 2), .ref (b 3), .ref (b 4), .ref (b 5), .ref (b 6), .ref (b 7), .null, .int 0, .int (-1), .int 0, .int 0, .int 0, .ref (b 8)])), (b 1, .inl (κ.1, 4, .inl (fun _ => 1000))), (b 3, .inr (10, [.int 0, .ref E0, .int 0])), (b 4, .inr (10, [.int 0, .ref E0, .int 0])), (b 5, .inr (10, [.int 0, .ref E0, .int 0])), (b 6, .inr (10, [.int 0, .ref E0, .int 0])), (b 7, .inr (10, [.int 0, .ref E0, .int 0])), (b 8, .inr (10, [.int 0, .ref E0, .int 0]))]) ++ ([(b 2, .inr (10, [.int 1, .ref (z8 0), .int 1])), (q1, .inr (8, [.int 0, .int x0, .int x1, .int 0, .int 0]))])) _ s H locs := hG
  refine lv_pop hx hb dX14_account_81 rfl ?_
  refine lv_aload_n hx hb dX14_account_82 rfl (lv_at hl 0 rfl) ?_
  refine bw_get (C := RX14) (T := TX14) (N := 15) (ci := 9) (v := .ref (b 2)) 2 (by decide) 0 hC hG iwX14 rfl rfl w118 rfl rfl dX14_account_83 ?_
  have cut86 : Cut (([(b 0, .inr (9, [.int 0, .ref (b 1), .ref (b 2), .ref (b 3), .ref (b 4), .ref (b 5), .ref (b 6), .ref (b 7), .null, .int 0, .int (-1), .int 0, .int 0, .int 0, .ref (b 8)])), (b 1, .inl (κ.1, 4, .inl (fun _ => 1000))), (b 3, .inr (10, [.int 0, .ref E0, .int 0])), (b 4, .inr (10, [.int 0, .ref E0, .int 0])), (b 5, .inr (10, [.int 0, .ref E0, .int 0])), (b 6, .inr (10, [.int 0, .ref E0, .int 0])), (b 7, .inr (10, [.int 0, .ref E0, .int 0])), (b 8, .inr (10, [.int 0, .ref E0, .int 0]))]) ++ ([(b 2, .inr (10, [.int 1, .ref (z8 0), .int 1])), (q1, .inr (8, [.int 0, .int x0, .int x1, .int 0, .int 0]))])) ([(b 2, .inr (10, [.int 1, .ref (z8 0), .int 1]))]) ([(b 0, .inr (9, [.int 0, .ref (b 1), .ref (b 2), .ref (b 3), .ref (b 4), .ref (b 5), .ref (b 6), .ref (b 7), .null, .int 0, .int (-1), .int 0, .int 0, .int 0, .ref (b 8)])), (b 1, .inl (κ.1, 4, .inl (fun _ => 1000))), (b 3, .inr (10, [.int 0, .ref E0, .int 0])), (b 4, .inr (10, [.int 0, .ref E0, .int 0])), (b 5, .inr (10, [.int 0, .ref E0, .int 0])), (b 6, .inr (10, [.int 0, .ref E0, .int 0])), (b 7, .inr (10, [.int 0, .ref E0, .int 0])), (b 8, .inr (10, [.int 0, .ref E0, .int 0])), (q1, .inr (8, [.int 0, .int x0, .int x1, .int 0, .int 0]))]) := (Cut.idx [8] [0, 1, 2, 3, 4, 5, 6, 7, 9] rfl rfl (by decide) (by decide) (by decide))
  refine zc_i hG cut86 (zr_V (k := 8) (ci := 10) (n := 0) (As := []) (rest := []) hC hG hE hT cut86 (z_56_size l hst D κ E0 H.size (b 2) (z8 0)) rfl rfl w179 w117 w182 w180 w181 (by decide +kernel) ⟨Nat.le_of_ble_eq_true rfl, Nat.le_of_ble_eq_true rfl⟩ rfl hl.1 rfl (Nat.le_of_ble_eq_true rfl) dX14_account_86 ⟨Nat.le_of_ble_eq_true rfl, Nat.le_of_ble_eq_true rfl⟩) (fun z9 H locs hG => ?_)
  have hG : BW D κ (([(b 0, .inr (9, [.int 0, .ref (b 1), .ref (b 2), .ref (b 3), .ref (b 4), .ref (b 5), .ref (b 6), .ref (b 7), .null, .int 0, .int (-1), .int 0, .int 0, .int 0, .ref (b 8)])), (b 1, .inl (κ.1, 4, .inl (fun _ => 1000))), (b 3, .inr (10, [.int 0, .ref E0, .int 0])), (b 4, .inr (10, [.int 0, .ref E0, .int 0])), (b 5, .inr (10, [.int 0, .ref E0, .int 0])), (b 6, .inr (10, [.int 0, .ref E0, .int 0])), (b 7, .inr (10, [.int 0, .ref E0, .int 0])), (b 8, .inr (10, [.int 0, .ref E0, .int 0])), (q1, .inr (8, [.int 0, .int x0, .int x1, .int 0, .int 0]))]) ++ ([(b 2, .inr (10, [.int 1, .ref (z8 0), .int 1]))])) _ s H locs := hG
  refine lv_iconst (v := 1) hx hb dX14_account_89 (by decide) ?_
  refine lv_isub hx hb dX14_account_90 ?_
  refine W.eq (g2 := F0 m 91 ls [.int 0]) rfl ?_
  have hG := hG.at (ws' := [(b 0, .inr (9, [.int 0, .ref (b 1), .ref (b 2), .ref (b 3), .ref (b 4), .ref (b 5), .ref (b 6), .ref (b 7), .null, .int 0, .int (-1), .int 0, .int 0, .int 0, .ref (b 8)]))]) [0] (by decide) rfl
  exact ze_i (qs := fun _ => 0) hC hG rfl rfl hr rfl hk (Nat.le_of_ble_eq_true rfl) (Nat.le_of_ble_eq_true rfl) dX14_account_91
theorem dX7_needAccount_0 : decode cX7_needAccount 0 = .ok (.iload_n 1, 1) := by decide +kernel
theorem dX7_needAccount_1 : decode cX7_needAccount 1 = .ok (.ifCond .lt 14, 3) := by decide +kernel
theorem dX7_needAccount_12 : decode cX7_needAccount 12 = .ok (.if_icmp .lt 14, 3) := by decide +kernel
theorem dX7_needAccount_15 : decode cX7_needAccount 15 = .ok (.new 194, 3) := by decide +kernel
theorem dX7_needAccount_18 : decode cX7_needAccount 18 = .ok (.dup, 1) := by decide +kernel
theorem dX7_needAccount_19 : decode cX7_needAccount 19 = .ok (.ldc_w 404, 3) := by decide +kernel
theorem dX7_needAccount_22 : decode cX7_needAccount 22 = .ok (.invokespecial 198, 3) := by decide +kernel
theorem dX7_needAccount_25 : decode cX7_needAccount 25 = .ok (.athrow, 1) := by decide +kernel
theorem dX7_needAccount_4 : decode cX7_needAccount 4 = .ok (.iload_n 1, 1) := by decide +kernel
theorem dX7_needAccount_5 : decode cX7_needAccount 5 = .ok (.aload_n 0, 1) := by decide +kernel
theorem dX7_needAccount_6 : decode cX7_needAccount 6 = .ok (.getfield 12, 3) := by decide +kernel
theorem dX7_needAccount_9 : decode cX7_needAccount 9 = .ok (.getfield 93, 3) := by decide +kernel
set_option maxHeartbeats 4000000 in
set_option maxRecDepth 100000 in
theorem z_58_needAccount (l : Launch) (hst : l.stackTraces = false) (D : va_G) (κ : K4) (E0 : Nat) (sz : Nat) (a : Nat → Nat) (x0 : Int32) (k_x0 : -2147483648 ≤ x0.toInt ∧ x0.toInt ≤ 2147483647) : XM l yX7_needAccount cX7_needAccount 2 none 6 82 1 6 E0 D κ (xw κ a) sz [.ref (a 0), .int x0] "java/lang/IndexOutOfBoundsException" (NV (xw κ a) sz) := by
  refine XM.of (by decide +kernel) (Nat.le_of_ble_eq_true rfl) ?_
  intro p e s m below meth c ls hC hk hno hsz hE hT H locs hG hl
  have hx := hC.1
  have hb := hC.2.1
  have hl : lv_has ls 2 [(0, .ref (a 0)), (1, .int x0)] := hl
  refine lv_iload_n hx hb dX7_needAccount_0 rfl (lv_at hl 1 rfl) ?_
  refine lv_if_lt (tgt := 15) hx hb dX7_needAccount_1 (by decide) (fun h1 => ?_) (fun h1 => ?_)
  · have g1 : x0.toInt < 0 := by have e1 : (0 : Int32).toInt = 0 := (by decide); have e9 := (Int32.lt_iff_toInt_lt.mp h1); omega
    exact th_IOW hC hst hE hT hno hk hG hl.1 (List.mem_of_getElem? (i := 1) rfl) w297 w298 dX7_needAccount_15 dX7_needAccount_18 dX7_needAccount_19 dX7_needAccount_22 dX7_needAccount_25 (Nat.le_of_ble_eq_true rfl) (Nat.le_of_ble_eq_true rfl) (Nat.le_of_ble_eq_true rfl) (Nat.le_of_ble_eq_true rfl) (Nat.le_of_ble_eq_true rfl) (Nat.le_of_ble_eq_true rfl)
  · have g1 : 0 ≤ x0.toInt := by have e1 : (0 : Int32).toInt = 0 := (by decide); have e9 := (mt Int32.lt_iff_toInt_lt.mpr h1); omega
    refine lv_iload_n hx hb dX7_needAccount_4 rfl (lv_at hl 1 rfl) ?_
    refine lv_aload_n hx hb dX7_needAccount_5 rfl (lv_at hl 0 rfl) ?_
    refine bw_get (C := RX7) (T := TX7) (N := 10) (ci := 7) (v := .ref (a 1)) 0 (by decide) 0 hC hG iwX7 (xw_0 κ a) rfl w16 rfl rfl dX7_needAccount_6 ?_
    refine bw_get (C := RX0) (T := TX0) (N := 6) (ci := 0) (v := .int 0) 5 (by decide) 1 hC hG iwX0 (xw_1 κ a) rfl w211 rfl rfl dX7_needAccount_9 ?_
    refine lv_icmp_lt (tgt := 26) hx hb dX7_needAccount_12 (by decide) (fun h12 => absurd h12 (mt Int32.lt_iff_toInt_lt.mp (by have e1 : (0 : Int32).toInt = 0 := (by decide); omega))) (fun _ => ?_)
    exact th_IOW hC hst hE hT hno hk hG hl.1 (List.mem_of_getElem? (i := 1) rfl) w297 w298 dX7_needAccount_15 dX7_needAccount_18 dX7_needAccount_19 dX7_needAccount_22 dX7_needAccount_25 (Nat.le_of_ble_eq_true rfl) (Nat.le_of_ble_eq_true rfl) (Nat.le_of_ble_eq_true rfl) (Nat.le_of_ble_eq_true rfl) (Nat.le_of_ble_eq_true rfl) (Nat.le_of_ble_eq_true rfl)
theorem dX7_floor_0 : decode cX7_floor 0 = .ok (.aload_n 0, 1) := by decide +kernel
theorem dX7_floor_1 : decode cX7_floor 1 = .ok (.iload_n 1, 1) := by decide +kernel
theorem dX7_floor_2 : decode cX7_floor 2 = .ok (.invokevirtual 102, 3) := by decide +kernel
set_option maxHeartbeats 4000000 in
set_option maxRecDepth 100000 in
theorem z_59_floor (l : Launch) (hst : l.stackTraces = false) (D : va_G) (κ : K4) (E0 : Nat) (sz : Nat) (a : Nat → Nat) (x0 : Int32) (x1 : Int32) (k_x0 : -2147483648 ≤ x0.toInt ∧ x0.toInt ≤ 2147483647) (k_x1 : -2147483648 ≤ x1.toInt ∧ x1.toInt ≤ 2147483647) : XM l yX7_floor cX7_floor 5 (some .long) 7 103 1 6 E0 D κ (xw κ a) sz [.ref (a 0), .int x0, .int x1] "java/lang/IndexOutOfBoundsException" (NL (xw κ a) sz) := by
  refine XM.of (by decide +kernel) (Nat.le_of_ble_eq_true rfl) ?_
  intro p e s m below meth c ls hC hk hno hsz hE hT H locs hG hl
  have hx := hC.1
  have hb := hC.2.1
  have hl : lv_has ls 5 [(0, .ref (a 0)), (1, .int x0), (2, .int x1)] := hl
  refine lv_aload_n hx hb dX7_floor_0 rfl (lv_at hl 0 rfl) ?_
  refine lv_iload_n hx hb dX7_floor_1 rfl (lv_at hl 1 rfl) ?_
  have cut2 : Cut (xw κ a) (xw κ a) ([]) := (Cut.all 45 rfl (by decide))
  refine zt_v hG cut2 (zx_V (k := 0) (ci := 7) (n := 1) (As := [.int x0]) (rest := []) hC hG hE hT cut2 (z_58_needAccount l hst D κ E0 H.size a x0 ⟨by omega, by omega⟩) rfl rfl w293 w2 w296 w294 w295 (by decide +kernel) ⟨Nat.le_of_ble_eq_true rfl, Nat.le_of_ble_eq_true rfl⟩ rfl hl.1 rfl (Nat.le_of_ble_eq_true rfl) dX7_floor_2 ⟨Nat.le_of_ble_eq_true rfl, Nat.le_of_ble_eq_true rfl⟩) (fun ce q9 H locs hG hz1 hz2 hz3 => ?_)
  exact zt_out hno hk hG hz1 hz2 hz3 (Nat.le_of_ble_eq_true rfl) (Nat.le_of_ble_eq_true rfl)
theorem dL_floor_0 : decode cL_floor 0 = .ok (.aload_n 3, 1) := by decide +kernel
theorem dL_floor_1 : decode cL_floor 1 = .ok (.iconst 0, 1) := by decide +kernel
theorem dL_floor_12 : decode cL_floor 12 = .ok (.astore 4, 2) := by decide +kernel
theorem dL_floor_14 : decode cL_floor 14 = .ok (.iconst 1, 1) := by decide +kernel
theorem dL_floor_15 : decode cL_floor 15 = .ok (.ireturn, 1) := by decide +kernel
theorem dL_floor_2 : decode cL_floor 2 = .ok (.aload_n 0, 1) := by decide +kernel
theorem dL_floor_3 : decode cL_floor 3 = .ok (.iload_n 1, 1) := by decide +kernel
theorem dL_floor_4 : decode cL_floor 4 = .ok (.iload_n 2, 1) := by decide +kernel
theorem dL_floor_5 : decode cL_floor 5 = .ok (.invokevirtual 20, 3) := by decide +kernel
set_option maxHeartbeats 4000000 in
set_option maxRecDepth 100000 in
theorem z_60_floor (l : Launch) (hst : l.stackTraces = false) (D : va_G) (κ : K4) (E0 : Nat) (sz : Nat) (a : Nat → Nat) (x0 : Int32) (x1 : Int32) (o : Nat) (k_x0 : -2147483648 ≤ x0.toInt ∧ x0.toInt ≤ 2147483647) (k_x1 : -2147483648 ≤ x1.toInt ∧ x1.toInt ≤ 2147483647) : NH l yL_floor cL_floor 5 (some .int) [(0, 9, 12, 24), (0, 9, 16, 13), (0, 9, 20, 15)] 8 127 1 6 E0 D κ (xw κ a ++ [(o, .inl (κ.2.1, 1, .inr (.inl (fun _ => 0))))]) sz [.ref (a 0), .int x0, .int x1, .ref o] (QI D κ (xw κ a ++ [(o, .inl (κ.2.1, 1, .inr (.inl (fun _ => 0))))]) sz 1 (fun qs : W1 => [(o, .inl (κ.2.1, 1, .inr (.inl (fun _ => 0))))])) := by
  refine NH.of (by decide +kernel) (Nat.le_of_ble_eq_true rfl) ?_
  intro p e s m below meth c ls hC hr hk htab hsz hE hT H locs hG hl
  have hx := hC.1
  have hb := hC.2.1
  have hl : lv_has ls 5 [(0, .ref (a 0)), (1, .int x0), (2, .int x1), (3, .ref o)] := hl
  refine lv_aload_n hx hb dL_floor_0 rfl (lv_at hl 3 rfl) ?_
  refine lv_iconst (v := 0) hx hb dL_floor_1 (by decide) ?_
  refine lv_aload_n hx hb dL_floor_2 rfl (lv_at hl 0 rfl) ?_
  refine lv_iload_n hx hb dL_floor_3 rfl (lv_at hl 1 rfl) ?_
  refine lv_iload_n hx hb dL_floor_4 rfl (lv_at hl 2 rfl) ?_
  have cut5 : Cut (xw κ a ++ [(o, .inl (κ.2.1, 1, .inr (.inl (fun _ => 0))))]) (xw κ a) ([(o, .inl (κ.2.1, 1, .inr (.inl (fun _ => 0))))]) := (Cut.one 45 rfl (by decide))
  refine zt_l hG cut5 (zx_V (k := 0) (ci := 7) (n := 2) (As := [.int x0, .int x1]) (rest := [.int 0, .ref o]) hC hG hE hT cut5 (z_59_floor l hst D κ E0 H.size a x0 x1 ⟨by omega, by omega⟩ ⟨by omega, by omega⟩) rfl rfl w286 w2 w289 w287 w288 (by decide +kernel) ⟨Nat.le_of_ble_eq_true rfl, Nat.le_of_ble_eq_true rfl⟩ rfl hl.1 rfl (Nat.le_of_ble_eq_true rfl) dL_floor_5 ⟨Nat.le_of_ble_eq_true rfl, Nat.le_of_ble_eq_true rfl⟩) (fun ce q9 H locs hG hz1 hz2 hz3 => ?_)
  refine vx_catch (own := RL) (name := "java/lang/IndexOutOfBoundsException") (E := "java/lang/IndexOutOfBoundsException") hC.2.2.2.1 [] ⟨0, 9, 12, 24⟩ [⟨0, 9, 16, 13⟩, ⟨0, 9, 20, 15⟩] htab (fun z hz => by simp at hz) (by decide) (by decide) (hC.2.2.2.2 _ w285) (va_Nw.use rfl (hT.1 ("java/lang/IndexOutOfBoundsException", "java/lang/IndexOutOfBoundsException") (by decide))) hz1 hz2 hz3 ?_
  refine lv_astore (lv' := [(4, .ref q9), (0, .ref (a 0)), (1, .int x0), (2, .int x1), (3, .ref o)]) hx hb dL_floor_12 hl (by decide) rfl (fun ls hl => ?_)
  refine lv_iconst (v := 1) hx hb dL_floor_14 (by decide) ?_
  exact ze_i (qs := fun _ => 0) hC hG rfl rfl hr rfl hk (Nat.le_of_ble_eq_true rfl) (Nat.le_of_ble_eq_true rfl) dL_floor_15
set_option maxHeartbeats 4000000 in
set_option maxRecDepth 100000 in
theorem z_61_isIn (l : Launch) (hst : l.stackTraces = false) (D : va_G) (κ : K4) (E0 : Nat) (sz : Nat) (b : Nat → Nat) (x0 : Int32) (k_x0 : -2147483648 ≤ x0.toInt ∧ x0.toInt ≤ 2147483647) : NM l yX14_isIn cX14_isIn 3 (some .boolean) 0 0 0 0 E0 D κ (mw κ b E0 0) sz [.int x0, .int 0, .int (-1)] (QI D κ (mw κ b E0 0) sz 0 (fun qs : W1 => mw κ b E0 0)) := by
  refine NM.of (by decide +kernel) (Nat.le_of_ble_eq_true rfl) ?_
  intro p e s m below meth c ls hC hr hk hin hsz hE hT H locs hG hl
  have hx := hC.1
  have hb := hC.2.1
  have hl : lv_has ls 3 [(0, .int x0), (1, .int 0), (2, .int (-1))] := hl
  refine lv_iload_n hx hb dX14_isIn_0 rfl (lv_at hl 0 rfl) ?_
  refine lv_iload_n hx hb dX14_isIn_1 rfl (lv_at hl 1 rfl) ?_
  refine lv_icmp_lt (tgt := 14) hx hb dX14_isIn_2 (by decide) (fun h2 => ?_) (fun h2 => ?_)
  · have g2 : x0.toInt < 0 := by have e1 : (0 : Int32).toInt = 0 := (by decide); have e9 := (Int32.lt_iff_toInt_lt.mp h2); omega
    refine lv_iconst (v := 0) hx hb dX14_isIn_14 (by decide) ?_
    exact ze_i (qs := fun _ => 0) hC hG rfl rfl hr rfl hk (Nat.le_of_ble_eq_true rfl) (Nat.le_of_ble_eq_true rfl) dX14_isIn_15
  · have g2 : 0 ≤ x0.toInt := by have e1 : (0 : Int32).toInt = 0 := (by decide); have e9 := (mt Int32.lt_iff_toInt_lt.mpr h2); omega
    refine lv_iload_n hx hb dX14_isIn_5 rfl (lv_at hl 0 rfl) ?_
    refine lv_iload_n hx hb dX14_isIn_6 rfl (lv_at hl 2 rfl) ?_
    refine lv_icmp_gt (tgt := 14) hx hb dX14_isIn_7 (by decide) (fun _ => ?_) (fun h7 => absurd (Int32.lt_iff_toInt_lt.mpr (by have e0 : ((-1) : Int32).toInt = -1 := (by decide); omega)) h7)
    refine lv_iconst (v := 0) hx hb dX14_isIn_14 (by decide) ?_
    exact ze_i (qs := fun _ => 0) hC hG rfl rfl hr rfl hk (Nat.le_of_ble_eq_true rfl) (Nat.le_of_ble_eq_true rfl) dX14_isIn_15
theorem dX14_isNo_0 : decode cX14_isNo 0 = .ok (.iload_n 1, 1) := by decide +kernel
theorem dX14_isNo_1 : decode cX14_isNo 1 = .ok (.iconst 0, 1) := by decide +kernel
theorem dX14_isNo_10 : decode cX14_isNo 10 = .ok (.isub, 1) := by decide +kernel
theorem dX14_isNo_11 : decode cX14_isNo 11 = .ok (.invokestatic 53, 3) := by decide +kernel
theorem dX14_isNo_14 : decode cX14_isNo 14 = .ok (.ifCond .ne 7, 3) := by decide +kernel
theorem dX14_isNo_17 : decode cX14_isNo 17 = .ok (.iconst 1, 1) := by decide +kernel
theorem dX14_isNo_18 : decode cX14_isNo 18 = .ok (.goto 4, 3) := by decide +kernel
theorem dX14_isNo_2 : decode cX14_isNo 2 = .ok (.aload_n 0, 1) := by decide +kernel
theorem dX14_isNo_22 : decode cX14_isNo 22 = .ok (.ireturn, 1) := by decide +kernel
theorem dX14_isNo_3 : decode cX14_isNo 3 = .ok (.getfield 16, 3) := by decide +kernel
theorem dX14_isNo_6 : decode cX14_isNo 6 = .ok (.invokevirtual 49, 3) := by decide +kernel
theorem dX14_isNo_9 : decode cX14_isNo 9 = .ok (.iconst 1, 1) := by decide +kernel
set_option maxHeartbeats 4000000 in
set_option maxRecDepth 100000 in
theorem z_62_isNo (l : Launch) (hst : l.stackTraces = false) (D : va_G) (κ : K4) (E0 : Nat) (sz : Nat) (b : Nat → Nat) (x0 : Int32) (k_x0 : -2147483648 ≤ x0.toInt ∧ x0.toInt ≤ 2147483647) : NM l yX14_isNo cX14_isNo 2 (some .boolean) 1 22 0 0 E0 D κ (mw κ b E0 0) sz [.ref (b 0), .int x0] (QI D κ (mw κ b E0 0) sz 1 (fun qs : W1 => mw κ b E0 0)) := by
  refine NM.of (by decide +kernel) (Nat.le_of_ble_eq_true rfl) ?_
  intro p e s m below meth c ls hC hr hk hin hsz hE hT H locs hG hl
  have hx := hC.1
  have hb := hC.2.1
  have hl : lv_has ls 2 [(0, .ref (b 0)), (1, .int x0)] := hl
  refine lv_iload_n hx hb dX14_isNo_0 rfl (lv_at hl 1 rfl) ?_
  refine lv_iconst (v := 0) hx hb dX14_isNo_1 (by decide) ?_
  refine lv_aload_n hx hb dX14_isNo_2 rfl (lv_at hl 0 rfl) ?_
  refine bw_get (C := RX14) (T := TX14) (N := 15) (ci := 9) (v := .ref (b 2)) 2 (by decide) 0 hC hG iwX14 rfl rfl w118 rfl rfl dX14_isNo_3 ?_
  have cut6 : Cut (mw κ b E0 0) (mw κ b E0 0) ([]) := (Cut.all 9 rfl (by decide))
  refine zc_i hG cut6 (zr_V (k := 2) (ci := 10) (n := 0) (As := []) (rest := [.int 0, .int x0]) hC hG hE hT cut6 (z_26_size l hst D κ E0 H.size (b 2) (b 0) (b 1) (b 3) (b 4) (b 5) (b 6) (b 7) (b 8)) rfl rfl w179 w117 w182 w180 w181 (by decide +kernel) ⟨Nat.le_of_ble_eq_true rfl, Nat.le_of_ble_eq_true rfl⟩ rfl hl.1 rfl (Nat.le_of_ble_eq_true rfl) dX14_isNo_6 ⟨Nat.le_of_ble_eq_true rfl, Nat.le_of_ble_eq_true rfl⟩) (fun z1 H locs hG => ?_)
  have hG : BW D κ (mw κ b E0 0) _ s H locs := hG
  refine lv_iconst (v := 1) hx hb dX14_isNo_9 (by decide) ?_
  refine lv_isub hx hb dX14_isNo_10 ?_
  refine W.eq (g2 := F0 m 11 ls [.int (-1), .int 0, .int x0]) rfl ?_
  have cut11 : Cut (mw κ b E0 0) (mw κ b E0 0) ([]) := (Cut.all 9 rfl (by decide))
  refine zc_i hG cut11 (zr_S (n := 3) (As := [.int x0, .int 0, .int (-1)]) (rest := []) hC hG hE hT cut11 (z_61_isIn l hst D κ E0 H.size b x0 ⟨by omega, by omega⟩) w167 w5 w169 w168 (by decide +kernel) ⟨Nat.le_of_ble_eq_true rfl, Nat.le_of_ble_eq_true rfl⟩ rfl hl.1 rfl (Nat.le_of_ble_eq_true rfl) dX14_isNo_11 ⟨Nat.le_of_ble_eq_true rfl, Nat.le_of_ble_eq_true rfl⟩) (fun z2 H locs hG => ?_)
  have hG : BW D κ (mw κ b E0 0) _ s H locs := hG
  refine lv_if_ne (tgt := 21) hx hb dX14_isNo_14 (by decide) (fun h14 => absurd (by decide) h14) (fun _ => ?_)
  refine lv_iconst (v := 1) hx hb dX14_isNo_17 (by decide) ?_
  refine lv_goto (tgt := 22) hx hb dX14_isNo_18 (by decide) ?_
  exact ze_i (qs := fun _ => 0) hC hG rfl rfl hr rfl hk (Nat.le_of_ble_eq_true rfl) (Nat.le_of_ble_eq_true rfl) dX14_isNo_22
theorem dX14_isNoAccount_0 : decode cX14_isNoAccount 0 = .ok (.aload_n 0, 1) := by decide +kernel
theorem dX14_isNoAccount_1 : decode cX14_isNoAccount 1 = .ok (.aload_n 0, 1) := by decide +kernel
theorem dX14_isNoAccount_10 : decode cX14_isNoAccount 10 = .ok (.ireturn, 1) := by decide +kernel
theorem dX14_isNoAccount_2 : decode cX14_isNoAccount 2 = .ok (.iload_n 1, 1) := by decide +kernel
theorem dX14_isNoAccount_3 : decode cX14_isNoAccount 3 = .ok (.invokevirtual 57, 3) := by decide +kernel
theorem dX14_isNoAccount_6 : decode cX14_isNoAccount 6 = .ok (.iconst 1, 1) := by decide +kernel
theorem dX14_isNoAccount_7 : decode cX14_isNoAccount 7 = .ok (.invokevirtual 61, 3) := by decide +kernel
set_option maxHeartbeats 4000000 in
set_option maxRecDepth 100000 in
theorem z_63_isNoAccount (l : Launch) (hst : l.stackTraces = false) (D : va_G) (κ : K4) (E0 : Nat) (sz : Nat) (b : Nat → Nat) (x0 : Int32) (k_x0 : -2147483648 ≤ x0.toInt ∧ x0.toInt ≤ 2147483647) : NM l yX14_isNoAccount cX14_isNoAccount 2 (some .boolean) 2 44 0 0 E0 D κ (mw κ b E0 0) sz [.ref (b 0), .int x0] (QI D κ (mw κ b E0 0) sz 1 (fun qs : W1 => mw κ b E0 1)) := by
  refine NM.of (by decide +kernel) (Nat.le_of_ble_eq_true rfl) ?_
  intro p e s m below meth c ls hC hr hk hin hsz hE hT H locs hG hl
  have hx := hC.1
  have hb := hC.2.1
  have hl : lv_has ls 2 [(0, .ref (b 0)), (1, .int x0)] := hl
  refine lv_aload_n hx hb dX14_isNoAccount_0 rfl (lv_at hl 0 rfl) ?_
  refine lv_aload_n hx hb dX14_isNoAccount_1 rfl (lv_at hl 0 rfl) ?_
  refine lv_iload_n hx hb dX14_isNoAccount_2 rfl (lv_at hl 1 rfl) ?_
  have cut3 : Cut (mw κ b E0 0) (mw κ b E0 0) ([]) := (Cut.all 9 rfl (by decide))
  refine zc_i hG cut3 (zr_V (k := 0) (ci := 9) (n := 1) (As := [.int x0]) (rest := [.ref (b 0)]) hC hG hE hT cut3 (z_62_isNo l hst D κ E0 H.size b x0 ⟨by omega, by omega⟩) rfl rfl w339 w5 w342 w340 w341 (by decide +kernel) ⟨Nat.le_of_ble_eq_true rfl, Nat.le_of_ble_eq_true rfl⟩ rfl hl.1 rfl (Nat.le_of_ble_eq_true rfl) dX14_isNoAccount_3 ⟨Nat.le_of_ble_eq_true rfl, Nat.le_of_ble_eq_true rfl⟩) (fun z1 H locs hG => ?_)
  have hG : BW D κ (mw κ b E0 0) _ s H locs := hG
  refine lv_iconst (v := 1) hx hb dX14_isNoAccount_6 (by decide) ?_
  have cut7 : Cut (mw κ b E0 0) (mw κ b E0 0) ([]) := (Cut.all 9 rfl (by decide))
  refine zc_i hG cut7 (zr_V (k := 0) (ci := 9) (n := 2) (As := [.int 1, .int 1]) (rest := []) hC hG hE hT cut7 (z_4_start l hst D κ E0 H.size b) rfl rfl w170 w5 w173 w171 w172 (by decide +kernel) ⟨Nat.le_of_ble_eq_true rfl, Nat.le_of_ble_eq_true rfl⟩ rfl hl.1 rfl (Nat.le_of_ble_eq_true rfl) dX14_isNoAccount_7 ⟨Nat.le_of_ble_eq_true rfl, Nat.le_of_ble_eq_true rfl⟩) (fun z2 H locs hG => ?_)
  have hG : BW D κ (mw κ b E0 1) _ s H locs := hG
  exact ze_i (qs := fun _ => 0) hC hG rfl rfl hr rfl hk (Nat.le_of_ble_eq_true rfl) (Nat.le_of_ble_eq_true rfl) dX14_isNoAccount_10
theorem dX14_floor_0 : decode cX14_floor 0 = .ok (.aload_n 0, 1) := by decide +kernel
theorem dX14_floor_1 : decode cX14_floor 1 = .ok (.iload_n 1, 1) := by decide +kernel
theorem dX14_floor_2 : decode cX14_floor 2 = .ok (.invokevirtual 157, 3) := by decide +kernel
theorem dX14_floor_32 : decode cX14_floor 32 = .ok (.lconst 0, 1) := by decide +kernel
theorem dX14_floor_33 : decode cX14_floor 33 = .ok (.lreturn, 1) := by decide +kernel
theorem dX14_floor_5 : decode cX14_floor 5 = .ok (.ifCond .ne 27, 3) := by decide +kernel
set_option maxHeartbeats 4000000 in
set_option maxRecDepth 100000 in
theorem z_64_floor (l : Launch) (hst : l.stackTraces = false) (D : va_G) (κ : K4) (E0 : Nat) (sz : Nat) (b : Nat → Nat) (x0 : Int32) (x1 : Int32) (k_x0 : -2147483648 ≤ x0.toInt ∧ x0.toInt ≤ 2147483647) (k_x1 : -2147483648 ≤ x1.toInt ∧ x1.toInt ≤ 2147483647) : NM l yX14_floor cX14_floor 4 (some .long) 3 65 0 0 E0 D κ (mw κ b E0 0) sz [.ref (b 0), .int x0, .int x1] (QL D κ (mw κ b E0 0) sz 0 (fun qs : W1 => mw κ b E0 1)) := by
  refine NM.of (by decide +kernel) (Nat.le_of_ble_eq_true rfl) ?_
  intro p e s m below meth c ls hC hr hk hin hsz hE hT H locs hG hl
  have hx := hC.1
  have hb := hC.2.1
  have hl : lv_has ls 4 [(0, .ref (b 0)), (1, .int x0), (2, .int x1)] := hl
  refine lv_aload_n hx hb dX14_floor_0 rfl (lv_at hl 0 rfl) ?_
  refine lv_iload_n hx hb dX14_floor_1 rfl (lv_at hl 1 rfl) ?_
  have cut2 : Cut (mw κ b E0 0) (mw κ b E0 0) ([]) := (Cut.all 9 rfl (by decide))
  refine zc_i hG cut2 (zr_V (k := 0) (ci := 9) (n := 1) (As := [.int x0]) (rest := []) hC hG hE hT cut2 (z_63_isNoAccount l hst D κ E0 H.size b x0 ⟨by omega, by omega⟩) rfl rfl w335 w5 w338 w336 w337 (by decide +kernel) ⟨Nat.le_of_ble_eq_true rfl, Nat.le_of_ble_eq_true rfl⟩ rfl hl.1 rfl (Nat.le_of_ble_eq_true rfl) dX14_floor_2 ⟨Nat.le_of_ble_eq_true rfl, Nat.le_of_ble_eq_true rfl⟩) (fun z1 H locs hG => ?_)
  have hG : BW D κ (mw κ b E0 1) _ s H locs := hG
  refine lv_if_ne (tgt := 32) hx hb dX14_floor_5 (by decide) (fun _ => ?_) (fun h5 => absurd h5 (by decide))
  refine lv_lconst (v := 0) hx hb dX14_floor_32 (by decide) ?_
  exact ze_l (qs := fun _ => 0) hC hG rfl rfl hr hk (Nat.le_of_ble_eq_true rfl) (Nat.le_of_ble_eq_true rfl) dX14_floor_33
theorem dX7_exchange_0 : decode cX7_exchange 0 = .ok (.aload_n 0, 1) := by decide +kernel
theorem dX7_exchange_1 : decode cX7_exchange 1 = .ok (.iload_n 1, 1) := by decide +kernel
theorem dX7_exchange_2 : decode cX7_exchange 2 = .ok (.invokevirtual 102, 3) := by decide +kernel
set_option maxHeartbeats 4000000 in
set_option maxRecDepth 100000 in
theorem z_65_exchange (l : Launch) (hst : l.stackTraces = false) (D : va_G) (κ : K4) (E0 : Nat) (sz : Nat) (a : Nat → Nat) (x0 : Int32) (k_x0 : -2147483648 ≤ x0.toInt ∧ x0.toInt ≤ 2147483647) : XM l yX7_exchange cX7_exchange 3 (some .int) 7 103 1 6 E0 D κ (xw κ a) sz [.ref (a 0), .int x0] "java/lang/IndexOutOfBoundsException" (NI (xw κ a) sz) := by
  refine XM.of (by decide +kernel) (Nat.le_of_ble_eq_true rfl) ?_
  intro p e s m below meth c ls hC hk hno hsz hE hT H locs hG hl
  have hx := hC.1
  have hb := hC.2.1
  have hl : lv_has ls 3 [(0, .ref (a 0)), (1, .int x0)] := hl
  refine lv_aload_n hx hb dX7_exchange_0 rfl (lv_at hl 0 rfl) ?_
  refine lv_iload_n hx hb dX7_exchange_1 rfl (lv_at hl 1 rfl) ?_
  have cut2 : Cut (xw κ a) (xw κ a) ([]) := (Cut.all 45 rfl (by decide))
  refine zt_v hG cut2 (zx_V (k := 0) (ci := 7) (n := 1) (As := [.int x0]) (rest := []) hC hG hE hT cut2 (z_58_needAccount l hst D κ E0 H.size a x0 ⟨by omega, by omega⟩) rfl rfl w293 w2 w296 w294 w295 (by decide +kernel) ⟨Nat.le_of_ble_eq_true rfl, Nat.le_of_ble_eq_true rfl⟩ rfl hl.1 rfl (Nat.le_of_ble_eq_true rfl) dX7_exchange_2 ⟨Nat.le_of_ble_eq_true rfl, Nat.le_of_ble_eq_true rfl⟩) (fun ce q9 H locs hG hz1 hz2 hz3 => ?_)
  exact zt_out hno hk hG hz1 hz2 hz3 (Nat.le_of_ble_eq_true rfl) (Nat.le_of_ble_eq_true rfl)
theorem dL_exchange_0 : decode cL_exchange 0 = .ok (.aload_n 2, 1) := by decide +kernel
theorem dL_exchange_1 : decode cL_exchange 1 = .ok (.iconst 0, 1) := by decide +kernel
theorem dL_exchange_12 : decode cL_exchange 12 = .ok (.astore_n 3, 1) := by decide +kernel
theorem dL_exchange_13 : decode cL_exchange 13 = .ok (.iconst 1, 1) := by decide +kernel
theorem dL_exchange_14 : decode cL_exchange 14 = .ok (.ireturn, 1) := by decide +kernel
theorem dL_exchange_2 : decode cL_exchange 2 = .ok (.aload_n 0, 1) := by decide +kernel
theorem dL_exchange_3 : decode cL_exchange 3 = .ok (.iload_n 1, 1) := by decide +kernel
theorem dL_exchange_4 : decode cL_exchange 4 = .ok (.invokevirtual 26, 3) := by decide +kernel
set_option maxHeartbeats 4000000 in
set_option maxRecDepth 100000 in
theorem z_66_exchange (l : Launch) (hst : l.stackTraces = false) (D : va_G) (κ : K4) (E0 : Nat) (sz : Nat) (a : Nat → Nat) (x0 : Int32) (o : Nat) (k_x0 : -2147483648 ≤ x0.toInt ∧ x0.toInt ≤ 2147483647) : NH l yL_exchange cL_exchange 4 (some .int) [(0, 9, 12, 24), (0, 9, 15, 13)] 8 125 1 6 E0 D κ (xw κ a ++ [(o, .inl (κ.2.1, 1, .inr (.inl (fun _ => 0))))]) sz [.ref (a 0), .int x0, .ref o] (QI D κ (xw κ a ++ [(o, .inl (κ.2.1, 1, .inr (.inl (fun _ => 0))))]) sz 1 (fun qs : W1 => [(o, .inl (κ.2.1, 1, .inr (.inl (fun _ => 0))))])) := by
  refine NH.of (by decide +kernel) (Nat.le_of_ble_eq_true rfl) ?_
  intro p e s m below meth c ls hC hr hk htab hsz hE hT H locs hG hl
  have hx := hC.1
  have hb := hC.2.1
  have hl : lv_has ls 4 [(0, .ref (a 0)), (1, .int x0), (2, .ref o)] := hl
  refine lv_aload_n hx hb dL_exchange_0 rfl (lv_at hl 2 rfl) ?_
  refine lv_iconst (v := 0) hx hb dL_exchange_1 (by decide) ?_
  refine lv_aload_n hx hb dL_exchange_2 rfl (lv_at hl 0 rfl) ?_
  refine lv_iload_n hx hb dL_exchange_3 rfl (lv_at hl 1 rfl) ?_
  have cut4 : Cut (xw κ a ++ [(o, .inl (κ.2.1, 1, .inr (.inl (fun _ => 0))))]) (xw κ a) ([(o, .inl (κ.2.1, 1, .inr (.inl (fun _ => 0))))]) := (Cut.one 45 rfl (by decide))
  refine zt_i hG cut4 (zx_V (k := 0) (ci := 7) (n := 1) (As := [.int x0]) (rest := [.int 0, .ref o]) hC hG hE hT cut4 (z_65_exchange l hst D κ E0 H.size a x0 ⟨by omega, by omega⟩) rfl rfl w382 w2 w385 w383 w384 (by decide +kernel) ⟨Nat.le_of_ble_eq_true rfl, Nat.le_of_ble_eq_true rfl⟩ rfl hl.1 rfl (Nat.le_of_ble_eq_true rfl) dL_exchange_4 ⟨Nat.le_of_ble_eq_true rfl, Nat.le_of_ble_eq_true rfl⟩) (fun ce q9 H locs hG hz1 hz2 hz3 => ?_)
  refine vx_catch (own := RL) (name := "java/lang/IndexOutOfBoundsException") (E := "java/lang/IndexOutOfBoundsException") hC.2.2.2.1 [] ⟨0, 9, 12, 24⟩ [⟨0, 9, 15, 13⟩] htab (fun z hz => by simp at hz) (by decide) (by decide) (hC.2.2.2.2 _ w285) (va_Nw.use rfl (hT.1 ("java/lang/IndexOutOfBoundsException", "java/lang/IndexOutOfBoundsException") (by decide))) hz1 hz2 hz3 ?_
  refine lv_astore_n (lv' := [(3, .ref q9), (0, .ref (a 0)), (1, .int x0), (2, .ref o)]) hx hb dL_exchange_12 rfl hl (by decide) rfl (fun ls hl => ?_)
  refine lv_iconst (v := 1) hx hb dL_exchange_13 (by decide) ?_
  exact ze_i (qs := fun _ => 0) hC hG rfl rfl hr rfl hk (Nat.le_of_ble_eq_true rfl) (Nat.le_of_ble_eq_true rfl) dL_exchange_14
theorem dX14_exchange_0 : decode cX14_exchange 0 = .ok (.aload_n 0, 1) := by decide +kernel
theorem dX14_exchange_1 : decode cX14_exchange 1 = .ok (.iload_n 1, 1) := by decide +kernel
theorem dX14_exchange_2 : decode cX14_exchange 2 = .ok (.invokevirtual 157, 3) := by decide +kernel
theorem dX14_exchange_38 : decode cX14_exchange 38 = .ok (.iconst 0, 1) := by decide +kernel
theorem dX14_exchange_39 : decode cX14_exchange 39 = .ok (.ireturn, 1) := by decide +kernel
theorem dX14_exchange_5 : decode cX14_exchange 5 = .ok (.ifCond .ne 33, 3) := by decide +kernel
set_option maxHeartbeats 4000000 in
set_option maxRecDepth 100000 in
theorem z_67_exchange (l : Launch) (hst : l.stackTraces = false) (D : va_G) (κ : K4) (E0 : Nat) (sz : Nat) (b : Nat → Nat) (x0 : Int32) (k_x0 : -2147483648 ≤ x0.toInt ∧ x0.toInt ≤ 2147483647) : NM l yX14_exchange cX14_exchange 3 (some .int) 3 65 0 0 E0 D κ (mw κ b E0 0) sz [.ref (b 0), .int x0] (QI D κ (mw κ b E0 0) sz 0 (fun qs : W1 => mw κ b E0 1)) := by
  refine NM.of (by decide +kernel) (Nat.le_of_ble_eq_true rfl) ?_
  intro p e s m below meth c ls hC hr hk hin hsz hE hT H locs hG hl
  have hx := hC.1
  have hb := hC.2.1
  have hl : lv_has ls 3 [(0, .ref (b 0)), (1, .int x0)] := hl
  refine lv_aload_n hx hb dX14_exchange_0 rfl (lv_at hl 0 rfl) ?_
  refine lv_iload_n hx hb dX14_exchange_1 rfl (lv_at hl 1 rfl) ?_
  have cut2 : Cut (mw κ b E0 0) (mw κ b E0 0) ([]) := (Cut.all 9 rfl (by decide))
  refine zc_i hG cut2 (zr_V (k := 0) (ci := 9) (n := 1) (As := [.int x0]) (rest := []) hC hG hE hT cut2 (z_63_isNoAccount l hst D κ E0 H.size b x0 ⟨by omega, by omega⟩) rfl rfl w335 w5 w338 w336 w337 (by decide +kernel) ⟨Nat.le_of_ble_eq_true rfl, Nat.le_of_ble_eq_true rfl⟩ rfl hl.1 rfl (Nat.le_of_ble_eq_true rfl) dX14_exchange_2 ⟨Nat.le_of_ble_eq_true rfl, Nat.le_of_ble_eq_true rfl⟩) (fun z1 H locs hG => ?_)
  have hG : BW D κ (mw κ b E0 1) _ s H locs := hG
  refine lv_if_ne (tgt := 38) hx hb dX14_exchange_5 (by decide) (fun _ => ?_) (fun h5 => absurd h5 (by decide))
  refine lv_iconst (v := 0) hx hb dX14_exchange_38 (by decide) ?_
  exact ze_i (qs := fun _ => 0) hC hG rfl rfl hr rfl hk (Nat.le_of_ble_eq_true rfl) (Nat.le_of_ble_eq_true rfl) dX14_exchange_39
theorem dX7_leg_0 : decode cX7_leg 0 = .ok (.aload_n 0, 1) := by decide +kernel
theorem dX7_leg_1 : decode cX7_leg 1 = .ok (.iload_n 1, 1) := by decide +kernel
theorem dX7_leg_2 : decode cX7_leg 2 = .ok (.invokevirtual 102, 3) := by decide +kernel
set_option maxHeartbeats 4000000 in
set_option maxRecDepth 100000 in
theorem z_68_leg (l : Launch) (hst : l.stackTraces = false) (D : va_G) (κ : K4) (E0 : Nat) (sz : Nat) (a : Nat → Nat) (x0 : Int32) (x1 : Int32) (k_x0 : -2147483648 ≤ x0.toInt ∧ x0.toInt ≤ 2147483647) (k_x1 : -2147483648 ≤ x1.toInt ∧ x1.toInt ≤ 2147483647) : XM l yX7_leg cX7_leg 3 (some .long) 7 103 1 6 E0 D κ (xw κ a) sz [.ref (a 0), .int x0, .int x1] "java/lang/IndexOutOfBoundsException" (NL (xw κ a) sz) := by
  refine XM.of (by decide +kernel) (Nat.le_of_ble_eq_true rfl) ?_
  intro p e s m below meth c ls hC hk hno hsz hE hT H locs hG hl
  have hx := hC.1
  have hb := hC.2.1
  have hl : lv_has ls 3 [(0, .ref (a 0)), (1, .int x0), (2, .int x1)] := hl
  refine lv_aload_n hx hb dX7_leg_0 rfl (lv_at hl 0 rfl) ?_
  refine lv_iload_n hx hb dX7_leg_1 rfl (lv_at hl 1 rfl) ?_
  have cut2 : Cut (xw κ a) (xw κ a) ([]) := (Cut.all 45 rfl (by decide))
  refine zt_v hG cut2 (zx_V (k := 0) (ci := 7) (n := 1) (As := [.int x0]) (rest := []) hC hG hE hT cut2 (z_58_needAccount l hst D κ E0 H.size a x0 ⟨by omega, by omega⟩) rfl rfl w293 w2 w296 w294 w295 (by decide +kernel) ⟨Nat.le_of_ble_eq_true rfl, Nat.le_of_ble_eq_true rfl⟩ rfl hl.1 rfl (Nat.le_of_ble_eq_true rfl) dX7_leg_2 ⟨Nat.le_of_ble_eq_true rfl, Nat.le_of_ble_eq_true rfl⟩) (fun ce q9 H locs hG hz1 hz2 hz3 => ?_)
  exact zt_out hno hk hG hz1 hz2 hz3 (Nat.le_of_ble_eq_true rfl) (Nat.le_of_ble_eq_true rfl)
theorem dL_leg_0 : decode cL_leg 0 = .ok (.aload_n 3, 1) := by decide +kernel
theorem dL_leg_1 : decode cL_leg 1 = .ok (.iconst 0, 1) := by decide +kernel
theorem dL_leg_12 : decode cL_leg 12 = .ok (.astore 4, 2) := by decide +kernel
theorem dL_leg_14 : decode cL_leg 14 = .ok (.iconst 1, 1) := by decide +kernel
theorem dL_leg_15 : decode cL_leg 15 = .ok (.ireturn, 1) := by decide +kernel
theorem dL_leg_2 : decode cL_leg 2 = .ok (.aload_n 0, 1) := by decide +kernel
theorem dL_leg_3 : decode cL_leg 3 = .ok (.iload_n 1, 1) := by decide +kernel
theorem dL_leg_4 : decode cL_leg 4 = .ok (.iload_n 2, 1) := by decide +kernel
theorem dL_leg_5 : decode cL_leg 5 = .ok (.invokevirtual 36, 3) := by decide +kernel
set_option maxHeartbeats 4000000 in
set_option maxRecDepth 100000 in
theorem z_69_leg (l : Launch) (hst : l.stackTraces = false) (D : va_G) (κ : K4) (E0 : Nat) (sz : Nat) (a : Nat → Nat) (x0 : Int32) (x1 : Int32) (o : Nat) (k_x0 : -2147483648 ≤ x0.toInt ∧ x0.toInt ≤ 2147483647) (k_x1 : -2147483648 ≤ x1.toInt ∧ x1.toInt ≤ 2147483647) : NH l yL_leg cL_leg 5 (some .int) [(0, 9, 12, 24), (0, 9, 16, 13), (0, 9, 20, 15)] 8 125 1 6 E0 D κ (xw κ a ++ [(o, .inl (κ.2.1, 1, .inr (.inl (fun _ => 0))))]) sz [.ref (a 0), .int x0, .int x1, .ref o] (QI D κ (xw κ a ++ [(o, .inl (κ.2.1, 1, .inr (.inl (fun _ => 0))))]) sz 1 (fun qs : W1 => [(o, .inl (κ.2.1, 1, .inr (.inl (fun _ => 0))))])) := by
  refine NH.of (by decide +kernel) (Nat.le_of_ble_eq_true rfl) ?_
  intro p e s m below meth c ls hC hr hk htab hsz hE hT H locs hG hl
  have hx := hC.1
  have hb := hC.2.1
  have hl : lv_has ls 5 [(0, .ref (a 0)), (1, .int x0), (2, .int x1), (3, .ref o)] := hl
  refine lv_aload_n hx hb dL_leg_0 rfl (lv_at hl 3 rfl) ?_
  refine lv_iconst (v := 0) hx hb dL_leg_1 (by decide) ?_
  refine lv_aload_n hx hb dL_leg_2 rfl (lv_at hl 0 rfl) ?_
  refine lv_iload_n hx hb dL_leg_3 rfl (lv_at hl 1 rfl) ?_
  refine lv_iload_n hx hb dL_leg_4 rfl (lv_at hl 2 rfl) ?_
  have cut5 : Cut (xw κ a ++ [(o, .inl (κ.2.1, 1, .inr (.inl (fun _ => 0))))]) (xw κ a) ([(o, .inl (κ.2.1, 1, .inr (.inl (fun _ => 0))))]) := (Cut.one 45 rfl (by decide))
  refine zt_l hG cut5 (zx_V (k := 0) (ci := 7) (n := 2) (As := [.int x0, .int x1]) (rest := [.int 0, .ref o]) hC hG hE hT cut5 (z_68_leg l hst D κ E0 H.size a x0 x1 ⟨by omega, by omega⟩ ⟨by omega, by omega⟩) rfl rfl w431 w2 w434 w432 w433 (by decide +kernel) ⟨Nat.le_of_ble_eq_true rfl, Nat.le_of_ble_eq_true rfl⟩ rfl hl.1 rfl (Nat.le_of_ble_eq_true rfl) dL_leg_5 ⟨Nat.le_of_ble_eq_true rfl, Nat.le_of_ble_eq_true rfl⟩) (fun ce q9 H locs hG hz1 hz2 hz3 => ?_)
  refine vx_catch (own := RL) (name := "java/lang/IndexOutOfBoundsException") (E := "java/lang/IndexOutOfBoundsException") hC.2.2.2.1 [] ⟨0, 9, 12, 24⟩ [⟨0, 9, 16, 13⟩, ⟨0, 9, 20, 15⟩] htab (fun z hz => by simp at hz) (by decide) (by decide) (hC.2.2.2.2 _ w285) (va_Nw.use rfl (hT.1 ("java/lang/IndexOutOfBoundsException", "java/lang/IndexOutOfBoundsException") (by decide))) hz1 hz2 hz3 ?_
  refine lv_astore (lv' := [(4, .ref q9), (0, .ref (a 0)), (1, .int x0), (2, .int x1), (3, .ref o)]) hx hb dL_leg_12 hl (by decide) rfl (fun ls hl => ?_)
  refine lv_iconst (v := 1) hx hb dL_leg_14 (by decide) ?_
  exact ze_i (qs := fun _ => 0) hC hG rfl rfl hr rfl hk (Nat.le_of_ble_eq_true rfl) (Nat.le_of_ble_eq_true rfl) dL_leg_15
theorem dX14_leg_0 : decode cX14_leg 0 = .ok (.aload_n 0, 1) := by decide +kernel
theorem dX14_leg_1 : decode cX14_leg 1 = .ok (.iload_n 1, 1) := by decide +kernel
theorem dX14_leg_2 : decode cX14_leg 2 = .ok (.invokevirtual 157, 3) := by decide +kernel
theorem dX14_leg_5 : decode cX14_leg 5 = .ok (.ifCond .ne 47, 3) := by decide +kernel
theorem dX14_leg_52 : decode cX14_leg 52 = .ok (.lconst 0, 1) := by decide +kernel
theorem dX14_leg_53 : decode cX14_leg 53 = .ok (.lreturn, 1) := by decide +kernel
set_option maxHeartbeats 4000000 in
set_option maxRecDepth 100000 in
theorem z_70_leg (l : Launch) (hst : l.stackTraces = false) (D : va_G) (κ : K4) (E0 : Nat) (sz : Nat) (b : Nat → Nat) (x0 : Int32) (x1 : Int32) (k_x0 : -2147483648 ≤ x0.toInt ∧ x0.toInt ≤ 2147483647) (k_x1 : -2147483648 ≤ x1.toInt ∧ x1.toInt ≤ 2147483647) : NM l yX14_leg cX14_leg 3 (some .long) 3 65 0 0 E0 D κ (mw κ b E0 0) sz [.ref (b 0), .int x0, .int x1] (QL D κ (mw κ b E0 0) sz 0 (fun qs : W1 => mw κ b E0 1)) := by
  refine NM.of (by decide +kernel) (Nat.le_of_ble_eq_true rfl) ?_
  intro p e s m below meth c ls hC hr hk hin hsz hE hT H locs hG hl
  have hx := hC.1
  have hb := hC.2.1
  have hl : lv_has ls 3 [(0, .ref (b 0)), (1, .int x0), (2, .int x1)] := hl
  refine lv_aload_n hx hb dX14_leg_0 rfl (lv_at hl 0 rfl) ?_
  refine lv_iload_n hx hb dX14_leg_1 rfl (lv_at hl 1 rfl) ?_
  have cut2 : Cut (mw κ b E0 0) (mw κ b E0 0) ([]) := (Cut.all 9 rfl (by decide))
  refine zc_i hG cut2 (zr_V (k := 0) (ci := 9) (n := 1) (As := [.int x0]) (rest := []) hC hG hE hT cut2 (z_63_isNoAccount l hst D κ E0 H.size b x0 ⟨by omega, by omega⟩) rfl rfl w335 w5 w338 w336 w337 (by decide +kernel) ⟨Nat.le_of_ble_eq_true rfl, Nat.le_of_ble_eq_true rfl⟩ rfl hl.1 rfl (Nat.le_of_ble_eq_true rfl) dX14_leg_2 ⟨Nat.le_of_ble_eq_true rfl, Nat.le_of_ble_eq_true rfl⟩) (fun z1 H locs hG => ?_)
  have hG : BW D κ (mw κ b E0 1) _ s H locs := hG
  refine lv_if_ne (tgt := 52) hx hb dX14_leg_5 (by decide) (fun _ => ?_) (fun h5 => absurd h5 (by decide))
  refine lv_lconst (v := 0) hx hb dX14_leg_52 (by decide) ?_
  exact ze_l (qs := fun _ => 0) hC hG rfl rfl hr hk (Nat.le_of_ble_eq_true rfl) (Nat.le_of_ble_eq_true rfl) dX14_leg_53
theorem dX3_has_0 : decode cX3_has 0 = .ok (.iload_n 1, 1) := by decide +kernel
theorem dX3_has_1 : decode cX3_has 1 = .ok (.ifCond .lt 15, 3) := by decide +kernel
theorem dX3_has_16 : decode cX3_has 16 = .ok (.iconst 0, 1) := by decide +kernel
theorem dX3_has_17 : decode cX3_has 17 = .ok (.ireturn, 1) := by decide +kernel
theorem dX3_has_4 : decode cX3_has 4 = .ok (.iload_n 1, 1) := by decide +kernel
theorem dX3_has_5 : decode cX3_has 5 = .ok (.aload_n 0, 1) := by decide +kernel
theorem dX3_has_6 : decode cX3_has 6 = .ok (.getfield 31, 3) := by decide +kernel
theorem dX3_has_9 : decode cX3_has 9 = .ok (.if_icmp .ge 7, 3) := by decide +kernel
set_option maxHeartbeats 4000000 in
set_option maxRecDepth 100000 in
theorem z_71_has (l : Launch) (hst : l.stackTraces = false) (D : va_G) (κ : K4) (E0 : Nat) (sz : Nat) (a : Nat → Nat) (x0 : Int32) (k_x0 : -2147483648 ≤ x0.toInt ∧ x0.toInt ≤ 2147483647) : NM l yX3_has cX3_has 2 (some .boolean) 0 0 0 0 E0 D κ (xw κ a) sz [.ref (a 12), .int x0] (QI D κ (xw κ a) sz 0 (fun qs : W1 => xw κ a)) := by
  refine NM.of (by decide +kernel) (Nat.le_of_ble_eq_true rfl) ?_
  intro p e s m below meth c ls hC hr hk hin hsz hE hT H locs hG hl
  have hx := hC.1
  have hb := hC.2.1
  have hl : lv_has ls 2 [(0, .ref (a 12)), (1, .int x0)] := hl
  refine lv_iload_n hx hb dX3_has_0 rfl (lv_at hl 1 rfl) ?_
  refine lv_if_lt (tgt := 16) hx hb dX3_has_1 (by decide) (fun h1 => ?_) (fun h1 => ?_)
  · have g1 : x0.toInt < 0 := by have e1 : (0 : Int32).toInt = 0 := (by decide); have e9 := (Int32.lt_iff_toInt_lt.mp h1); omega
    refine lv_iconst (v := 0) hx hb dX3_has_16 (by decide) ?_
    exact ze_i (qs := fun _ => 0) hC hG rfl rfl hr rfl hk (Nat.le_of_ble_eq_true rfl) (Nat.le_of_ble_eq_true rfl) dX3_has_17
  · have g1 : 0 ≤ x0.toInt := by have e1 : (0 : Int32).toInt = 0 := (by decide); have e9 := (mt Int32.lt_iff_toInt_lt.mpr h1); omega
    refine lv_iload_n hx hb dX3_has_4 rfl (lv_at hl 1 rfl) ?_
    refine lv_aload_n hx hb dX3_has_5 rfl (lv_at hl 0 rfl) ?_
    refine bw_get (C := RX3) (T := TX3) (N := 12) (ci := 3) (v := .int 0) 6 (by decide) 12 hC hG iwX3 (xw_12 κ a) rfl w79 rfl rfl dX3_has_6 ?_
    refine lv_icmp_ge (tgt := 16) hx hb dX3_has_9 (by decide) (fun _ => ?_) (fun h9 => absurd (Int32.le_iff_toInt_le.mpr (by have e1 : (0 : Int32).toInt = 0 := (by decide); omega)) h9)
    refine lv_iconst (v := 0) hx hb dX3_has_16 (by decide) ?_
    exact ze_i (qs := fun _ => 0) hC hG rfl rfl hr rfl hk (Nat.le_of_ble_eq_true rfl) (Nat.le_of_ble_eq_true rfl) dX3_has_17
