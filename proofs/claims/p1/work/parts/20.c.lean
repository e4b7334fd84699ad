set_option maxHeartbeats 4000000 in
set_option maxRecDepth 100000 in
theorem z_240_earned (l : Launch) (hst : l.stackTraces = false) (D : va_G) (κ : K4) (E0 : Nat) (sz : Nat) (a : Nat → Nat) (x0 : Int32) (x1 : Int32) (o : Nat) (k_x0 : 0 ≤ x0.toInt ∧ x0.toInt ≤ 364) (k_x1 : 365 ≤ x1.toInt ∧ x1.toInt ≤ 2147483647) : NH l yL_earned cL_earned 5 (some .int) [(0, 9, 12, 13)] 8 127 1 6 E0 D κ (xw κ a ++ [(o, .inl (κ.2.1, 1, .inr (.inl (fun _ => 0))))]) sz [.ref (a 0), .int x0, .int x1, .ref o] (QI D κ (xw κ a ++ [(o, .inl (κ.2.1, 1, .inr (.inl (fun _ => 0))))]) sz 1 (fun qs : W1 => [(o, .inl (κ.2.1, 1, .inr (.inl (fun _ => 0))))])) := by
  refine NH.of (by decide +kernel) (Nat.le_of_ble_eq_true rfl) ?_
  intro p e s m below meth c ls hC hr hk htab hsz hE hT H locs hG hl
  have hx := hC.1
  have hb := hC.2.1
  have hl : lv_has ls 5 [(0, .ref (a 0)), (1, .int x0), (2, .int x1), (3, .ref o)] := hl
  refine lv_aload_n hx hb dL_earned_0 rfl (lv_at hl 3 rfl) ?_
  refine lv_iconst (v := 0) hx hb dL_earned_1 (by decide) ?_
  refine lv_aload_n hx hb dL_earned_2 rfl (lv_at hl 0 rfl) ?_
  refine lv_iload_n hx hb dL_earned_3 rfl (lv_at hl 1 rfl) ?_
  refine lv_iload_n hx hb dL_earned_4 rfl (lv_at hl 2 rfl) ?_
  have cut5 : Cut (xw κ a ++ [(o, .inl (κ.2.1, 1, .inr (.inl (fun _ => 0))))]) (xw κ a) ([(o, .inl (κ.2.1, 1, .inr (.inl (fun _ => 0))))]) := (Cut.one 45 rfl (by decide))
  refine zt_l hG cut5 (zx_V (k := 0) (ci := 7) (n := 2) (As := [.int x0, .int x1]) (rest := [.int 0, .ref o]) hC hG hE hT cut5 (z_239_earned l hst D κ E0 H.size a x0 x1 ⟨by omega, by omega⟩ ⟨by omega, by omega⟩) rfl rfl w1133 w2 w1136 w1134 w1135 (by decide +kernel) ⟨Nat.le_of_ble_eq_true rfl, Nat.le_of_ble_eq_true rfl⟩ rfl hl.1 rfl (Nat.le_of_ble_eq_true rfl) dL_earned_5 ⟨Nat.le_of_ble_eq_true rfl, Nat.le_of_ble_eq_true rfl⟩) (fun ce q9 H locs hG hz1 hz2 hz3 => ?_)
  refine vx_catch (own := RL) (name := "java/lang/IllegalArgumentException") (E := "java/lang/IllegalArgumentException") hC.2.2.2.1 [] ⟨0, 9, 12, 13⟩ [] htab (fun z hz => by simp at hz) (by decide) (by decide) (hC.2.2.2.2 _ w145) (va_Nw.use rfl (hT.1 ("java/lang/IllegalArgumentException", "java/lang/IllegalArgumentException") (by decide))) hz1 hz2 hz3 ?_
  refine lv_astore (lv' := [(4, .ref q9), (0, .ref (a 0)), (1, .int x0), (2, .int x1), (3, .ref o)]) hx hb dL_earned_12 hl (by decide) rfl (fun ls hl => ?_)
  refine lv_iconst (v := 1) hx hb dL_earned_14 (by decide) ?_
  exact ze_i (qs := fun _ => 0) hC hG rfl rfl hr rfl hk (Nat.le_of_ble_eq_true rfl) (Nat.le_of_ble_eq_true rfl) dL_earned_15
set_option maxHeartbeats 4000000 in
set_option maxRecDepth 100000 in
theorem z_241_earned (l : Launch) (hst : l.stackTraces = false) (D : va_G) (κ : K4) (E0 : Nat) (sz : Nat) (b : Nat → Nat) (x0 : Int32) (x1 : Int32) (k_x0 : 0 ≤ x0.toInt ∧ x0.toInt ≤ 364) (k_x1 : 365 ≤ x1.toInt ∧ x1.toInt ≤ 2147483647) : NM l yX14_earned cX14_earned 8 (some .long) 2 44 0 0 E0 D κ (mw κ b E0 0) sz [.ref (b 0), .int x0, .int x1] (QL D κ (mw κ b E0 0) sz 0 (fun qs : W1 => mw κ b E0 1)) := by
  refine NM.of (by decide +kernel) (Nat.le_of_ble_eq_true rfl) ?_
  intro p e s m below meth c ls hC hr hk hin hsz hE hT H locs hG hl
  have hx := hC.1
  have hb := hC.2.1
  have hl : lv_has ls 8 [(0, .ref (b 0)), (1, .int x0), (2, .int x1)] := hl
  refine lv_aload_n hx hb dX14_earned_0 rfl (lv_at hl 0 rfl) ?_
  refine lv_iload_n hx hb dX14_earned_1 rfl (lv_at hl 1 rfl) ?_
  have cut2 : Cut (mw κ b E0 0) (mw κ b E0 0) ([]) := (Cut.all 9 rfl (by decide))
  refine zc_i hG cut2 (zr_S (n := 1) (As := [.int x0]) (rest := [.ref (b 0)]) hC hG hE hT cut2 (z_237_isNoDay l hst D κ E0 H.size b x0 ⟨by omega, by omega⟩) w1112 w5 w1114 w1113 (by decide +kernel) ⟨Nat.le_of_ble_eq_true rfl, Nat.le_of_ble_eq_true rfl⟩ rfl hl.1 rfl (Nat.le_of_ble_eq_true rfl) dX14_earned_2 ⟨Nat.le_of_ble_eq_true rfl, Nat.le_of_ble_eq_true rfl⟩) (fun z1 H locs hG => ?_)
  have hG : BW D κ (mw κ b E0 0) _ s H locs := hG
  refine lv_if_ne (tgt := 15) hx hb dX14_earned_5 (by decide) (fun h5 => absurd (by decide) h5) (fun _ => ?_)
  refine lv_iload_n hx hb dX14_earned_8 rfl (lv_at hl 2 rfl) ?_
  have cut9 : Cut (mw κ b E0 0) (mw κ b E0 0) ([]) := (Cut.all 9 rfl (by decide))
  refine zc_i hG cut9 (zr_S (n := 1) (As := [.int x1]) (rest := [.ref (b 0)]) hC hG hE hT cut9 (z_233_isNoDay l hst D κ E0 H.size b x1 ⟨by omega, by omega⟩) w1112 w5 w1114 w1113 (by decide +kernel) ⟨Nat.le_of_ble_eq_true rfl, Nat.le_of_ble_eq_true rfl⟩ rfl hl.1 rfl (Nat.le_of_ble_eq_true rfl) dX14_earned_9 ⟨Nat.le_of_ble_eq_true rfl, Nat.le_of_ble_eq_true rfl⟩) (fun z2 H locs hG => ?_)
  have hG : BW D κ (mw κ b E0 0) _ s H locs := hG
  refine lv_if_eq (tgt := 19) hx hb dX14_earned_12 (by decide) (fun h12 => absurd h12 (by decide)) (fun _ => ?_)
  refine lv_iconst (v := 1) hx hb dX14_earned_15 (by decide) ?_
  refine lv_goto (tgt := 20) hx hb dX14_earned_16 (by decide) ?_
  refine lv_iconst (v := 1) hx hb dX14_earned_20 (by decide) ?_
  have cut21 : Cut (mw κ b E0 0) (mw κ b E0 0) ([]) := (Cut.all 9 rfl (by decide))
  refine zc_i hG cut21 (zr_V (k := 0) (ci := 9) (n := 2) (As := [.int 1, .int 1]) (rest := []) hC hG hE hT cut21 (z_4_start l hst D κ E0 H.size b) rfl rfl w170 w5 w173 w171 w172 (by decide +kernel) ⟨Nat.le_of_ble_eq_true rfl, Nat.le_of_ble_eq_true rfl⟩ rfl hl.1 rfl (Nat.le_of_ble_eq_true rfl) dX14_earned_21 ⟨Nat.le_of_ble_eq_true rfl, Nat.le_of_ble_eq_true rfl⟩) (fun z3 H locs hG => ?_)
  have hG : BW D κ (mw κ b E0 1) _ s H locs := hG
  refine lv_if_eq (tgt := 29) hx hb dX14_earned_24 (by decide) (fun h24 => absurd h24 (by decide)) (fun _ => ?_)
  refine lv_lconst (v := 0) hx hb dX14_earned_27 (by decide) ?_
  exact ze_l (qs := fun _ => 0) hC hG rfl rfl hr hk (Nat.le_of_ble_eq_true rfl) (Nat.le_of_ble_eq_true rfl) dX14_earned_28
theorem dX7_earned_10 : decode cX7_earned 10 = .ok (.iconst 0, 1) := by decide +kernel
theorem dX7_earned_11 : decode cX7_earned 11 = .ok (.istore 5, 2) := by decide +kernel
theorem dX7_earned_13 : decode cX7_earned 13 = .ok (.iload 5, 2) := by decide +kernel
theorem dX7_earned_15 : decode cX7_earned 15 = .ok (.aload_n 0, 1) := by decide +kernel
theorem dX7_earned_16 : decode cX7_earned 16 = .ok (.getfield 12, 3) := by decide +kernel
theorem dX7_earned_19 : decode cX7_earned 19 = .ok (.getfield 93, 3) := by decide +kernel
theorem dX7_earned_22 : decode cX7_earned 22 = .ok (.if_icmp .ge 35, 3) := by decide +kernel
theorem dX7_earned_57 : decode cX7_earned 57 = .ok (.lload_n 3, 1) := by decide +kernel
theorem dX7_earned_58 : decode cX7_earned 58 = .ok (.lreturn, 1) := by decide +kernel
theorem dX7_earned_8 : decode cX7_earned 8 = .ok (.lconst 0, 1) := by decide +kernel
theorem dX7_earned_9 : decode cX7_earned 9 = .ok (.lstore_n 3, 1) := by decide +kernel
set_option maxHeartbeats 4000000 in
set_option maxRecDepth 100000 in
theorem z_242_earned (l : Launch) (hst : l.stackTraces = false) (D : va_G) (κ : K4) (E0 : Nat) (sz : Nat) (a : Nat → Nat) (x0 : Int32) (x1 : Int32) (k_x0 : 0 ≤ x0.toInt ∧ x0.toInt ≤ 364) (k_x1 : 0 ≤ x1.toInt ∧ x1.toInt ≤ 364) : NM l yX7_earned cX7_earned 6 (some .long) 1 20 0 0 E0 D κ (xw κ a) sz [.ref (a 0), .int x0, .int x1] (QL D κ (xw κ a) sz 0 (fun qs : W1 => xw κ a)) := by
  refine NM.of (by decide +kernel) (Nat.le_of_ble_eq_true rfl) ?_
  intro p e s m below meth c ls hC hr hk hin hsz hE hT H locs hG hl
  have hx := hC.1
  have hb := hC.2.1
  have hl : lv_has ls 6 [(0, .ref (a 0)), (1, .int x0), (2, .int x1)] := hl
  refine lv_iload_n hx hb dX7_earned_0 rfl (lv_at hl 1 rfl) ?_
  have cut1 : Cut (xw κ a) (xw κ a) ([]) := (Cut.all 45 rfl (by decide))
  refine zc_v hG cut1 (zr_S (n := 1) (As := [.int x0]) (rest := []) hC hG hE hT cut1 (z_145_needDay l hst D κ E0 H.size a x0 ⟨by omega, by omega⟩) w413 w2 w415 w414 (by decide +kernel) ⟨Nat.le_of_ble_eq_true rfl, Nat.le_of_ble_eq_true rfl⟩ rfl hl.1 rfl (Nat.le_of_ble_eq_true rfl) dX7_earned_1 ⟨Nat.le_of_ble_eq_true rfl, Nat.le_of_ble_eq_true rfl⟩) (fun z1 H locs hG => ?_)
  have hG : BW D κ (xw κ a) _ s H locs := hG
  refine lv_iload_n hx hb dX7_earned_4 rfl (lv_at hl 2 rfl) ?_
  have cut5 : Cut (xw κ a) (xw κ a) ([]) := (Cut.all 45 rfl (by decide))
  refine zc_v hG cut5 (zr_S (n := 1) (As := [.int x1]) (rest := []) hC hG hE hT cut5 (z_145_needDay l hst D κ E0 H.size a x1 ⟨by omega, by omega⟩) w413 w2 w415 w414 (by decide +kernel) ⟨Nat.le_of_ble_eq_true rfl, Nat.le_of_ble_eq_true rfl⟩ rfl hl.1 rfl (Nat.le_of_ble_eq_true rfl) dX7_earned_5 ⟨Nat.le_of_ble_eq_true rfl, Nat.le_of_ble_eq_true rfl⟩) (fun z2 H locs hG => ?_)
  have hG : BW D κ (xw κ a) _ s H locs := hG
  refine lv_lconst (v := 0) hx hb dX7_earned_8 (by decide) ?_
  refine lv_lstore_n (lv' := [(3, .long 0), (0, .ref (a 0)), (1, .int x0), (2, .int x1)]) hx hb dX7_earned_9 rfl hl (by decide) rfl (fun ls hl => ?_)
  refine lv_iconst (v := 0) hx hb dX7_earned_10 (by decide) ?_
  refine lv_istore (lv' := [(5, .int 0), (3, .long 0), (0, .ref (a 0)), (1, .int x0), (2, .int x1)]) hx hb dX7_earned_11 hl (by decide) rfl (fun ls hl => ?_)
  refine lv_iload hx hb dX7_earned_13 (lv_at hl 0 rfl) ?_
  refine lv_aload_n hx hb dX7_earned_15 rfl (lv_at hl 2 rfl) ?_
  refine bw_get (C := RX7) (T := TX7) (N := 10) (ci := 7) (v := .ref (a 1)) 0 (by decide) 0 hC hG iwX7 (xw_0 κ a) rfl w16 rfl rfl dX7_earned_16 ?_
  refine bw_get (C := RX0) (T := TX0) (N := 6) (ci := 0) (v := .int 0) 5 (by decide) 1 hC hG iwX0 (xw_1 κ a) rfl w211 rfl rfl dX7_earned_19 ?_
  refine lv_icmp_ge (tgt := 57) hx hb dX7_earned_22 (by decide) (fun _ => ?_) (fun h22 => absurd (by decide) h22)
  refine lv_lload_n hx hb dX7_earned_57 rfl (lv_at hl 1 rfl) ?_
  exact ze_l (qs := fun _ => 0) hC hG rfl rfl hr hk (Nat.le_of_ble_eq_true rfl) (Nat.le_of_ble_eq_true rfl) dX7_earned_58
theorem dL_earned_16 : decode cL_earned 16 = .ok (.iconst 0, 1) := by decide +kernel
theorem dL_earned_17 : decode cL_earned 17 = .ok (.ireturn, 1) := by decide +kernel
theorem dL_earned_8 : decode cL_earned 8 = .ok (.lastore, 1) := by decide +kernel
theorem dL_earned_9 : decode cL_earned 9 = .ok (.goto 7, 3) := by decide +kernel
set_option maxHeartbeats 4000000 in
set_option maxRecDepth 100000 in
theorem z_243_earned (l : Launch) (hst : l.stackTraces = false) (D : va_G) (κ : K4) (E0 : Nat) (sz : Nat) (a : Nat → Nat) (x0 : Int32) (x1 : Int32) (o : Nat) (k_x0 : 0 ≤ x0.toInt ∧ x0.toInt ≤ 364) (k_x1 : 0 ≤ x1.toInt ∧ x1.toInt ≤ 364) : NH l yL_earned cL_earned 5 (some .int) [(0, 9, 12, 13)] 2 45 0 0 E0 D κ (xw κ a ++ [(o, .inl (κ.2.1, 1, .inr (.inl (fun _ => 0))))]) sz [.ref (a 0), .int x0, .int x1, .ref o] (QI D κ (xw κ a ++ [(o, .inl (κ.2.1, 1, .inr (.inl (fun _ => 0))))]) sz 0 (fun qs : W1 => [(o, .inl (κ.2.1, 1, .inr (.inl (va_up (fun _ => 0) ((0 : Int32).toNatClampNeg) 0))))])) := by
  refine NH.of (by decide +kernel) (Nat.le_of_ble_eq_true rfl) ?_
  intro p e s m below meth c ls hC hr hk htab hsz hE hT H locs hG hl
  have hx := hC.1
  have hb := hC.2.1
  have hl : lv_has ls 5 [(0, .ref (a 0)), (1, .int x0), (2, .int x1), (3, .ref o)] := hl
  refine lv_aload_n hx hb dL_earned_0 rfl (lv_at hl 3 rfl) ?_
  refine lv_iconst (v := 0) hx hb dL_earned_1 (by decide) ?_
  refine lv_aload_n hx hb dL_earned_2 rfl (lv_at hl 0 rfl) ?_
  refine lv_iload_n hx hb dL_earned_3 rfl (lv_at hl 1 rfl) ?_
  refine lv_iload_n hx hb dL_earned_4 rfl (lv_at hl 2 rfl) ?_
  have cut5 : Cut (xw κ a ++ [(o, .inl (κ.2.1, 1, .inr (.inl (fun _ => 0))))]) (xw κ a) ([(o, .inl (κ.2.1, 1, .inr (.inl (fun _ => 0))))]) := (Cut.one 45 rfl (by decide))
  refine zc_l hG cut5 (zr_V (k := 0) (ci := 7) (n := 2) (As := [.int x0, .int x1]) (rest := [.int 0, .ref o]) hC hG hE hT cut5 (z_242_earned l hst D κ E0 H.size a x0 x1 ⟨by omega, by omega⟩ ⟨by omega, by omega⟩) rfl rfl w1133 w2 w1136 w1134 w1135 (by decide +kernel) ⟨Nat.le_of_ble_eq_true rfl, Nat.le_of_ble_eq_true rfl⟩ rfl hl.1 rfl (Nat.le_of_ble_eq_true rfl) dL_earned_5 ⟨Nat.le_of_ble_eq_true rfl, Nat.le_of_ble_eq_true rfl⟩) (fun z1 H locs hG => ?_)
  have hG : BW D κ (([(o, .inl (κ.2.1, 1, .inr (.inl (fun _ => 0))))]) ++ (xw κ a)) _ s H locs := hG
  refine zs_lst 0 hC hG rfl (vp_box (by have e0 : (0 : Int32).toInt = 0 := (by decide); omega) (by have e0 : (0 : Int32).toInt = 0 := (by decide); omega)) dL_earned_8 (fun H locs hG => ?_)
  have hG : BW D κ ((([(o, .inl (κ.2.1, 1, .inr (.inl (fun _ => 0))))]) ++ (xw κ a) : va_W).set 0 (o, .inl (κ.2.1, 1, .inr (.inl (va_up (fun _ => 0) ((0 : Int32).toNatClampNeg) 0))))) _ s H locs := hG
  refine lv_goto (tgt := 16) hx hb dL_earned_9 (by decide) ?_
  refine lv_iconst (v := 0) hx hb dL_earned_16 (by decide) ?_
  have hG := hG.at (ws' := [(o, .inl (κ.2.1, 1, .inr (.inl (va_up (fun _ => 0) ((0 : Int32).toNatClampNeg) 0))))]) [0] (by decide) rfl
  exact ze_i (qs := fun _ => 0) hC hG rfl rfl hr rfl hk (Nat.le_of_ble_eq_true rfl) (Nat.le_of_ble_eq_true rfl) dL_earned_17
theorem dX14_earned_166 : decode cX14_earned 166 = .ok (.lload_n 3, 1) := by decide +kernel
theorem dX14_earned_167 : decode cX14_earned 167 = .ok (.lreturn, 1) := by decide +kernel
theorem dX14_earned_19 : decode cX14_earned 19 = .ok (.iconst 0, 1) := by decide +kernel
theorem dX14_earned_29 : decode cX14_earned 29 = .ok (.lconst 0, 1) := by decide +kernel
theorem dX14_earned_30 : decode cX14_earned 30 = .ok (.lstore_n 3, 1) := by decide +kernel
theorem dX14_earned_31 : decode cX14_earned 31 = .ok (.iconst 0, 1) := by decide +kernel
theorem dX14_earned_32 : decode cX14_earned 32 = .ok (.istore 5, 2) := by decide +kernel
theorem dX14_earned_34 : decode cX14_earned 34 = .ok (.iload 5, 2) := by decide +kernel
theorem dX14_earned_36 : decode cX14_earned 36 = .ok (.aload_n 0, 1) := by decide +kernel
theorem dX14_earned_37 : decode cX14_earned 37 = .ok (.getfield 20, 3) := by decide +kernel
theorem dX14_earned_40 : decode cX14_earned 40 = .ok (.invokevirtual 49, 3) := by decide +kernel
theorem dX14_earned_43 : decode cX14_earned 43 = .ok (.if_icmp .ge 123, 3) := by decide +kernel
set_option maxHeartbeats 4000000 in
set_option maxRecDepth 100000 in
theorem z_244_earned (l : Launch) (hst : l.stackTraces = false) (D : va_G) (κ : K4) (E0 : Nat) (sz : Nat) (b : Nat → Nat) (x0 : Int32) (x1 : Int32) (k_x0 : 0 ≤ x0.toInt ∧ x0.toInt ≤ 364) (k_x1 : 0 ≤ x1.toInt ∧ x1.toInt ≤ 364) : NM l yX14_earned cX14_earned 8 (some .long) 2 44 0 0 E0 D κ (mw κ b E0 0) sz [.ref (b 0), .int x0, .int x1] (QL D κ (mw κ b E0 0) sz 0 (fun qs : W1 => mw κ b E0 0)) := by
  refine NM.of (by decide +kernel) (Nat.le_of_ble_eq_true rfl) ?_
  intro p e s m below meth c ls hC hr hk hin hsz hE hT H locs hG hl
  have hx := hC.1
  have hb := hC.2.1
  have hl : lv_has ls 8 [(0, .ref (b 0)), (1, .int x0), (2, .int x1)] := hl
  refine lv_aload_n hx hb dX14_earned_0 rfl (lv_at hl 0 rfl) ?_
  refine lv_iload_n hx hb dX14_earned_1 rfl (lv_at hl 1 rfl) ?_
  have cut2 : Cut (mw κ b E0 0) (mw κ b E0 0) ([]) := (Cut.all 9 rfl (by decide))
  refine zc_i hG cut2 (zr_S (n := 1) (As := [.int x0]) (rest := [.ref (b 0)]) hC hG hE hT cut2 (z_237_isNoDay l hst D κ E0 H.size b x0 ⟨by omega, by omega⟩) w1112 w5 w1114 w1113 (by decide +kernel) ⟨Nat.le_of_ble_eq_true rfl, Nat.le_of_ble_eq_true rfl⟩ rfl hl.1 rfl (Nat.le_of_ble_eq_true rfl) dX14_earned_2 ⟨Nat.le_of_ble_eq_true rfl, Nat.le_of_ble_eq_true rfl⟩) (fun z1 H locs hG => ?_)
  have hG : BW D κ (mw κ b E0 0) _ s H locs := hG
  refine lv_if_ne (tgt := 15) hx hb dX14_earned_5 (by decide) (fun h5 => absurd (by decide) h5) (fun _ => ?_)
  refine lv_iload_n hx hb dX14_earned_8 rfl (lv_at hl 2 rfl) ?_
  have cut9 : Cut (mw κ b E0 0) (mw κ b E0 0) ([]) := (Cut.all 9 rfl (by decide))
  refine zc_i hG cut9 (zr_S (n := 1) (As := [.int x1]) (rest := [.ref (b 0)]) hC hG hE hT cut9 (z_237_isNoDay l hst D κ E0 H.size b x1 ⟨by omega, by omega⟩) w1112 w5 w1114 w1113 (by decide +kernel) ⟨Nat.le_of_ble_eq_true rfl, Nat.le_of_ble_eq_true rfl⟩ rfl hl.1 rfl (Nat.le_of_ble_eq_true rfl) dX14_earned_9 ⟨Nat.le_of_ble_eq_true rfl, Nat.le_of_ble_eq_true rfl⟩) (fun z2 H locs hG => ?_)
  have hG : BW D κ (mw κ b E0 0) _ s H locs := hG
  refine lv_if_eq (tgt := 19) hx hb dX14_earned_12 (by decide) (fun _ => ?_) (fun h12 => absurd (by decide) h12)
  refine lv_iconst (v := 0) hx hb dX14_earned_19 (by decide) ?_
  refine lv_iconst (v := 1) hx hb dX14_earned_20 (by decide) ?_
  have cut21 : Cut (mw κ b E0 0) (mw κ b E0 0) ([]) := (Cut.all 9 rfl (by decide))
  refine zc_i hG cut21 (zr_V (k := 0) (ci := 9) (n := 2) (As := [.int 0, .int 1]) (rest := []) hC hG hE hT cut21 (z_25_start l hst D κ E0 H.size b) rfl rfl w170 w5 w173 w171 w172 (by decide +kernel) ⟨Nat.le_of_ble_eq_true rfl, Nat.le_of_ble_eq_true rfl⟩ rfl hl.1 rfl (Nat.le_of_ble_eq_true rfl) dX14_earned_21 ⟨Nat.le_of_ble_eq_true rfl, Nat.le_of_ble_eq_true rfl⟩) (fun z3 H locs hG => ?_)
  have hG : BW D κ (mw κ b E0 0) _ s H locs := hG
  refine lv_if_eq (tgt := 29) hx hb dX14_earned_24 (by decide) (fun _ => ?_) (fun h24 => absurd (by decide) h24)
  refine lv_lconst (v := 0) hx hb dX14_earned_29 (by decide) ?_
  refine lv_lstore_n (lv' := [(3, .long 0), (0, .ref (b 0)), (1, .int x0), (2, .int x1)]) hx hb dX14_earned_30 rfl hl (by decide) rfl (fun ls hl => ?_)
  refine lv_iconst (v := 0) hx hb dX14_earned_31 (by decide) ?_
  refine lv_istore (lv' := [(5, .int 0), (3, .long 0), (0, .ref (b 0)), (1, .int x0), (2, .int x1)]) hx hb dX14_earned_32 hl (by decide) rfl (fun ls hl => ?_)
  refine lv_iload hx hb dX14_earned_34 (lv_at hl 0 rfl) ?_
  refine lv_aload_n hx hb dX14_earned_36 rfl (lv_at hl 2 rfl) ?_
  refine bw_get (C := RX14) (T := TX14) (N := 15) (ci := 9) (v := .ref (b 3)) 3 (by decide) 0 hC hG iwX14 rfl rfl w119 rfl rfl dX14_earned_37 ?_
  have cut40 : Cut (mw κ b E0 0) (mw κ b E0 0) ([]) := (Cut.all 9 rfl (by decide))
  refine zc_i hG cut40 (zr_V (k := 3) (ci := 10) (n := 0) (As := []) (rest := [.int 0]) hC hG hE hT cut40 (z_74_size l hst D κ E0 H.size (b 3) (b 0) (b 1) (b 2) (b 4) (b 5) (b 6) (b 7) (b 8)) rfl rfl w179 w117 w182 w180 w181 (by decide +kernel) ⟨Nat.le_of_ble_eq_true rfl, Nat.le_of_ble_eq_true rfl⟩ rfl hl.1 rfl (Nat.le_of_ble_eq_true rfl) dX14_earned_40 ⟨Nat.le_of_ble_eq_true rfl, Nat.le_of_ble_eq_true rfl⟩) (fun z4 H locs hG => ?_)
  have hG : BW D κ (mw κ b E0 0) _ s H locs := hG
  refine lv_icmp_ge (tgt := 166) hx hb dX14_earned_43 (by decide) (fun _ => ?_) (fun h43 => absurd (by decide) h43)
  refine lv_lload_n hx hb dX14_earned_166 rfl (lv_at hl 1 rfl) ?_
  exact ze_l (qs := fun _ => 0) hC hG rfl rfl hr hk (Nat.le_of_ble_eq_true rfl) (Nat.le_of_ble_eq_true rfl) dX14_earned_167
theorem dX7_wouldClose_0 : decode cX7_wouldClose 0 = .ok (.iload_n 1, 1) := by decide +kernel
theorem dX7_wouldClose_1 : decode cX7_wouldClose 1 = .ok (.invokestatic 133, 3) := by decide +kernel
set_option maxHeartbeats 4000000 in
set_option maxRecDepth 100000 in
theorem z_245_wouldClose (l : Launch) (hst : l.stackTraces = false) (D : va_G) (κ : K4) (E0 : Nat) (sz : Nat) (a : Nat → Nat) (x0 : Int32) (k_x0 : -2147483648 ≤ x0.toInt ∧ x0.toInt ≤ -1) : XM l yX7_wouldClose cX7_wouldClose 2 (some .long) 7 102 1 6 E0 D κ (xw κ a) sz [.ref (a 0), .int x0] "java/lang/IllegalArgumentException" (NL (xw κ a) sz) := by
  refine XM.of (by decide +kernel) (Nat.le_of_ble_eq_true rfl) ?_
  intro p e s m below meth c ls hC hk hno hsz hE hT H locs hG hl
  have hx := hC.1
  have hb := hC.2.1
  have hl : lv_has ls 2 [(0, .ref (a 0)), (1, .int x0)] := hl
  refine lv_iload_n hx hb dX7_wouldClose_0 rfl (lv_at hl 1 rfl) ?_
  have cut1 : Cut (xw κ a) (xw κ a) ([]) := (Cut.all 45 rfl (by decide))
  refine zt_v hG cut1 (zx_S (n := 1) (As := [.int x0]) (rest := []) hC hG hE hT cut1 (z_137_needDay l hst D κ E0 H.size a x0 ⟨by omega, by omega⟩) w413 w2 w415 w414 (by decide +kernel) ⟨Nat.le_of_ble_eq_true rfl, Nat.le_of_ble_eq_true rfl⟩ rfl hl.1 rfl (Nat.le_of_ble_eq_true rfl) dX7_wouldClose_1 ⟨Nat.le_of_ble_eq_true rfl, Nat.le_of_ble_eq_true rfl⟩) (fun ce q9 H locs hG hz1 hz2 hz3 => ?_)
  exact zt_out hno hk hG hz1 hz2 hz3 (Nat.le_of_ble_eq_true rfl) (Nat.le_of_ble_eq_true rfl)
theorem dL_wouldClose_0 : decode cL_wouldClose 0 = .ok (.aload_n 2, 1) := by decide +kernel
theorem dL_wouldClose_1 : decode cL_wouldClose 1 = .ok (.iconst 0, 1) := by decide +kernel
theorem dL_wouldClose_11 : decode cL_wouldClose 11 = .ok (.astore_n 3, 1) := by decide +kernel
theorem dL_wouldClose_12 : decode cL_wouldClose 12 = .ok (.iconst 1, 1) := by decide +kernel
theorem dL_wouldClose_13 : decode cL_wouldClose 13 = .ok (.ireturn, 1) := by decide +kernel
theorem dL_wouldClose_2 : decode cL_wouldClose 2 = .ok (.aload_n 0, 1) := by decide +kernel
theorem dL_wouldClose_3 : decode cL_wouldClose 3 = .ok (.iload_n 1, 1) := by decide +kernel
theorem dL_wouldClose_4 : decode cL_wouldClose 4 = .ok (.invokevirtual 103, 3) := by decide +kernel
set_option maxHeartbeats 4000000 in
set_option maxRecDepth 100000 in
theorem z_246_wouldClose (l : Launch) (hst : l.stackTraces = false) (D : va_G) (κ : K4) (E0 : Nat) (sz : Nat) (a : Nat → Nat) (x0 : Int32) (o : Nat) (k_x0 : -2147483648 ≤ x0.toInt ∧ x0.toInt ≤ -1) : NH l yL_wouldClose cL_wouldClose 4 (some .int) [(0, 8, 11, 13)] 8 123 1 6 E0 D κ (xw κ a ++ [(o, .inl (κ.2.1, 1, .inr (.inl (fun _ => 0))))]) sz [.ref (a 0), .int x0, .ref o] (QI D κ (xw κ a ++ [(o, .inl (κ.2.1, 1, .inr (.inl (fun _ => 0))))]) sz 1 (fun qs : W1 => [(o, .inl (κ.2.1, 1, .inr (.inl (fun _ => 0))))])) := by
  refine NH.of (by decide +kernel) (Nat.le_of_ble_eq_true rfl) ?_
  intro p e s m below meth c ls hC hr hk htab hsz hE hT H locs hG hl
  have hx := hC.1
  have hb := hC.2.1
  have hl : lv_has ls 4 [(0, .ref (a 0)), (1, .int x0), (2, .ref o)] := hl
  refine lv_aload_n hx hb dL_wouldClose_0 rfl (lv_at hl 2 rfl) ?_
  refine lv_iconst (v := 0) hx hb dL_wouldClose_1 (by decide) ?_
  refine lv_aload_n hx hb dL_wouldClose_2 rfl (lv_at hl 0 rfl) ?_
  refine lv_iload_n hx hb dL_wouldClose_3 rfl (lv_at hl 1 rfl) ?_
  have cut4 : Cut (xw κ a ++ [(o, .inl (κ.2.1, 1, .inr (.inl (fun _ => 0))))]) (xw κ a) ([(o, .inl (κ.2.1, 1, .inr (.inl (fun _ => 0))))]) := (Cut.one 45 rfl (by decide))
  refine zt_l hG cut4 (zx_V (k := 0) (ci := 7) (n := 1) (As := [.int x0]) (rest := [.int 0, .ref o]) hC hG hE hT cut4 (z_245_wouldClose l hst D κ E0 H.size a x0 ⟨by omega, by omega⟩) rfl rfl w1174 w2 w1177 w1175 w1176 (by decide +kernel) ⟨Nat.le_of_ble_eq_true rfl, Nat.le_of_ble_eq_true rfl⟩ rfl hl.1 rfl (Nat.le_of_ble_eq_true rfl) dL_wouldClose_4 ⟨Nat.le_of_ble_eq_true rfl, Nat.le_of_ble_eq_true rfl⟩) (fun ce q9 H locs hG hz1 hz2 hz3 => ?_)
  refine vx_catch (own := RL) (name := "java/lang/IllegalArgumentException") (E := "java/lang/IllegalArgumentException") hC.2.2.2.1 [] ⟨0, 8, 11, 13⟩ [] htab (fun z hz => by simp at hz) (by decide) (by decide) (hC.2.2.2.2 _ w145) (va_Nw.use rfl (hT.1 ("java/lang/IllegalArgumentException", "java/lang/IllegalArgumentException") (by decide))) hz1 hz2 hz3 ?_
  refine lv_astore_n (lv' := [(3, .ref q9), (0, .ref (a 0)), (1, .int x0), (2, .ref o)]) hx hb dL_wouldClose_11 rfl hl (by decide) rfl (fun ls hl => ?_)
  refine lv_iconst (v := 1) hx hb dL_wouldClose_12 (by decide) ?_
  exact ze_i (qs := fun _ => 0) hC hG rfl rfl hr rfl hk (Nat.le_of_ble_eq_true rfl) (Nat.le_of_ble_eq_true rfl) dL_wouldClose_13
theorem dX14_wouldClose_0 : decode cX14_wouldClose 0 = .ok (.aload_n 0, 1) := by decide +kernel
theorem dX14_wouldClose_1 : decode cX14_wouldClose 1 = .ok (.iload_n 1, 1) := by decide +kernel
theorem dX14_wouldClose_12 : decode cX14_wouldClose 12 = .ok (.lconst 0, 1) := by decide +kernel
theorem dX14_wouldClose_13 : decode cX14_wouldClose 13 = .ok (.goto 13, 3) := by decide +kernel
theorem dX14_wouldClose_2 : decode cX14_wouldClose 2 = .ok (.invokestatic 342, 3) := by decide +kernel
theorem dX14_wouldClose_26 : decode cX14_wouldClose 26 = .ok (.lreturn, 1) := by decide +kernel
theorem dX14_wouldClose_5 : decode cX14_wouldClose 5 = .ok (.iconst 1, 1) := by decide +kernel
theorem dX14_wouldClose_6 : decode cX14_wouldClose 6 = .ok (.invokevirtual 61, 3) := by decide +kernel
theorem dX14_wouldClose_9 : decode cX14_wouldClose 9 = .ok (.ifCond .eq 7, 3) := by decide +kernel
set_option maxHeartbeats 4000000 in
set_option maxRecDepth 100000 in
theorem z_247_wouldClose (l : Launch) (hst : l.stackTraces = false) (D : va_G) (κ : K4) (E0 : Nat) (sz : Nat) (b : Nat → Nat) (x0 : Int32) (k_x0 : -2147483648 ≤ x0.toInt ∧ x0.toInt ≤ -1) : NM l yX14_wouldClose cX14_wouldClose 2 (some .long) 2 44 0 0 E0 D κ (mw κ b E0 0) sz [.ref (b 0), .int x0] (QL D κ (mw κ b E0 0) sz 0 (fun qs : W1 => mw κ b E0 1)) := by
  refine NM.of (by decide +kernel) (Nat.le_of_ble_eq_true rfl) ?_
  intro p e s m below meth c ls hC hr hk hin hsz hE hT H locs hG hl
  have hx := hC.1
  have hb := hC.2.1
  have hl : lv_has ls 2 [(0, .ref (b 0)), (1, .int x0)] := hl
  refine lv_aload_n hx hb dX14_wouldClose_0 rfl (lv_at hl 0 rfl) ?_
  refine lv_iload_n hx hb dX14_wouldClose_1 rfl (lv_at hl 1 rfl) ?_
  have cut2 : Cut (mw κ b E0 0) (mw κ b E0 0) ([]) := (Cut.all 9 rfl (by decide))
  refine zc_i hG cut2 (zr_S (n := 1) (As := [.int x0]) (rest := [.ref (b 0)]) hC hG hE hT cut2 (z_229_isNoDay l hst D κ E0 H.size b x0 ⟨by omega, by omega⟩) w1112 w5 w1114 w1113 (by decide +kernel) ⟨Nat.le_of_ble_eq_true rfl, Nat.le_of_ble_eq_true rfl⟩ rfl hl.1 rfl (Nat.le_of_ble_eq_true rfl) dX14_wouldClose_2 ⟨Nat.le_of_ble_eq_true rfl, Nat.le_of_ble_eq_true rfl⟩) (fun z1 H locs hG => ?_)
  have hG : BW D κ (mw κ b E0 0) _ s H locs := hG
  refine lv_iconst (v := 1) hx hb dX14_wouldClose_5 (by decide) ?_
  have cut6 : Cut (mw κ b E0 0) (mw κ b E0 0) ([]) := (Cut.all 9 rfl (by decide))
  refine zc_i hG cut6 (zr_V (k := 0) (ci := 9) (n := 2) (As := [.int 1, .int 1]) (rest := []) hC hG hE hT cut6 (z_4_start l hst D κ E0 H.size b) rfl rfl w170 w5 w173 w171 w172 (by decide +kernel) ⟨Nat.le_of_ble_eq_true rfl, Nat.le_of_ble_eq_true rfl⟩ rfl hl.1 rfl (Nat.le_of_ble_eq_true rfl) dX14_wouldClose_6 ⟨Nat.le_of_ble_eq_true rfl, Nat.le_of_ble_eq_true rfl⟩) (fun z2 H locs hG => ?_)
  have hG : BW D κ (mw κ b E0 1) _ s H locs := hG
  refine lv_if_eq (tgt := 16) hx hb dX14_wouldClose_9 (by decide) (fun h9 => absurd h9 (by decide)) (fun _ => ?_)
  refine lv_lconst (v := 0) hx hb dX14_wouldClose_12 (by decide) ?_
  refine lv_goto (tgt := 26) hx hb dX14_wouldClose_13 (by decide) ?_
  exact ze_l (qs := fun _ => 0) hC hG rfl rfl hr hk (Nat.le_of_ble_eq_true rfl) (Nat.le_of_ble_eq_true rfl) dX14_wouldClose_26
set_option maxHeartbeats 4000000 in
set_option maxRecDepth 100000 in
theorem z_248_wouldClose (l : Launch) (hst : l.stackTraces = false) (D : va_G) (κ : K4) (E0 : Nat) (sz : Nat) (a : Nat → Nat) (x0 : Int32) (k_x0 : 365 ≤ x0.toInt ∧ x0.toInt ≤ 2147483647) : XM l yX7_wouldClose cX7_wouldClose 2 (some .long) 7 102 1 6 E0 D κ (xw κ a) sz [.ref (a 0), .int x0] "java/lang/IllegalArgumentException" (NL (xw κ a) sz) := by
  refine XM.of (by decide +kernel) (Nat.le_of_ble_eq_true rfl) ?_
  intro p e s m below meth c ls hC hk hno hsz hE hT H locs hG hl
  have hx := hC.1
  have hb := hC.2.1
  have hl : lv_has ls 2 [(0, .ref (a 0)), (1, .int x0)] := hl
  refine lv_iload_n hx hb dX7_wouldClose_0 rfl (lv_at hl 1 rfl) ?_
  have cut1 : Cut (xw κ a) (xw κ a) ([]) := (Cut.all 45 rfl (by decide))
  refine zt_v hG cut1 (zx_S (n := 1) (As := [.int x0]) (rest := []) hC hG hE hT cut1 (z_141_needDay l hst D κ E0 H.size a x0 ⟨by omega, by omega⟩) w413 w2 w415 w414 (by decide +kernel) ⟨Nat.le_of_ble_eq_true rfl, Nat.le_of_ble_eq_true rfl⟩ rfl hl.1 rfl (Nat.le_of_ble_eq_true rfl) dX7_wouldClose_1 ⟨Nat.le_of_ble_eq_true rfl, Nat.le_of_ble_eq_true rfl⟩) (fun ce q9 H locs hG hz1 hz2 hz3 => ?_)
  exact zt_out hno hk hG hz1 hz2 hz3 (Nat.le_of_ble_eq_true rfl) (Nat.le_of_ble_eq_true rfl)
set_option maxHeartbeats 4000000 in
set_option maxRecDepth 100000 in
theorem z_249_wouldClose (l : Launch) (hst : l.stackTraces = false) (D : va_G) (κ : K4) (E0 : Nat) (sz : Nat) (a : Nat → Nat) (x0 : Int32) (o : Nat) (k_x0 : 365 ≤ x0.toInt ∧ x0.toInt ≤ 2147483647) : NH l yL_wouldClose cL_wouldClose 4 (some .int) [(0, 8, 11, 13)] 8 123 1 6 E0 D κ (xw κ a ++ [(o, .inl (κ.2.1, 1, .inr (.inl (fun _ => 0))))]) sz [.ref (a 0), .int x0, .ref o] (QI D κ (xw κ a ++ [(o, .inl (κ.2.1, 1, .inr (.inl (fun _ => 0))))]) sz 1 (fun qs : W1 => [(o, .inl (κ.2.1, 1, .inr (.inl (fun _ => 0))))])) := by
  refine NH.of (by decide +kernel) (Nat.le_of_ble_eq_true rfl) ?_
  intro p e s m below meth c ls hC hr hk htab hsz hE hT H locs hG hl
  have hx := hC.1
  have hb := hC.2.1
  have hl : lv_has ls 4 [(0, .ref (a 0)), (1, .int x0), (2, .ref o)] := hl
  refine lv_aload_n hx hb dL_wouldClose_0 rfl (lv_at hl 2 rfl) ?_
  refine lv_iconst (v := 0) hx hb dL_wouldClose_1 (by decide) ?_
  refine lv_aload_n hx hb dL_wouldClose_2 rfl (lv_at hl 0 rfl) ?_
  refine lv_iload_n hx hb dL_wouldClose_3 rfl (lv_at hl 1 rfl) ?_
  have cut4 : Cut (xw κ a ++ [(o, .inl (κ.2.1, 1, .inr (.inl (fun _ => 0))))]) (xw κ a) ([(o, .inl (κ.2.1, 1, .inr (.inl (fun _ => 0))))]) := (Cut.one 45 rfl (by decide))
  refine zt_l hG cut4 (zx_V (k := 0) (ci := 7) (n := 1) (As := [.int x0]) (rest := [.int 0, .ref o]) hC hG hE hT cut4 (z_248_wouldClose l hst D κ E0 H.size a x0 ⟨by omega, by omega⟩) rfl rfl w1174 w2 w1177 w1175 w1176 (by decide +kernel) ⟨Nat.le_of_ble_eq_true rfl, Nat.le_of_ble_eq_true rfl⟩ rfl hl.1 rfl (Nat.le_of_ble_eq_true rfl) dL_wouldClose_4 ⟨Nat.le_of_ble_eq_true rfl, Nat.le_of_ble_eq_true rfl⟩) (fun ce q9 H locs hG hz1 hz2 hz3 => ?_)
  refine vx_catch (own := RL) (name := "java/lang/IllegalArgumentException") (E := "java/lang/IllegalArgumentException") hC.2.2.2.1 [] ⟨0, 8, 11, 13⟩ [] htab (fun z hz => by simp at hz) (by decide) (by decide) (hC.2.2.2.2 _ w145) (va_Nw.use rfl (hT.1 ("java/lang/IllegalArgumentException", "java/lang/IllegalArgumentException") (by decide))) hz1 hz2 hz3 ?_
  refine lv_astore_n (lv' := [(3, .ref q9), (0, .ref (a 0)), (1, .int x0), (2, .ref o)]) hx hb dL_wouldClose_11 rfl hl (by decide) rfl (fun ls hl => ?_)
  refine lv_iconst (v := 1) hx hb dL_wouldClose_12 (by decide) ?_
  exact ze_i (qs := fun _ => 0) hC hG rfl rfl hr rfl hk (Nat.le_of_ble_eq_true rfl) (Nat.le_of_ble_eq_true rfl) dL_wouldClose_13
set_option maxHeartbeats 4000000 in
set_option maxRecDepth 100000 in
theorem z_250_wouldClose (l : Launch) (hst : l.stackTraces = false) (D : va_G) (κ : K4) (E0 : Nat) (sz : Nat) (b : Nat → Nat) (x0 : Int32) (k_x0 : 365 ≤ x0.toInt ∧ x0.toInt ≤ 2147483647) : NM l yX14_wouldClose cX14_wouldClose 2 (some .long) 2 44 0 0 E0 D κ (mw κ b E0 0) sz [.ref (b 0), .int x0] (QL D κ (mw κ b E0 0) sz 0 (fun qs : W1 => mw κ b E0 1)) := by
  refine NM.of (by decide +kernel) (Nat.le_of_ble_eq_true rfl) ?_
  intro p e s m below meth c ls hC hr hk hin hsz hE hT H locs hG hl
  have hx := hC.1
  have hb := hC.2.1
  have hl : lv_has ls 2 [(0, .ref (b 0)), (1, .int x0)] := hl
  refine lv_aload_n hx hb dX14_wouldClose_0 rfl (lv_at hl 0 rfl) ?_
  refine lv_iload_n hx hb dX14_wouldClose_1 rfl (lv_at hl 1 rfl) ?_
  have cut2 : Cut (mw κ b E0 0) (mw κ b E0 0) ([]) := (Cut.all 9 rfl (by decide))
  refine zc_i hG cut2 (zr_S (n := 1) (As := [.int x0]) (rest := [.ref (b 0)]) hC hG hE hT cut2 (z_233_isNoDay l hst D κ E0 H.size b x0 ⟨by omega, by omega⟩) w1112 w5 w1114 w1113 (by decide +kernel) ⟨Nat.le_of_ble_eq_true rfl, Nat.le_of_ble_eq_true rfl⟩ rfl hl.1 rfl (Nat.le_of_ble_eq_true rfl) dX14_wouldClose_2 ⟨Nat.le_of_ble_eq_true rfl, Nat.le_of_ble_eq_true rfl⟩) (fun z1 H locs hG => ?_)
  have hG : BW D κ (mw κ b E0 0) _ s H locs := hG
  refine lv_iconst (v := 1) hx hb dX14_wouldClose_5 (by decide) ?_
  have cut6 : Cut (mw κ b E0 0) (mw κ b E0 0) ([]) := (Cut.all 9 rfl (by decide))
  refine zc_i hG cut6 (zr_V (k := 0) (ci := 9) (n := 2) (As := [.int 1, .int 1]) (rest := []) hC hG hE hT cut6 (z_4_start l hst D κ E0 H.size b) rfl rfl w170 w5 w173 w171 w172 (by decide +kernel) ⟨Nat.le_of_ble_eq_true rfl, Nat.le_of_ble_eq_true rfl⟩ rfl hl.1 rfl (Nat.le_of_ble_eq_true rfl) dX14_wouldClose_6 ⟨Nat.le_of_ble_eq_true rfl, Nat.le_of_ble_eq_true rfl⟩) (fun z2 H locs hG => ?_)
  have hG : BW D κ (mw κ b E0 1) _ s H locs := hG
  refine lv_if_eq (tgt := 16) hx hb dX14_wouldClose_9 (by decide) (fun h9 => absurd h9 (by decide)) (fun _ => ?_)
  refine lv_lconst (v := 0) hx hb dX14_wouldClose_12 (by decide) ?_
  refine lv_goto (tgt := 26) hx hb dX14_wouldClose_13 (by decide) ?_
  exact ze_l (qs := fun _ => 0) hC hG rfl rfl hr hk (Nat.le_of_ble_eq_true rfl) (Nat.le_of_ble_eq_true rfl) dX14_wouldClose_26
theorem dX7_planClosing_0 : decode cX7_planClosing 0 = .ok (.aload_n 0, 1) := by decide +kernel
theorem dX7_planClosing_1 : decode cX7_planClosing 1 = .ok (.getfield 59, 3) := by decide +kernel
theorem dX7_planClosing_10 : decode cX7_planClosing 10 = .ok (.iload_n 2, 1) := by decide +kernel
theorem dX7_planClosing_11 : decode cX7_planClosing 11 = .ok (.aload_n 0, 1) := by decide +kernel
theorem dX7_planClosing_12 : decode cX7_planClosing 12 = .ok (.getfield 12, 3) := by decide +kernel
theorem dX7_planClosing_15 : decode cX7_planClosing 15 = .ok (.getfield 93, 3) := by decide +kernel
theorem dX7_planClosing_18 : decode cX7_planClosing 18 = .ok (.if_icmp .ge 43, 3) := by decide +kernel
theorem dX7_planClosing_4 : decode cX7_planClosing 4 = .ok (.iconst 0, 1) := by decide +kernel
theorem dX7_planClosing_5 : decode cX7_planClosing 5 = .ok (.putfield 141, 3) := by decide +kernel
theorem dX7_planClosing_61 : decode cX7_planClosing 61 = .ok (.return_, 1) := by decide +kernel
theorem dX7_planClosing_8 : decode cX7_planClosing 8 = .ok (.iconst 0, 1) := by decide +kernel
theorem dX7_planClosing_9 : decode cX7_planClosing 9 = .ok (.istore_n 2, 1) := by decide +kernel
set_option maxHeartbeats 4000000 in
set_option maxRecDepth 100000 in
theorem z_251_planClosing (l : Launch) (hst : l.stackTraces = false) (D : va_G) (κ : K4) (E0 : Nat) (sz : Nat) (a : Nat → Nat) (x0 : Int32) (k_x0 : 0 ≤ x0.toInt ∧ x0.toInt ≤ 364) : NM l yX7_planClosing cX7_planClosing 5 none 0 0 0 0 E0 D κ (xw κ a) sz [.ref (a 0), .int x0] (QV D κ (xw κ a) sz (fun qs : W1 => xw κ a)) := by
  refine NM.of (by decide +kernel) (Nat.le_of_ble_eq_true rfl) ?_
  intro p e s m below meth c ls hC hr hk hin hsz hE hT H locs hG hl
  have hx := hC.1
  have hb := hC.2.1
  have hl : lv_has ls 5 [(0, .ref (a 0)), (1, .int x0)] := hl
  refine lv_aload_n hx hb dX7_planClosing_0 rfl (lv_at hl 0 rfl) ?_
  refine bw_get (C := RX7) (T := TX7) (N := 10) (ci := 7) (v := .ref (a 41)) 7 (by decide) 0 hC hG iwX7 (xw_0 κ a) rfl w41 rfl rfl dX7_planClosing_1 ?_
  refine lv_iconst (v := 0) hx hb dX7_planClosing_4 (by decide) ?_
  refine bw_put (C := RX4) (T := TX4) (N := 4) (ci := 4) (ty0 := tyX4) (ty := .int) (v := .int 0) 3 (by decide) 41 hC hG iwX4 tyX4_ok nmX4 rfl rfl w412 rfl (Or.inl rfl) (by decide +kernel) rfl rfl (Nat.le_of_ble_eq_true rfl) dX7_planClosing_5 (fun H locs hG => ?_)
  have hG : BW D κ (xw κ a) _ s H locs := hG
  refine lv_iconst (v := 0) hx hb dX7_planClosing_8 (by decide) ?_
  refine lv_istore_n (lv' := [(2, .int 0), (0, .ref (a 0)), (1, .int x0)]) hx hb dX7_planClosing_9 rfl hl (by decide) rfl (fun ls hl => ?_)
  refine lv_iload_n hx hb dX7_planClosing_10 rfl (lv_at hl 0 rfl) ?_
  refine lv_aload_n hx hb dX7_planClosing_11 rfl (lv_at hl 1 rfl) ?_
  refine bw_get (C := RX7) (T := TX7) (N := 10) (ci := 7) (v := .ref (a 1)) 0 (by decide) 0 hC hG iwX7 (xw_0 κ a) rfl w16 rfl rfl dX7_planClosing_12 ?_
  refine bw_get (C := RX0) (T := TX0) (N := 6) (ci := 0) (v := .int 0) 5 (by decide) 1 hC hG iwX0 (xw_1 κ a) rfl w211 rfl rfl dX7_planClosing_15 ?_
  refine lv_icmp_ge (tgt := 61) hx hb dX7_planClosing_18 (by decide) (fun _ => ?_) (fun h18 => absurd (by decide) h18)
  exact ze_v (qs := fun _ => 0) hC hG rfl hr hk (Nat.le_of_ble_eq_true rfl) (Nat.le_of_ble_eq_true rfl) dX7_planClosing_61
theorem dX4_worthSum_0 : decode cX4_worthSum 0 = .ok (.lconst 0, 1) := by decide +kernel
theorem dX4_worthSum_1 : decode cX4_worthSum 1 = .ok (.lstore_n 1, 1) := by decide +kernel
theorem dX4_worthSum_2 : decode cX4_worthSum 2 = .ok (.iconst 0, 1) := by decide +kernel
theorem dX4_worthSum_27 : decode cX4_worthSum 27 = .ok (.lload_n 1, 1) := by decide +kernel
theorem dX4_worthSum_28 : decode cX4_worthSum 28 = .ok (.lreturn, 1) := by decide +kernel
theorem dX4_worthSum_3 : decode cX4_worthSum 3 = .ok (.istore_n 3, 1) := by decide +kernel
theorem dX4_worthSum_4 : decode cX4_worthSum 4 = .ok (.iload_n 3, 1) := by decide +kernel
theorem dX4_worthSum_5 : decode cX4_worthSum 5 = .ok (.aload_n 0, 1) := by decide +kernel
theorem dX4_worthSum_6 : decode cX4_worthSum 6 = .ok (.getfield 22, 3) := by decide +kernel
theorem dX4_worthSum_9 : decode cX4_worthSum 9 = .ok (.if_icmp .ge 18, 3) := by decide +kernel
set_option maxHeartbeats 4000000 in
set_option maxRecDepth 100000 in
theorem z_252_worthSum (l : Launch) (hst : l.stackTraces = false) (D : va_G) (κ : K4) (E0 : Nat) (sz : Nat) (a : Nat → Nat) : NM l yX4_worthSum cX4_worthSum 4 (some .long) 0 0 0 0 E0 D κ (xw κ a) sz [.ref (a 41)] (QL D κ (xw κ a) sz 0 (fun qs : W1 => xw κ a)) := by
  refine NM.of (by decide +kernel) (Nat.le_of_ble_eq_true rfl) ?_
  intro p e s m below meth c ls hC hr hk hin hsz hE hT H locs hG hl
  have hx := hC.1
  have hb := hC.2.1
  have hl : lv_has ls 4 [(0, .ref (a 41))] := hl
  refine lv_lconst (v := 0) hx hb dX4_worthSum_0 (by decide) ?_
  refine lv_lstore_n (lv' := [(1, .long 0), (0, .ref (a 41))]) hx hb dX4_worthSum_1 rfl hl (by decide) rfl (fun ls hl => ?_)
  refine lv_iconst (v := 0) hx hb dX4_worthSum_2 (by decide) ?_
  refine lv_istore_n (lv' := [(3, .int 0), (1, .long 0), (0, .ref (a 41))]) hx hb dX4_worthSum_3 rfl hl (by decide) rfl (fun ls hl => ?_)
  refine lv_iload_n hx hb dX4_worthSum_4 rfl (lv_at hl 0 rfl) ?_
  refine lv_aload_n hx hb dX4_worthSum_5 rfl (lv_at hl 2 rfl) ?_
  refine bw_get (C := RX4) (T := TX4) (N := 4) (ci := 4) (v := .int 0) 3 (by decide) 41 hC hG iwX4 (xw_41 κ a) rfl w69 rfl rfl dX4_worthSum_6 ?_
  refine lv_icmp_ge (tgt := 27) hx hb dX4_worthSum_9 (by decide) (fun _ => ?_) (fun h9 => absurd (by decide) h9)
  refine lv_lload_n hx hb dX4_worthSum_27 rfl (lv_at hl 1 rfl) ?_
  exact ze_l (qs := fun _ => 0) hC hG rfl rfl hr hk (Nat.le_of_ble_eq_true rfl) (Nat.le_of_ble_eq_true rfl) dX4_worthSum_28
theorem dX7_wouldClose_10 : decode cX7_wouldClose 10 = .ok (.getfield 59, 3) := by decide +kernel
theorem dX7_wouldClose_13 : decode cX7_wouldClose 13 = .ok (.invokevirtual 162, 3) := by decide +kernel
theorem dX7_wouldClose_16 : decode cX7_wouldClose 16 = .ok (.lneg, 1) := by decide +kernel
theorem dX7_wouldClose_17 : decode cX7_wouldClose 17 = .ok (.lreturn, 1) := by decide +kernel
theorem dX7_wouldClose_4 : decode cX7_wouldClose 4 = .ok (.aload_n 0, 1) := by decide +kernel
theorem dX7_wouldClose_5 : decode cX7_wouldClose 5 = .ok (.iload_n 1, 1) := by decide +kernel
theorem dX7_wouldClose_6 : decode cX7_wouldClose 6 = .ok (.invokevirtual 286, 3) := by decide +kernel
theorem dX7_wouldClose_9 : decode cX7_wouldClose 9 = .ok (.aload_n 0, 1) := by decide +kernel
set_option maxHeartbeats 4000000 in
set_option maxRecDepth 100000 in
theorem z_253_wouldClose (l : Launch) (hst : l.stackTraces = false) (D : va_G) (κ : K4) (E0 : Nat) (sz : Nat) (a : Nat → Nat) (x0 : Int32) (k_x0 : 0 ≤ x0.toInt ∧ x0.toInt ≤ 364) : NM l yX7_wouldClose cX7_wouldClose 2 (some .long) 1 24 0 0 E0 D κ (xw κ a) sz [.ref (a 0), .int x0] (QL D κ (xw κ a) sz (-0) (fun qs : W1 => xw κ a)) := by
  refine NM.of (by decide +kernel) (Nat.le_of_ble_eq_true rfl) ?_
  intro p e s m below meth c ls hC hr hk hin hsz hE hT H locs hG hl
  have hx := hC.1
  have hb := hC.2.1
  have hl : lv_has ls 2 [(0, .ref (a 0)), (1, .int x0)] := hl
  refine lv_iload_n hx hb dX7_wouldClose_0 rfl (lv_at hl 1 rfl) ?_
  have cut1 : Cut (xw κ a) (xw κ a) ([]) := (Cut.all 45 rfl (by decide))
  refine zc_v hG cut1 (zr_S (n := 1) (As := [.int x0]) (rest := []) hC hG hE hT cut1 (z_145_needDay l hst D κ E0 H.size a x0 ⟨by omega, by omega⟩) w413 w2 w415 w414 (by decide +kernel) ⟨Nat.le_of_ble_eq_true rfl, Nat.le_of_ble_eq_true rfl⟩ rfl hl.1 rfl (Nat.le_of_ble_eq_true rfl) dX7_wouldClose_1 ⟨Nat.le_of_ble_eq_true rfl, Nat.le_of_ble_eq_true rfl⟩) (fun z1 H locs hG => ?_)
  have hG : BW D κ (xw κ a) _ s H locs := hG
  refine lv_aload_n hx hb dX7_wouldClose_4 rfl (lv_at hl 0 rfl) ?_
  refine lv_iload_n hx hb dX7_wouldClose_5 rfl (lv_at hl 1 rfl) ?_
  have cut6 : Cut (xw κ a) (xw κ a) ([]) := (Cut.all 45 rfl (by decide))
  refine zc_v hG cut6 (zr_V (k := 0) (ci := 7) (n := 1) (As := [.int x0]) (rest := []) hC hG hE hT cut6 (z_251_planClosing l hst D κ E0 H.size a x0 ⟨by omega, by omega⟩) rfl rfl w775 w2 w778 w776 w777 (by decide +kernel) ⟨Nat.le_of_ble_eq_true rfl, Nat.le_of_ble_eq_true rfl⟩ rfl hl.1 rfl (Nat.le_of_ble_eq_true rfl) dX7_wouldClose_6 ⟨Nat.le_of_ble_eq_true rfl, Nat.le_of_ble_eq_true rfl⟩) (fun z2 H locs hG => ?_)
  have hG : BW D κ (xw κ a) _ s H locs := hG
  refine lv_aload_n hx hb dX7_wouldClose_9 rfl (lv_at hl 0 rfl) ?_
  refine bw_get (C := RX7) (T := TX7) (N := 10) (ci := 7) (v := .ref (a 41)) 7 (by decide) 0 hC hG iwX7 (xw_0 κ a) rfl w41 rfl rfl dX7_wouldClose_10 ?_
  have cut13 : Cut (xw κ a) (xw κ a) ([]) := (Cut.all 45 rfl (by decide))
  refine zc_l hG cut13 (zr_V (k := 41) (ci := 4) (n := 0) (As := []) (rest := []) hC hG hE hT cut13 (z_252_worthSum l hst D κ E0 H.size a) rfl rfl w452 w40 w455 w453 w454 (by decide +kernel) ⟨Nat.le_of_ble_eq_true rfl, Nat.le_of_ble_eq_true rfl⟩ rfl hl.1 rfl (Nat.le_of_ble_eq_true rfl) dX7_wouldClose_13 ⟨Nat.le_of_ble_eq_true rfl, Nat.le_of_ble_eq_true rfl⟩) (fun z3 H locs hG => ?_)
  have hG : BW D κ (xw κ a) _ s H locs := hG
  refine lv_lneg hx hb dX7_wouldClose_16 ?_
  exact ze_l (qs := fun _ => 0) hC hG rfl rfl hr hk (Nat.le_of_ble_eq_true rfl) (Nat.le_of_ble_eq_true rfl) dX7_wouldClose_17
theorem dL_wouldClose_14 : decode cL_wouldClose 14 = .ok (.iconst 0, 1) := by decide +kernel
theorem dL_wouldClose_15 : decode cL_wouldClose 15 = .ok (.ireturn, 1) := by decide +kernel
theorem dL_wouldClose_7 : decode cL_wouldClose 7 = .ok (.lastore, 1) := by decide +kernel
theorem dL_wouldClose_8 : decode cL_wouldClose 8 = .ok (.goto 6, 3) := by decide +kernel
set_option maxHeartbeats 4000000 in
set_option maxRecDepth 100000 in
theorem z_254_wouldClose (l : Launch) (hst : l.stackTraces = false) (D : va_G) (κ : K4) (E0 : Nat) (sz : Nat) (a : Nat → Nat) (x0 : Int32) (o : Nat) (k_x0 : 0 ≤ x0.toInt ∧ x0.toInt ≤ 364) : NH l yL_wouldClose cL_wouldClose 4 (some .int) [(0, 8, 11, 13)] 2 45 0 0 E0 D κ (xw κ a ++ [(o, .inl (κ.2.1, 1, .inr (.inl (fun _ => 0))))]) sz [.ref (a 0), .int x0, .ref o] (QI D κ (xw κ a ++ [(o, .inl (κ.2.1, 1, .inr (.inl (fun _ => 0))))]) sz 0 (fun qs : W1 => [(o, .inl (κ.2.1, 1, .inr (.inl (va_up (fun _ => 0) ((0 : Int32).toNatClampNeg) (-0)))))])) := by
  refine NH.of (by decide +kernel) (Nat.le_of_ble_eq_true rfl) ?_
  intro p e s m below meth c ls hC hr hk htab hsz hE hT H locs hG hl
  have hx := hC.1
  have hb := hC.2.1
  have hl : lv_has ls 4 [(0, .ref (a 0)), (1, .int x0), (2, .ref o)] := hl
  refine lv_aload_n hx hb dL_wouldClose_0 rfl (lv_at hl 2 rfl) ?_
  refine lv_iconst (v := 0) hx hb dL_wouldClose_1 (by decide) ?_
  refine lv_aload_n hx hb dL_wouldClose_2 rfl (lv_at hl 0 rfl) ?_
  refine lv_iload_n hx hb dL_wouldClose_3 rfl (lv_at hl 1 rfl) ?_
  have cut4 : Cut (xw κ a ++ [(o, .inl (κ.2.1, 1, .inr (.inl (fun _ => 0))))]) (xw κ a) ([(o, .inl (κ.2.1, 1, .inr (.inl (fun _ => 0))))]) := (Cut.one 45 rfl (by decide))
  refine zc_l hG cut4 (zr_V (k := 0) (ci := 7) (n := 1) (As := [.int x0]) (rest := [.int 0, .ref o]) hC hG hE hT cut4 (z_253_wouldClose l hst D κ E0 H.size a x0 ⟨by omega, by omega⟩) rfl rfl w1174 w2 w1177 w1175 w1176 (by decide +kernel) ⟨Nat.le_of_ble_eq_true rfl, Nat.le_of_ble_eq_true rfl⟩ rfl hl.1 rfl (Nat.le_of_ble_eq_true rfl) dL_wouldClose_4 ⟨Nat.le_of_ble_eq_true rfl, Nat.le_of_ble_eq_true rfl⟩) (fun z1 H locs hG => ?_)
  have hG : BW D κ (([(o, .inl (κ.2.1, 1, .inr (.inl (fun _ => 0))))]) ++ (xw κ a)) _ s H locs := hG
  refine zs_lst 0 hC hG rfl (vp_box (by have e0 : (0 : Int32).toInt = 0 := (by decide); omega) (by have e0 : (0 : Int32).toInt = 0 := (by decide); omega)) dL_wouldClose_7 (fun H locs hG => ?_)
  have hG : BW D κ ((([(o, .inl (κ.2.1, 1, .inr (.inl (fun _ => 0))))]) ++ (xw κ a) : va_W).set 0 (o, .inl (κ.2.1, 1, .inr (.inl (va_up (fun _ => 0) ((0 : Int32).toNatClampNeg) (-0)))))) _ s H locs := hG
  refine lv_goto (tgt := 14) hx hb dL_wouldClose_8 (by decide) ?_
  refine lv_iconst (v := 0) hx hb dL_wouldClose_14 (by decide) ?_
  have hG := hG.at (ws' := [(o, .inl (κ.2.1, 1, .inr (.inl (va_up (fun _ => 0) ((0 : Int32).toNatClampNeg) (-0)))))]) [0] (by decide) rfl
  exact ze_i (qs := fun _ => 0) hC hG rfl rfl hr rfl hk (Nat.le_of_ble_eq_true rfl) (Nat.le_of_ble_eq_true rfl) dL_wouldClose_15
theorem dX14_results_0 : decode cX14_results 0 = .ok (.new 13, 3) := by decide +kernel
theorem dX14_results_10 : decode cX14_results 10 = .ok (.iload_n 3, 1) := by decide +kernel
theorem dX14_results_100 : decode cX14_results 100 = .ok (.areturn, 1) := by decide +kernel
theorem dX14_results_11 : decode cX14_results 11 = .ok (.aload_n 0, 1) := by decide +kernel
theorem dX14_results_12 : decode cX14_results 12 = .ok (.getfield 16, 3) := by decide +kernel
theorem dX14_results_15 : decode cX14_results 15 = .ok (.invokevirtual 49, 3) := by decide +kernel
theorem dX14_results_18 : decode cX14_results 18 = .ok (.if_icmp .ge 81, 3) := by decide +kernel
theorem dX14_results_3 : decode cX14_results 3 = .ok (.dup, 1) := by decide +kernel
theorem dX14_results_4 : decode cX14_results 4 = .ok (.invokespecial 15, 3) := by decide +kernel
theorem dX14_results_7 : decode cX14_results 7 = .ok (.astore_n 2, 1) := by decide +kernel
theorem dX14_results_8 : decode cX14_results 8 = .ok (.iconst 0, 1) := by decide +kernel
theorem dX14_results_9 : decode cX14_results 9 = .ok (.istore_n 3, 1) := by decide +kernel
theorem dX14_results_99 : decode cX14_results 99 = .ok (.aload_n 2, 1) := by decide +kernel
set_option maxHeartbeats 4000000 in
set_option maxRecDepth 100000 in
theorem z_255_results (l : Launch) (hst : l.stackTraces = false) (D : va_G) (κ : K4) (E0 : Nat) (sz : Nat) (b : Nat → Nat) (x0 : Int32) (k_x0 : 0 ≤ x0.toInt ∧ x0.toInt ≤ 364) : NM l yX14_results cX14_results 6 (some (.object "java/util/ArrayList")) 4 72 1 3 E0 D κ (mw κ b E0 0) sz [.ref (b 0), .int x0] (QR D κ (mw κ b E0 0) sz (fun qs : W1 => (qs 0)) (fun qs : W1 => [(b 0, .inr (9, [.int 0, .ref (b 1), .ref (b 2), .ref (b 3), .ref (b 4), .ref (b 5), .ref (b 6), .ref (b 7), .null, .int 0, .int (-1), .int 0, .int 0, .int 0, .ref (b 8)])), (b 1, .inl (κ.1, 4, .inl (fun _ => 1000))), (b 2, .inr (10, [.int 0, .ref E0, .int 0])), (b 3, .inr (10, [.int 0, .ref E0, .int 0])), (b 4, .inr (10, [.int 0, .ref E0, .int 0])), (b 5, .inr (10, [.int 0, .ref E0, .int 0])), (b 6, .inr (10, [.int 0, .ref E0, .int 0])), (b 7, .inr (10, [.int 0, .ref E0, .int 0])), (b 8, .inr (10, [.int 0, .ref E0, .int 0])), ((qs 0), .inr (10, [.int 0, .ref E0, .int 0]))])) := by
  refine NM.of (by decide +kernel) (Nat.le_of_ble_eq_true rfl) ?_
  intro p e s m below meth c ls hC hr hk hin hsz hE hT H locs hG hl
  have hx := hC.1
  have hb := hC.2.1
  have hl : lv_has ls 6 [(0, .ref (b 0)), (1, .int x0)] := hl
  refine bw_new (C := RJx4a65c) (T := TJx4a65c) (N := 3) (ci := 10) (fs := [.int 0, .null, .int 0]) hC hG iwJA tyJx4a65c_ok w115 w116 w117 rfl (fun j hj => by rcases (show j = 0 ∨ j = 1 ∨ j = 2 by omega) with rfl | rfl | rfl <;> rfl) (Nat.le_of_ble_eq_true rfl) (Nat.le_of_ble_eq_true rfl) dX14_results_0 (fun q1 H hG => ?_)
  have hG : BW D κ ((mw κ b E0 0) ++ [(q1, .inr (10, [.int 0, .null, .int 0]))]) _ s H locs := hG
  refine lv_dup hx hb dX14_results_3 rfl ?_
  have cut4 : Cut ((mw κ b E0 0) ++ [(q1, .inr (10, [.int 0, .null, .int 0]))]) ([(q1, .inr (10, [.int 0, .null, .int 0]))]) ([(b 0, .inr (9, [.int 0, .ref (b 1), .ref (b 2), .ref (b 3), .ref (b 4), .ref (b 5), .ref (b 6), .ref (b 7), .null, .int 0, .int (-1), .int 0, .int 0, .int 0, .ref (b 8)])), (b 1, .inl (κ.1, 4, .inl (fun _ => 1000))), (b 2, .inr (10, [.int 0, .ref E0, .int 0])), (b 3, .inr (10, [.int 0, .ref E0, .int 0])), (b 4, .inr (10, [.int 0, .ref E0, .int 0])), (b 5, .inr (10, [.int 0, .ref E0, .int 0])), (b 6, .inr (10, [.int 0, .ref E0, .int 0])), (b 7, .inr (10, [.int 0, .ref E0, .int 0])), (b 8, .inr (10, [.int 0, .ref E0, .int 0]))]) := (Cut.idx [9] [0, 1, 2, 3, 4, 5, 6, 7, 8] rfl rfl (by decide) (by decide) (by decide))
  refine zc_v hG cut4 (zr_I (n := 0) (As := []) (rest := [.ref q1]) hC hG hE hT cut4 (z_161_init l hst D κ E0 H.size q1) w126 w117 w128 w127 rfl (by decide +kernel) ⟨Nat.le_of_ble_eq_true rfl, Nat.le_of_ble_eq_true rfl⟩ rfl hl.1 rfl (Nat.le_of_ble_eq_true rfl) dX14_results_4 ⟨Nat.le_of_ble_eq_true rfl, Nat.le_of_ble_eq_true rfl⟩) (fun z1 H locs hG => ?_)
  have hG : BW D κ (([(b 0, .inr (9, [.int 0, .ref (b 1), .ref (b 2), .ref (b 3), .ref (b 4), .ref (b 5), .ref (b 6), .ref (b 7), .null, .int 0, .int (-1), .int 0, .int 0, .int 0, .ref (b 8)])), (b 1, .inl (κ.1, 4, .inl (fun _ => 1000))), (b 2, .inr (10, [.int 0, .ref E0, .int 0])), (b 3, .inr (10, [.int 0, .ref E0, .int 0])), (b 4, .inr (10, [.int 0, .ref E0, .int 0])), (b 5, .inr (10, [.int 0, .ref E0, .int 0])), (b 6, .inr (10, [.int 0, .ref E0, .int 0])), (b 7, .inr (10, [.int 0, .ref E0, .int 0])), (b 8, .inr (10, [.int 0, .ref E0, .int 0]))]) ++ ([(q1, .inr (10, [.int 0, .ref E0, .int 0]))])) _ s H locs := hG
  refine lv_astore_n (lv' := [(2, .ref q1), (0, .ref (b 0)), (1, .int x0)]) hx hb dX14_results_7 rfl hl (by decide) rfl (fun ls hl => ?_)
  refine lv_iconst (v := 0) hx hb dX14_results_8 (by decide) ?_
  refine lv_istore_n (lv' := [(3, .int 0), (2, .ref q1), (0, .ref (b 0)), (1, .int x0)]) hx hb dX14_results_9 rfl hl (by decide) rfl (fun ls hl => ?_)
  refine lv_iload_n hx hb dX14_results_10 rfl (lv_at hl 0 rfl) ?_
  refine lv_aload_n hx hb dX14_results_11 rfl (lv_at hl 2 rfl) ?_
  refine bw_get (C := RX14) (T := TX14) (N := 15) (ci := 9) (v := .ref (b 2)) 2 (by decide) 0 hC hG iwX14 rfl rfl w118 rfl rfl dX14_results_12 ?_
  have cut15 : Cut (([(b 0, .inr (9, [.int 0, .ref (b 1), .ref (b 2), .ref (b 3), .ref (b 4), .ref (b 5), .ref (b 6), .ref (b 7), .null, .int 0, .int (-1), .int 0, .int 0, .int 0, .ref (b 8)])), (b 1, .inl (κ.1, 4, .inl (fun _ => 1000))), (b 2, .inr (10, [.int 0, .ref E0, .int 0])), (b 3, .inr (10, [.int 0, .ref E0, .int 0])), (b 4, .inr (10, [.int 0, .ref E0, .int 0])), (b 5, .inr (10, [.int 0, .ref E0, .int 0])), (b 6, .inr (10, [.int 0, .ref E0, .int 0])), (b 7, .inr (10, [.int 0, .ref E0, .int 0])), (b 8, .inr (10, [.int 0, .ref E0, .int 0]))]) ++ ([(q1, .inr (10, [.int 0, .ref E0, .int 0]))])) (mw κ b E0 0) ([(q1, .inr (10, [.int 0, .ref E0, .int 0]))]) := (Cut.idx [0, 1, 2, 3, 4, 5, 6, 7, 8] [9] rfl rfl (by decide) (by decide) (by decide))
  refine zc_i hG cut15 (zr_V (k := 2) (ci := 10) (n := 0) (As := []) (rest := [.int 0]) hC hG hE hT cut15 (z_26_size l hst D κ E0 H.size (b 2) (b 0) (b 1) (b 3) (b 4) (b 5) (b 6) (b 7) (b 8)) rfl rfl w179 w117 w182 w180 w181 (by decide +kernel) ⟨Nat.le_of_ble_eq_true rfl, Nat.le_of_ble_eq_true rfl⟩ rfl hl.1 rfl (Nat.le_of_ble_eq_true rfl) dX14_results_15 ⟨Nat.le_of_ble_eq_true rfl, Nat.le_of_ble_eq_true rfl⟩) (fun z2 H locs hG => ?_)
  have hG : BW D κ (([(q1, .inr (10, [.int 0, .ref E0, .int 0]))]) ++ (mw κ b E0 0)) _ s H locs := hG
  refine lv_icmp_ge (tgt := 99) hx hb dX14_results_18 (by decide) (fun _ => ?_) (fun h18 => absurd (by decide) h18)
  refine lv_aload_n hx hb dX14_results_99 rfl (lv_at hl 1 rfl) ?_
  have hG := hG.at (ws' := [(b 0, .inr (9, [.int 0, .ref (b 1), .ref (b 2), .ref (b 3), .ref (b 4), .ref (b 5), .ref (b 6), .ref (b 7), .null, .int 0, .int (-1), .int 0, .int 0, .int 0, .ref (b 8)])), (b 1, .inl (κ.1, 4, .inl (fun _ => 1000))), (b 2, .inr (10, [.int 0, .ref E0, .int 0])), (b 3, .inr (10, [.int 0, .ref E0, .int 0])), (b 4, .inr (10, [.int 0, .ref E0, .int 0])), (b 5, .inr (10, [.int 0, .ref E0, .int 0])), (b 6, .inr (10, [.int 0, .ref E0, .int 0])), (b 7, .inr (10, [.int 0, .ref E0, .int 0])), (b 8, .inr (10, [.int 0, .ref E0, .int 0])), (q1, .inr (10, [.int 0, .ref E0, .int 0]))]) [1, 2, 3, 4, 5, 6, 7, 8, 9, 0] (by decide) rfl
  exact ze_r (v := q1) (qs := fun k => match k with  | _ => q1) hC hG rfl rfl hr (Or.inl ⟨_, rfl⟩) hk (Nat.le_of_ble_eq_true rfl) (Nat.le_of_ble_eq_true rfl) dX14_results_100
set_option maxHeartbeats 4000000 in
set_option maxRecDepth 100000 in
theorem z_256_size (l : Launch) (hst : l.stackTraces = false) (D : va_G) (κ : K4) (E0 : Nat) (sz : Nat) (h0 : Nat) : NM l yJx4a65c_size_8abf5 cJx4a65c_size_8abf5 1 (some .int) 0 0 0 0 E0 D κ ([(h0, .inr (10, [.int 0, .ref E0, .int 0]))]) sz [.ref h0] (QI D κ ([(h0, .inr (10, [.int 0, .ref E0, .int 0]))]) sz 0 (fun qs : W1 => [(h0, .inr (10, [.int 0, .ref E0, .int 0]))])) := by
  refine NM.of (by decide +kernel) (Nat.le_of_ble_eq_true rfl) ?_
  intro p e s m below meth c ls hC hr hk hin hsz hE hT H locs hG hl
  have hx := hC.1
  have hb := hC.2.1
  have hl : lv_has ls 1 [(0, .ref h0)] := hl
  refine lv_aload_n hx hb dJx4a65c_size_8abf5_0 rfl (lv_at hl 0 rfl) ?_
  refine bw_get (C := RJx4a65c) (T := TJx4a65c) (N := 3) (ci := 10) (v := .int 0) 2 (by decide) 0 hC hG iwJA rfl rfl w183 rfl rfl dJx4a65c_size_8abf5_1 ?_
  exact ze_i (qs := fun _ => 0) hC hG rfl rfl hr rfl hk (Nat.le_of_ble_eq_true rfl) (Nat.le_of_ble_eq_true rfl) dJx4a65c_size_8abf5_4
theorem dX14_worths_0 : decode cX14_worths 0 = .ok (.lconst 0, 1) := by decide +kernel
theorem dX14_worths_1 : decode cX14_worths 1 = .ok (.lstore_n 2, 1) := by decide +kernel
theorem dX14_worths_11 : decode cX14_worths 11 = .ok (.if_icmp .ge 25, 3) := by decide +kernel
theorem dX14_worths_2 : decode cX14_worths 2 = .ok (.iconst 0, 1) := by decide +kernel
theorem dX14_worths_3 : decode cX14_worths 3 = .ok (.istore 4, 2) := by decide +kernel
theorem dX14_worths_36 : decode cX14_worths 36 = .ok (.lload_n 2, 1) := by decide +kernel
theorem dX14_worths_37 : decode cX14_worths 37 = .ok (.lreturn, 1) := by decide +kernel
theorem dX14_worths_5 : decode cX14_worths 5 = .ok (.iload 4, 2) := by decide +kernel
theorem dX14_worths_7 : decode cX14_worths 7 = .ok (.aload_n 1, 1) := by decide +kernel
theorem dX14_worths_8 : decode cX14_worths 8 = .ok (.invokevirtual 49, 3) := by decide +kernel
set_option maxHeartbeats 4000000 in
set_option maxRecDepth 100000 in
theorem z_257_worths (l : Launch) (hst : l.stackTraces = false) (D : va_G) (κ : K4) (E0 : Nat) (sz : Nat) (b : Nat → Nat) (h0 : Nat) : NM l yX14_worths cX14_worths 5 (some .long) 1 20 0 0 E0 D κ (mw κ b E0 0 ++ [(h0, .inr (10, [.int 0, .ref E0, .int 0]))]) sz [.ref (b 0), .ref h0] (QL D κ (mw κ b E0 0 ++ [(h0, .inr (10, [.int 0, .ref E0, .int 0]))]) sz 0 (fun qs : W1 => mw κ b E0 0)) := by
  refine NM.of (by decide +kernel) (Nat.le_of_ble_eq_true rfl) ?_
  intro p e s m below meth c ls hC hr hk hin hsz hE hT H locs hG hl
  have hx := hC.1
  have hb := hC.2.1
  have hl : lv_has ls 5 [(0, .ref (b 0)), (1, .ref h0)] := hl
  refine lv_lconst (v := 0) hx hb dX14_worths_0 (by decide) ?_
  refine lv_lstore_n (lv' := [(2, .long 0), (0, .ref (b 0)), (1, .ref h0)]) hx hb dX14_worths_1 rfl hl (by decide) rfl (fun ls hl => ?_)
  refine lv_iconst (v := 0) hx hb dX14_worths_2 (by decide) ?_
  refine lv_istore (lv' := [(4, .int 0), (2, .long 0), (0, .ref (b 0)), (1, .ref h0)]) hx hb dX14_worths_3 hl (by decide) rfl (fun ls hl => ?_)
  refine lv_iload hx hb dX14_worths_5 (lv_at hl 0 rfl) ?_
  refine lv_aload_n hx hb dX14_worths_7 rfl (lv_at hl 3 rfl) ?_
  have cut8 : Cut (mw κ b E0 0 ++ [(h0, .inr (10, [.int 0, .ref E0, .int 0]))]) ([(h0, .inr (10, [.int 0, .ref E0, .int 0]))]) ([(b 0, .inr (9, [.int 0, .ref (b 1), .ref (b 2), .ref (b 3), .ref (b 4), .ref (b 5), .ref (b 6), .ref (b 7), .null, .int 0, .int (-1), .int 0, .int 0, .int 0, .ref (b 8)])), (b 1, .inl (κ.1, 4, .inl (fun _ => 1000))), (b 2, .inr (10, [.int 0, .ref E0, .int 0])), (b 3, .inr (10, [.int 0, .ref E0, .int 0])), (b 4, .inr (10, [.int 0, .ref E0, .int 0])), (b 5, .inr (10, [.int 0, .ref E0, .int 0])), (b 6, .inr (10, [.int 0, .ref E0, .int 0])), (b 7, .inr (10, [.int 0, .ref E0, .int 0])), (b 8, .inr (10, [.int 0, .ref E0, .int 0]))]) := (Cut.idx [9] [0, 1, 2, 3, 4, 5, 6, 7, 8] rfl rfl (by decide) (by decide) (by decide))
  refine zc_i hG cut8 (zr_V (k := 9) (ci := 10) (n := 0) (As := []) (rest := [.int 0]) hC hG hE hT cut8 (z_256_size l hst D κ E0 H.size h0) rfl rfl w179 w117 w182 w180 w181 (by decide +kernel) ⟨Nat.le_of_ble_eq_true rfl, Nat.le_of_ble_eq_true rfl⟩ rfl hl.1 rfl (Nat.le_of_ble_eq_true rfl) dX14_worths_8 ⟨Nat.le_of_ble_eq_true rfl, Nat.le_of_ble_eq_true rfl⟩) (fun z1 H locs hG => ?_)
  have hG : BW D κ (([(b 0, .inr (9, [.int 0, .ref (b 1), .ref (b 2), .ref (b 3), .ref (b 4), .ref (b 5), .ref (b 6), .ref (b 7), .null, .int 0, .int (-1), .int 0, .int 0, .int 0, .ref (b 8)])), (b 1, .inl (κ.1, 4, .inl (fun _ => 1000))), (b 2, .inr (10, [.int 0, .ref E0, .int 0])), (b 3, .inr (10, [.int 0, .ref E0, .int 0])), (b 4, .inr (10, [.int 0, .ref E0, .int 0])), (b 5, .inr (10, [.int 0, .ref E0, .int 0])), (b 6, .inr (10, [.int 0, .ref E0, .int 0])), (b 7, .inr (10, [.int 0, .ref E0, .int 0])), (b 8, .inr (10, [.int 0, .ref E0, .int 0]))]) ++ ([(h0, .inr (10, [.int 0, .ref E0, .int 0]))])) _ s H locs := hG
  refine lv_icmp_ge (tgt := 36) hx hb dX14_worths_11 (by decide) (fun _ => ?_) (fun h11 => absurd (by decide) h11)
  refine lv_lload_n hx hb dX14_worths_36 rfl (lv_at hl 1 rfl) ?_
  have hG := hG.at (ws' := mw κ b E0 0) [0, 1, 2, 3, 4, 5, 6, 7, 8] (by decide) rfl
  exact ze_l (qs := fun _ => 0) hC hG rfl rfl hr hk (Nat.le_of_ble_eq_true rfl) (Nat.le_of_ble_eq_true rfl) dX14_worths_37
theorem dX14_wouldClose_16 : decode cX14_wouldClose 16 = .ok (.aload_n 0, 1) := by decide +kernel
theorem dX14_wouldClose_17 : decode cX14_wouldClose 17 = .ok (.aload_n 0, 1) := by decide +kernel
theorem dX14_wouldClose_18 : decode cX14_wouldClose 18 = .ok (.iload_n 1, 1) := by decide +kernel
theorem dX14_wouldClose_19 : decode cX14_wouldClose 19 = .ok (.invokevirtual 253, 3) := by decide +kernel
theorem dX14_wouldClose_22 : decode cX14_wouldClose 22 = .ok (.invokevirtual 184, 3) := by decide +kernel
theorem dX14_wouldClose_25 : decode cX14_wouldClose 25 = .ok (.lneg, 1) := by decide +kernel
set_option maxHeartbeats 4000000 in
set_option maxRecDepth 100000 in
theorem z_258_wouldClose (l : Launch) (hst : l.stackTraces = false) (D : va_G) (κ : K4) (E0 : Nat) (sz : Nat) (b : Nat → Nat) (x0 : Int32) (k_x0 : 0 ≤ x0.toInt ∧ x0.toInt ≤ 364) : NM l yX14_wouldClose cX14_wouldClose 2 (some .long) 5 97 1 3 E0 D κ (mw κ b E0 0) sz [.ref (b 0), .int x0] (QL D κ (mw κ b E0 0) sz (-0) (fun qs : W1 => mw κ b E0 0)) := by
  refine NM.of (by decide +kernel) (Nat.le_of_ble_eq_true rfl) ?_
  intro p e s m below meth c ls hC hr hk hin hsz hE hT H locs hG hl
  have hx := hC.1
  have hb := hC.2.1
  have hl : lv_has ls 2 [(0, .ref (b 0)), (1, .int x0)] := hl
  refine lv_aload_n hx hb dX14_wouldClose_0 rfl (lv_at hl 0 rfl) ?_
  refine lv_iload_n hx hb dX14_wouldClose_1 rfl (lv_at hl 1 rfl) ?_
  have cut2 : Cut (mw κ b E0 0) (mw κ b E0 0) ([]) := (Cut.all 9 rfl (by decide))
  refine zc_i hG cut2 (zr_S (n := 1) (As := [.int x0]) (rest := [.ref (b 0)]) hC hG hE hT cut2 (z_237_isNoDay l hst D κ E0 H.size b x0 ⟨by omega, by omega⟩) w1112 w5 w1114 w1113 (by decide +kernel) ⟨Nat.le_of_ble_eq_true rfl, Nat.le_of_ble_eq_true rfl⟩ rfl hl.1 rfl (Nat.le_of_ble_eq_true rfl) dX14_wouldClose_2 ⟨Nat.le_of_ble_eq_true rfl, Nat.le_of_ble_eq_true rfl⟩) (fun z1 H locs hG => ?_)
  have hG : BW D κ (mw κ b E0 0) _ s H locs := hG
  refine lv_iconst (v := 1) hx hb dX14_wouldClose_5 (by decide) ?_
  have cut6 : Cut (mw κ b E0 0) (mw κ b E0 0) ([]) := (Cut.all 9 rfl (by decide))
  refine zc_i hG cut6 (zr_V (k := 0) (ci := 9) (n := 2) (As := [.int 0, .int 1]) (rest := []) hC hG hE hT cut6 (z_25_start l hst D κ E0 H.size b) rfl rfl w170 w5 w173 w171 w172 (by decide +kernel) ⟨Nat.le_of_ble_eq_true rfl, Nat.le_of_ble_eq_true rfl⟩ rfl hl.1 rfl (Nat.le_of_ble_eq_true rfl) dX14_wouldClose_6 ⟨Nat.le_of_ble_eq_true rfl, Nat.le_of_ble_eq_true rfl⟩) (fun z2 H locs hG => ?_)
  have hG : BW D κ (mw κ b E0 0) _ s H locs := hG
  refine lv_if_eq (tgt := 16) hx hb dX14_wouldClose_9 (by decide) (fun _ => ?_) (fun h9 => absurd (by decide) h9)
  refine lv_aload_n hx hb dX14_wouldClose_16 rfl (lv_at hl 0 rfl) ?_
  refine lv_aload_n hx hb dX14_wouldClose_17 rfl (lv_at hl 0 rfl) ?_
  refine lv_iload_n hx hb dX14_wouldClose_18 rfl (lv_at hl 1 rfl) ?_
  have cut19 : Cut (mw κ b E0 0) (mw κ b E0 0) ([]) := (Cut.all 9 rfl (by decide))
  refine zc_r hG cut19 (zr_V (k := 0) (ci := 9) (n := 1) (As := [.int x0]) (rest := [.ref (b 0)]) hC hG hE hT cut19 (z_255_results l hst D κ E0 H.size b x0 ⟨by omega, by omega⟩) rfl rfl w787 w5 w790 w788 w789 (by decide +kernel) ⟨Nat.le_of_ble_eq_true rfl, Nat.le_of_ble_eq_true rfl⟩ rfl hl.1 rfl (Nat.le_of_ble_eq_true rfl) dX14_wouldClose_19 ⟨Nat.le_of_ble_eq_true rfl, Nat.le_of_ble_eq_true rfl⟩) (fun z3 H locs hG => ?_)
  have hG : BW D κ ([(b 0, .inr (9, [.int 0, .ref (b 1), .ref (b 2), .ref (b 3), .ref (b 4), .ref (b 5), .ref (b 6), .ref (b 7), .null, .int 0, .int (-1), .int 0, .int 0, .int 0, .ref (b 8)])), (b 1, .inl (κ.1, 4, .inl (fun _ => 1000))), (b 2, .inr (10, [.int 0, .ref E0, .int 0])), (b 3, .inr (10, [.int 0, .ref E0, .int 0])), (b 4, .inr (10, [.int 0, .ref E0, .int 0])), (b 5, .inr (10, [.int 0, .ref E0, .int 0])), (b 6, .inr (10, [.int 0, .ref E0, .int 0])), (b 7, .inr (10, [.int 0, .ref E0, .int 0])), (b 8, .inr (10, [.int 0, .ref E0, .int 0])), (z3 0, .inr (10, [.int 0, .ref E0, .int 0]))]) _ s H locs := hG
  have cut22 : Cut ([(b 0, .inr (9, [.int 0, .ref (b 1), .ref (b 2), .ref (b 3), .ref (b 4), .ref (b 5), .ref (b 6), .ref (b 7), .null, .int 0, .int (-1), .int 0, .int 0, .int 0, .ref (b 8)])), (b 1, .inl (κ.1, 4, .inl (fun _ => 1000))), (b 2, .inr (10, [.int 0, .ref E0, .int 0])), (b 3, .inr (10, [.int 0, .ref E0, .int 0])), (b 4, .inr (10, [.int 0, .ref E0, .int 0])), (b 5, .inr (10, [.int 0, .ref E0, .int 0])), (b 6, .inr (10, [.int 0, .ref E0, .int 0])), (b 7, .inr (10, [.int 0, .ref E0, .int 0])), (b 8, .inr (10, [.int 0, .ref E0, .int 0])), (z3 0, .inr (10, [.int 0, .ref E0, .int 0]))]) ([(b 0, .inr (9, [.int 0, .ref (b 1), .ref (b 2), .ref (b 3), .ref (b 4), .ref (b 5), .ref (b 6), .ref (b 7), .null, .int 0, .int (-1), .int 0, .int 0, .int 0, .ref (b 8)])), (b 1, .inl (κ.1, 4, .inl (fun _ => 1000))), (b 2, .inr (10, [.int 0, .ref E0, .int 0])), (b 3, .inr (10, [.int 0, .ref E0, .int 0])), (b 4, .inr (10, [.int 0, .ref E0, .int 0])), (b 5, .inr (10, [.int 0, .ref E0, .int 0])), (b 6, .inr (10, [.int 0, .ref E0, .int 0])), (b 7, .inr (10, [.int 0, .ref E0, .int 0])), (b 8, .inr (10, [.int 0, .ref E0, .int 0])), (z3 0, .inr (10, [.int 0, .ref E0, .int 0]))]) ([]) := (Cut.all 10 rfl (by decide))
  refine zc_l hG cut22 (zr_V (k := 0) (ci := 9) (n := 1) (As := [.ref (z3 0)]) (rest := []) hC hG hE hT cut22 (z_257_worths l hst D κ E0 H.size b (z3 0)) rfl rfl w474 w5 w477 w475 w476 (by decide +kernel) ⟨Nat.le_of_ble_eq_true rfl, Nat.le_of_ble_eq_true rfl⟩ rfl hl.1 rfl (Nat.le_of_ble_eq_true rfl) dX14_wouldClose_22 ⟨Nat.le_of_ble_eq_true rfl, Nat.le_of_ble_eq_true rfl⟩) (fun z4 H locs hG => ?_)
  have hG : BW D κ (mw κ b E0 0) _ s H locs := hG
  refine lv_lneg hx hb dX14_wouldClose_25 ?_
  exact ze_l (qs := fun _ => 0) hC hG rfl rfl hr hk (Nat.le_of_ble_eq_true rfl) (Nat.le_of_ble_eq_true rfl) dX14_wouldClose_26
theorem dX7_meanLegs_0 : decode cX7_meanLegs 0 = .ok (.aload_n 0, 1) := by decide +kernel
theorem dX7_meanLegs_1 : decode cX7_meanLegs 1 = .ok (.getfield 26, 3) := by decide +kernel
theorem dX7_meanLegs_12 : decode cX7_meanLegs 12 = .ok (.dconst 0, 1) := by decide +kernel
theorem dX7_meanLegs_13 : decode cX7_meanLegs 13 = .ok (.goto 14, 3) := by decide +kernel
theorem dX7_meanLegs_27 : decode cX7_meanLegs 27 = .ok (.dreturn, 1) := by decide +kernel
theorem dX7_meanLegs_4 : decode cX7_meanLegs 4 = .ok (.invokevirtual 337, 3) := by decide +kernel
theorem dX7_meanLegs_7 : decode cX7_meanLegs 7 = .ok (.istore_n 1, 1) := by decide +kernel
theorem dX7_meanLegs_8 : decode cX7_meanLegs 8 = .ok (.iload_n 1, 1) := by decide +kernel
theorem dX7_meanLegs_9 : decode cX7_meanLegs 9 = .ok (.ifCond .ne 7, 3) := by decide +kernel
set_option maxHeartbeats 4000000 in
set_option maxRecDepth 100000 in
theorem z_259_meanLegs (l : Launch) (hst : l.stackTraces = false) (D : va_G) (κ : K4) (E0 : Nat) (sz : Nat) (a : Nat → Nat) : NM l yX7_meanLegs cX7_meanLegs 2 (some .double) 1 22 0 0 E0 D κ (xw κ a) sz [.ref (a 0)] (QD D κ (xw κ a) sz FP.dconst0 (fun qs : W1 => xw κ a)) := by
  refine NM.of (by decide +kernel) (Nat.le_of_ble_eq_true rfl) ?_
  intro p e s m below meth c ls hC hr hk hin hsz hE hT H locs hG hl
  have hx := hC.1
  have hb := hC.2.1
  have hl : lv_has ls 2 [(0, .ref (a 0))] := hl
  refine lv_aload_n hx hb dX7_meanLegs_0 rfl (lv_at hl 0 rfl) ?_
  refine bw_get (C := RX7) (T := TX7) (N := 10) (ci := 7) (v := .ref (a 12)) 2 (by decide) 0 hC hG iwX7 (xw_0 κ a) rfl w24 rfl rfl dX7_meanLegs_1 ?_
  have cut4 : Cut (xw κ a) (xw κ a) ([]) := (Cut.all 45 rfl (by decide))
  refine zc_i hG cut4 (zr_V (k := 12) (ci := 3) (n := 0) (As := []) (rest := []) hC hG hE hT cut4 (z_189_countStanding l hst D κ E0 H.size a) rfl rfl w1062 w23 w1065 w1063 w1064 (by decide +kernel) ⟨Nat.le_of_ble_eq_true rfl, Nat.le_of_ble_eq_true rfl⟩ rfl hl.1 rfl (Nat.le_of_ble_eq_true rfl) dX7_meanLegs_4 ⟨Nat.le_of_ble_eq_true rfl, Nat.le_of_ble_eq_true rfl⟩) (fun z1 H locs hG => ?_)
  have hG : BW D κ (xw κ a) _ s H locs := hG
  refine lv_istore_n (lv' := [(1, .int 0), (0, .ref (a 0))]) hx hb dX7_meanLegs_7 rfl hl (by decide) rfl (fun ls hl => ?_)
  refine lv_iload_n hx hb dX7_meanLegs_8 rfl (lv_at hl 0 rfl) ?_
  refine lv_if_ne (tgt := 16) hx hb dX7_meanLegs_9 (by decide) (fun h9 => absurd (by decide) h9) (fun _ => ?_)
  refine lv_dconst0 hx hb dX7_meanLegs_12 ?_
  refine lv_goto (tgt := 27) hx hb dX7_meanLegs_13 (by decide) ?_
  exact ze_d (qs := fun _ => 0) hC hG rfl rfl hr hk (Nat.le_of_ble_eq_true rfl) (Nat.le_of_ble_eq_true rfl) dX7_meanLegs_27
theorem dX14_meanLegs_0 : decode cX14_meanLegs 0 = .ok (.aload_n 0, 1) := by decide +kernel
theorem dX14_meanLegs_1 : decode cX14_meanLegs 1 = .ok (.iconst 0, 1) := by decide +kernel
theorem dX14_meanLegs_10 : decode cX14_meanLegs 10 = .ok (.aload_n 0, 1) := by decide +kernel
theorem dX14_meanLegs_11 : decode cX14_meanLegs 11 = .ok (.getfield 20, 3) := by decide +kernel
theorem dX14_meanLegs_14 : decode cX14_meanLegs 14 = .ok (.invokevirtual 49, 3) := by decide +kernel
theorem dX14_meanLegs_17 : decode cX14_meanLegs 17 = .ok (.if_icmp .ge 50, 3) := by decide +kernel
theorem dX14_meanLegs_2 : decode cX14_meanLegs 2 = .ok (.putfield 42, 3) := by decide +kernel
theorem dX14_meanLegs_5 : decode cX14_meanLegs 5 = .ok (.iconst 0, 1) := by decide +kernel
theorem dX14_meanLegs_6 : decode cX14_meanLegs 6 = .ok (.istore_n 1, 1) := by decide +kernel
theorem dX14_meanLegs_67 : decode cX14_meanLegs 67 = .ok (.aload_n 0, 1) := by decide +kernel
theorem dX14_meanLegs_68 : decode cX14_meanLegs 68 = .ok (.iconst 1, 1) := by decide +kernel
theorem dX14_meanLegs_69 : decode cX14_meanLegs 69 = .ok (.invokevirtual 333, 3) := by decide +kernel
theorem dX14_meanLegs_7 : decode cX14_meanLegs 7 = .ok (.iconst 0, 1) := by decide +kernel
theorem dX14_meanLegs_72 : decode cX14_meanLegs 72 = .ok (.ifCond .ne 7, 3) := by decide +kernel
theorem dX14_meanLegs_75 : decode cX14_meanLegs 75 = .ok (.dconst 0, 1) := by decide +kernel
theorem dX14_meanLegs_76 : decode cX14_meanLegs 76 = .ok (.goto 12, 3) := by decide +kernel
theorem dX14_meanLegs_8 : decode cX14_meanLegs 8 = .ok (.istore_n 2, 1) := by decide +kernel
theorem dX14_meanLegs_88 : decode cX14_meanLegs 88 = .ok (.dreturn, 1) := by decide +kernel
theorem dX14_meanLegs_9 : decode cX14_meanLegs 9 = .ok (.iload_n 2, 1) := by decide +kernel
set_option maxHeartbeats 4000000 in
set_option maxRecDepth 100000 in
theorem z_260_meanLegs (l : Launch) (hst : l.stackTraces = false) (D : va_G) (κ : K4) (E0 : Nat) (sz : Nat) (b : Nat → Nat) : NM l yX14_meanLegs cX14_meanLegs 3 (some .double) 2 44 1 6 E0 D κ (mw κ b E0 0) sz [.ref (b 0)] (QD D κ (mw κ b E0 0) sz FP.dconst0 (fun qs : W1 => mw κ b E0 0)) := by
  refine NM.of (by decide +kernel) (Nat.le_of_ble_eq_true rfl) ?_
  intro p e s m below meth c ls hC hr hk hin hsz hE hT H locs hG hl
  have hx := hC.1
  have hb := hC.2.1
  have hl : lv_has ls 3 [(0, .ref (b 0))] := hl
  refine lv_aload_n hx hb dX14_meanLegs_0 rfl (lv_at hl 0 rfl) ?_
  refine lv_iconst (v := 0) hx hb dX14_meanLegs_1 (by decide) ?_
  refine bw_put (C := RX14) (T := TX14) (N := 15) (ci := 9) (ty0 := tyX14) (ty := .int) (v := .int 0) 0 (by decide) 0 hC hG iwX14 tyX14_ok nmX14 rfl rfl w174 rfl (Or.inl rfl) (by decide +kernel) rfl rfl (Nat.le_of_ble_eq_true rfl) dX14_meanLegs_2 (fun H locs hG => ?_)
  have hG : BW D κ (mw κ b E0 0) _ s H locs := hG
  refine lv_iconst (v := 0) hx hb dX14_meanLegs_5 (by decide) ?_
  refine lv_istore_n (lv' := [(1, .int 0), (0, .ref (b 0))]) hx hb dX14_meanLegs_6 rfl hl (by decide) rfl (fun ls hl => ?_)
  refine lv_iconst (v := 0) hx hb dX14_meanLegs_7 (by decide) ?_
  refine lv_istore_n (lv' := [(2, .int 0), (1, .int 0), (0, .ref (b 0))]) hx hb dX14_meanLegs_8 rfl hl (by decide) rfl (fun ls hl => ?_)
  refine lv_iload_n hx hb dX14_meanLegs_9 rfl (lv_at hl 0 rfl) ?_
  refine lv_aload_n hx hb dX14_meanLegs_10 rfl (lv_at hl 2 rfl) ?_
  refine bw_get (C := RX14) (T := TX14) (N := 15) (ci := 9) (v := .ref (b 3)) 3 (by decide) 0 hC hG iwX14 rfl rfl w119 rfl rfl dX14_meanLegs_11 ?_
  have cut14 : Cut (mw κ b E0 0) (mw κ b E0 0) ([]) := (Cut.all 9 rfl (by decide))
  refine zc_i hG cut14 (zr_V (k := 3) (ci := 10) (n := 0) (As := []) (rest := [.int 0]) hC hG hE hT cut14 (z_74_size l hst D κ E0 H.size (b 3) (b 0) (b 1) (b 2) (b 4) (b 5) (b 6) (b 7) (b 8)) rfl rfl w179 w117 w182 w180 w181 (by decide +kernel) ⟨Nat.le_of_ble_eq_true rfl, Nat.le_of_ble_eq_true rfl⟩ rfl hl.1 rfl (Nat.le_of_ble_eq_true rfl) dX14_meanLegs_14 ⟨Nat.le_of_ble_eq_true rfl, Nat.le_of_ble_eq_true rfl⟩) (fun z1 H locs hG => ?_)
  have hG : BW D κ (mw κ b E0 0) _ s H locs := hG
  refine lv_icmp_ge (tgt := 67) hx hb dX14_meanLegs_17 (by decide) (fun _ => ?_) (fun h17 => absurd (by decide) h17)
  refine lv_aload_n hx hb dX14_meanLegs_67 rfl (lv_at hl 2 rfl) ?_
  refine lv_iconst (v := 1) hx hb dX14_meanLegs_68 (by decide) ?_
  have cut69 : Cut (mw κ b E0 0) (mw κ b E0 0) ([]) := (Cut.all 9 rfl (by decide))
  refine zc_i hG cut69 (zr_V (k := 0) (ci := 9) (n := 1) (As := [.int 1]) (rest := []) hC hG hE hT cut69 (z_193_count l hst D κ E0 H.size b) rfl rfl w1074 w5 w1077 w1075 w1076 (by decide +kernel) ⟨Nat.le_of_ble_eq_true rfl, Nat.le_of_ble_eq_true rfl⟩ rfl hl.1 rfl (Nat.le_of_ble_eq_true rfl) dX14_meanLegs_69 ⟨Nat.le_of_ble_eq_true rfl, Nat.le_of_ble_eq_true rfl⟩) (fun z2 H locs hG => ?_)
  have hG : BW D κ (mw κ b E0 0) _ s H locs := hG
  refine lv_if_ne (tgt := 79) hx hb dX14_meanLegs_72 (by decide) (fun h72 => absurd (by decide) h72) (fun _ => ?_)
  refine lv_dconst0 hx hb dX14_meanLegs_75 ?_
  refine lv_goto (tgt := 88) hx hb dX14_meanLegs_76 (by decide) ?_
  exact ze_d (qs := fun _ => 0) hC hG rfl rfl hr hk (Nat.le_of_ble_eq_true rfl) (Nat.le_of_ble_eq_true rfl) dX14_meanLegs_88
theorem dX7_mix_0 : decode cX7_mix 0 = .ok (.lload_n 0, 1) := by decide +kernel
theorem dX7_mix_1 : decode cX7_mix 1 = .ok (.ldc2_w 390, 3) := by decide +kernel
theorem dX7_mix_4 : decode cX7_mix 4 = .ok (.lmul, 1) := by decide +kernel
theorem dX7_mix_5 : decode cX7_mix 5 = .ok (.lload_n 2, 1) := by decide +kernel
theorem dX7_mix_6 : decode cX7_mix 6 = .ok (.ladd, 1) := by decide +kernel
theorem dX7_mix_7 : decode cX7_mix 7 = .ok (.lreturn, 1) := by decide +kernel
set_option maxHeartbeats 4000000 in
set_option maxRecDepth 100000 in
theorem z_261_mix (l : Launch) (hst : l.stackTraces = false) (D : va_G) (κ : K4) (E0 : Nat) (sz : Nat) (a : Nat → Nat) : NM l yX7_mix cX7_mix 4 (some .long) 0 0 0 0 E0 D κ (xw κ a) sz [.long 58089, .long 0] (QL D κ (xw κ a) sz ((58089 * 31) + 0) (fun qs : W1 => xw κ a)) := by
  refine NM.of (by decide +kernel) (Nat.le_of_ble_eq_true rfl) ?_
  intro p e s m below meth c ls hC hr hk hin hsz hE hT H locs hG hl
  have hx := hC.1
  have hb := hC.2.1
  have hl : lv_has ls 4 [(0, .long 58089), (2, .long 0)] := hl
  refine lv_lload_n hx hb dX7_mix_0 rfl (lv_at hl 0 rfl) ?_
  refine lv_ldc2 hx hb hC.2.2.2.1 (hC.2.2.2.2 _ w1204) dX7_mix_1 ?_
  refine lv_lmul hx hb dX7_mix_4 ?_
  refine lv_lload_n hx hb dX7_mix_5 rfl (lv_at hl 1 rfl) ?_
  refine lv_ladd hx hb dX7_mix_6 ?_
  exact ze_l (qs := fun _ => 0) hC hG rfl rfl hr hk (Nat.le_of_ble_eq_true rfl) (Nat.le_of_ble_eq_true rfl) dX7_mix_7
set_option maxHeartbeats 4000000 in
set_option maxRecDepth 100000 in
theorem z_262_mix (l : Launch) (hst : l.stackTraces = false) (D : va_G) (κ : K4) (E0 : Nat) (sz : Nat) (a : Nat → Nat) (y0 : Int64) : NM l yX7_mix cX7_mix 4 (some .long) 0 0 0 0 E0 D κ (xw κ a) sz [.long y0, .long 0] (QL D κ (xw κ a) sz ((y0 * 31) + 0) (fun qs : W1 => xw κ a)) := by
  refine NM.of (by decide +kernel) (Nat.le_of_ble_eq_true rfl) ?_
  intro p e s m below meth c ls hC hr hk hin hsz hE hT H locs hG hl
  have hx := hC.1
  have hb := hC.2.1
  have hl : lv_has ls 4 [(0, .long y0), (2, .long 0)] := hl
  refine lv_lload_n hx hb dX7_mix_0 rfl (lv_at hl 0 rfl) ?_
  refine lv_ldc2 hx hb hC.2.2.2.1 (hC.2.2.2.2 _ w1204) dX7_mix_1 ?_
  refine lv_lmul hx hb dX7_mix_4 ?_
  refine lv_lload_n hx hb dX7_mix_5 rfl (lv_at hl 1 rfl) ?_
  refine lv_ladd hx hb dX7_mix_6 ?_
  exact ze_l (qs := fun _ => 0) hC hG rfl rfl hr hk (Nat.le_of_ble_eq_true rfl) (Nat.le_of_ble_eq_true rfl) dX7_mix_7
set_option maxHeartbeats 4000000 in
set_option maxRecDepth 100000 in
theorem z_263_mix (l : Launch) (hst : l.stackTraces = false) (D : va_G) (κ : K4) (E0 : Nat) (sz : Nat) (a : Nat → Nat) (y0 : Int64) : NM l yX7_mix cX7_mix 4 (some .long) 0 0 0 0 E0 D κ (xw κ a) sz [.long y0, .long (-1)] (QL D κ (xw κ a) sz ((y0 * 31) + (-1)) (fun qs : W1 => xw κ a)) := by
  refine NM.of (by decide +kernel) (Nat.le_of_ble_eq_true rfl) ?_
  intro p e s m below meth c ls hC hr hk hin hsz hE hT H locs hG hl
  have hx := hC.1
  have hb := hC.2.1
  have hl : lv_has ls 4 [(0, .long y0), (2, .long (-1))] := hl
  refine lv_lload_n hx hb dX7_mix_0 rfl (lv_at hl 0 rfl) ?_
  refine lv_ldc2 hx hb hC.2.2.2.1 (hC.2.2.2.2 _ w1204) dX7_mix_1 ?_
  refine lv_lmul hx hb dX7_mix_4 ?_
  refine lv_lload_n hx hb dX7_mix_5 rfl (lv_at hl 1 rfl) ?_
  refine lv_ladd hx hb dX7_mix_6 ?_
  exact ze_l (qs := fun _ => 0) hC hG rfl rfl hr hk (Nat.le_of_ble_eq_true rfl) (Nat.le_of_ble_eq_true rfl) dX7_mix_7
