theorem dX7_close_0 : decode cX7_close 0 = .ok (.aload_n 0, 1) := by decide +kernel
theorem dX7_close_1 : decode cX7_close 1 = .ok (.iload_n 2, 1) := by decide +kernel
theorem dX7_close_2 : decode cX7_close 2 = .ok (.invokevirtual 102, 3) := by decide +kernel
set_option maxHeartbeats 4000000 in
set_option maxRecDepth 100000 in
theorem z_96_close (l : Launch) (hst : l.stackTraces = false) (D : va_G) (κ : K4) (E0 : Nat) (sz : Nat) (a : Nat → Nat) (x0 : Int32) (x1 : Int32) (k_x0 : -2147483648 ≤ x0.toInt ∧ x0.toInt ≤ 2147483647) (k_x1 : -2147483648 ≤ x1.toInt ∧ x1.toInt ≤ 2147483647) : XM l yX7_close cX7_close 5 (some .int) 7 103 1 6 E0 D κ (xw κ a) sz [.ref (a 0), .int x0, .int x1] "java/lang/IndexOutOfBoundsException" (NI (xw κ a) sz) := by
  refine XM.of (by decide +kernel) (Nat.le_of_ble_eq_true rfl) ?_
  intro p e s m below meth c ls hC hk hno hsz hE hT H locs hG hl
  have hx := hC.1
  have hb := hC.2.1
  have hl : lv_has ls 5 [(0, .ref (a 0)), (1, .int x0), (2, .int x1)] := hl
  refine lv_aload_n hx hb dX7_close_0 rfl (lv_at hl 0 rfl) ?_
  refine lv_iload_n hx hb dX7_close_1 rfl (lv_at hl 2 rfl) ?_
  have cut2 : Cut (xw κ a) (xw κ a) ([]) := (Cut.all 45 rfl (by decide))
  refine zt_v hG cut2 (zx_V (k := 0) (ci := 7) (n := 1) (As := [.int x1]) (rest := []) hC hG hE hT cut2 (z_58_needAccount l hst D κ E0 H.size a x1 ⟨by omega, by omega⟩) rfl rfl w293 w2 w296 w294 w295 (by decide +kernel) ⟨Nat.le_of_ble_eq_true rfl, Nat.le_of_ble_eq_true rfl⟩ rfl hl.1 rfl (Nat.le_of_ble_eq_true rfl) dX7_close_2 ⟨Nat.le_of_ble_eq_true rfl, Nat.le_of_ble_eq_true rfl⟩) (fun ce q9 H locs hG hz1 hz2 hz3 => ?_)
  exact zt_out hno hk hG hz1 hz2 hz3 (Nat.le_of_ble_eq_true rfl) (Nat.le_of_ble_eq_true rfl)
theorem dL_close_0 : decode cL_close 0 = .ok (.aload_n 3, 1) := by decide +kernel
theorem dL_close_1 : decode cL_close 1 = .ok (.iconst 0, 1) := by decide +kernel
theorem dL_close_13 : decode cL_close 13 = .ok (.astore 4, 2) := by decide +kernel
theorem dL_close_15 : decode cL_close 15 = .ok (.iconst 1, 1) := by decide +kernel
theorem dL_close_16 : decode cL_close 16 = .ok (.ireturn, 1) := by decide +kernel
theorem dL_close_2 : decode cL_close 2 = .ok (.aload_n 0, 1) := by decide +kernel
theorem dL_close_3 : decode cL_close 3 = .ok (.iload_n 1, 1) := by decide +kernel
theorem dL_close_4 : decode cL_close 4 = .ok (.iload_n 2, 1) := by decide +kernel
theorem dL_close_5 : decode cL_close 5 = .ok (.invokevirtual 63, 3) := by decide +kernel
set_option maxHeartbeats 4000000 in
set_option maxRecDepth 100000 in
theorem z_97_close (l : Launch) (hst : l.stackTraces = false) (D : va_G) (κ : K4) (E0 : Nat) (sz : Nat) (a : Nat → Nat) (x0 : Int32) (x1 : Int32) (o : Nat) (k_x0 : -2147483648 ≤ x0.toInt ∧ x0.toInt ≤ 2147483647) (k_x1 : -2147483648 ≤ x1.toInt ∧ x1.toInt ≤ 2147483647) : NH l yL_close cL_close 5 (some .int) [(0, 10, 13, 24), (0, 10, 17, 13), (0, 10, 21, 15)] 8 127 1 6 E0 D κ (xw κ a ++ [(o, .inl (κ.2.1, 1, .inr (.inl (fun _ => 0))))]) sz [.ref (a 0), .int x0, .int x1, .ref o] (QI D κ (xw κ a ++ [(o, .inl (κ.2.1, 1, .inr (.inl (fun _ => 0))))]) sz 1 (fun qs : W1 => [(o, .inl (κ.2.1, 1, .inr (.inl (fun _ => 0))))])) := by
  refine NH.of (by decide +kernel) (Nat.le_of_ble_eq_true rfl) ?_
  intro p e s m below meth c ls hC hr hk htab hsz hE hT H locs hG hl
  have hx := hC.1
  have hb := hC.2.1
  have hl : lv_has ls 5 [(0, .ref (a 0)), (1, .int x0), (2, .int x1), (3, .ref o)] := hl
  refine lv_aload_n hx hb dL_close_0 rfl (lv_at hl 3 rfl) ?_
  refine lv_iconst (v := 0) hx hb dL_close_1 (by decide) ?_
  refine lv_aload_n hx hb dL_close_2 rfl (lv_at hl 0 rfl) ?_
  refine lv_iload_n hx hb dL_close_3 rfl (lv_at hl 1 rfl) ?_
  refine lv_iload_n hx hb dL_close_4 rfl (lv_at hl 2 rfl) ?_
  have cut5 : Cut (xw κ a ++ [(o, .inl (κ.2.1, 1, .inr (.inl (fun _ => 0))))]) (xw κ a) ([(o, .inl (κ.2.1, 1, .inr (.inl (fun _ => 0))))]) := (Cut.one 45 rfl (by decide))
  refine zt_i hG cut5 (zx_V (k := 0) (ci := 7) (n := 2) (As := [.int x0, .int x1]) (rest := [.int 0, .ref o]) hC hG hE hT cut5 (z_96_close l hst D κ E0 H.size a x0 x1 ⟨by omega, by omega⟩ ⟨by omega, by omega⟩) rfl rfl w771 w2 w774 w772 w773 (by decide +kernel) ⟨Nat.le_of_ble_eq_true rfl, Nat.le_of_ble_eq_true rfl⟩ rfl hl.1 rfl (Nat.le_of_ble_eq_true rfl) dL_close_5 ⟨Nat.le_of_ble_eq_true rfl, Nat.le_of_ble_eq_true rfl⟩) (fun ce q9 H locs hG hz1 hz2 hz3 => ?_)
  refine vx_catch (own := RL) (name := "java/lang/IndexOutOfBoundsException") (E := "java/lang/IndexOutOfBoundsException") hC.2.2.2.1 [] ⟨0, 10, 13, 24⟩ [⟨0, 10, 17, 13⟩, ⟨0, 10, 21, 15⟩] htab (fun z hz => by simp at hz) (by decide) (by decide) (hC.2.2.2.2 _ w285) (va_Nw.use rfl (hT.1 ("java/lang/IndexOutOfBoundsException", "java/lang/IndexOutOfBoundsException") (by decide))) hz1 hz2 hz3 ?_
  refine lv_astore (lv' := [(4, .ref q9), (0, .ref (a 0)), (1, .int x0), (2, .int x1), (3, .ref o)]) hx hb dL_close_13 hl (by decide) rfl (fun ls hl => ?_)
  refine lv_iconst (v := 1) hx hb dL_close_15 (by decide) ?_
  exact ze_i (qs := fun _ => 0) hC hG rfl rfl hr rfl hk (Nat.le_of_ble_eq_true rfl) (Nat.le_of_ble_eq_true rfl) dL_close_16
theorem dX14_close_0 : decode cX14_close 0 = .ok (.aload_n 0, 1) := by decide +kernel
theorem dX14_close_1 : decode cX14_close 1 = .ok (.iload_n 2, 1) := by decide +kernel
theorem dX14_close_2 : decode cX14_close 2 = .ok (.invokevirtual 157, 3) := by decide +kernel
theorem dX14_close_5 : decode cX14_close 5 = .ok (.ifCond .eq 5, 3) := by decide +kernel
theorem dX14_close_8 : decode cX14_close 8 = .ok (.iconst 0, 1) := by decide +kernel
theorem dX14_close_9 : decode cX14_close 9 = .ok (.ireturn, 1) := by decide +kernel
set_option maxHeartbeats 4000000 in
set_option maxRecDepth 100000 in
theorem z_98_close (l : Launch) (hst : l.stackTraces = false) (D : va_G) (κ : K4) (E0 : Nat) (sz : Nat) (b : Nat → Nat) (x0 : Int32) (x1 : Int32) (k_x0 : -2147483648 ≤ x0.toInt ∧ x0.toInt ≤ 2147483647) (k_x1 : -2147483648 ≤ x1.toInt ∧ x1.toInt ≤ 2147483647) : NM l yX14_close cX14_close 8 (some .int) 3 65 0 0 E0 D κ (mw κ b E0 0) sz [.ref (b 0), .int x0, .int x1] (QI D κ (mw κ b E0 0) sz 0 (fun qs : W1 => mw κ b E0 1)) := by
  refine NM.of (by decide +kernel) (Nat.le_of_ble_eq_true rfl) ?_
  intro p e s m below meth c ls hC hr hk hin hsz hE hT H locs hG hl
  have hx := hC.1
  have hb := hC.2.1
  have hl : lv_has ls 8 [(0, .ref (b 0)), (1, .int x0), (2, .int x1)] := hl
  refine lv_aload_n hx hb dX14_close_0 rfl (lv_at hl 0 rfl) ?_
  refine lv_iload_n hx hb dX14_close_1 rfl (lv_at hl 2 rfl) ?_
  have cut2 : Cut (mw κ b E0 0) (mw κ b E0 0) ([]) := (Cut.all 9 rfl (by decide))
  refine zc_i hG cut2 (zr_V (k := 0) (ci := 9) (n := 1) (As := [.int x1]) (rest := []) hC hG hE hT cut2 (z_63_isNoAccount l hst D κ E0 H.size b x1 ⟨by omega, by omega⟩) rfl rfl w335 w5 w338 w336 w337 (by decide +kernel) ⟨Nat.le_of_ble_eq_true rfl, Nat.le_of_ble_eq_true rfl⟩ rfl hl.1 rfl (Nat.le_of_ble_eq_true rfl) dX14_close_2 ⟨Nat.le_of_ble_eq_true rfl, Nat.le_of_ble_eq_true rfl⟩) (fun z1 H locs hG => ?_)
  have hG : BW D κ (mw κ b E0 1) _ s H locs := hG
  refine lv_if_eq (tgt := 10) hx hb dX14_close_5 (by decide) (fun h5 => absurd h5 (by decide)) (fun _ => ?_)
  refine lv_iconst (v := 0) hx hb dX14_close_8 (by decide) ?_
  exact ze_i (qs := fun _ => 0) hC hG rfl rfl hr rfl hk (Nat.le_of_ble_eq_true rfl) (Nat.le_of_ble_eq_true rfl) dX14_close_9
theorem dX7_line_0 : decode cX7_line 0 = .ok (.aload_n 0, 1) := by decide +kernel
theorem dX7_line_1 : decode cX7_line 1 = .ok (.iload_n 1, 1) := by decide +kernel
theorem dX7_line_2 : decode cX7_line 2 = .ok (.invokevirtual 102, 3) := by decide +kernel
set_option maxHeartbeats 4000000 in
set_option maxRecDepth 100000 in
theorem z_99_line (l : Launch) (hst : l.stackTraces = false) (D : va_G) (κ : K4) (E0 : Nat) (sz : Nat) (a : Nat → Nat) (x0 : Int32) (x1 : Int32) (x2 : Int32) (k_x0 : -2147483648 ≤ x0.toInt ∧ x0.toInt ≤ 2147483647) (k_x1 : -2147483648 ≤ x1.toInt ∧ x1.toInt ≤ 2147483647) (k_x2 : -2147483648 ≤ x2.toInt ∧ x2.toInt ≤ 2147483647) : XM l yX7_line cX7_line 4 (some .int) 7 103 1 6 E0 D κ (xw κ a) sz [.ref (a 0), .int x0, .int x1, .int x2] "java/lang/IndexOutOfBoundsException" (NI (xw κ a) sz) := by
  refine XM.of (by decide +kernel) (Nat.le_of_ble_eq_true rfl) ?_
  intro p e s m below meth c ls hC hk hno hsz hE hT H locs hG hl
  have hx := hC.1
  have hb := hC.2.1
  have hl : lv_has ls 4 [(0, .ref (a 0)), (1, .int x0), (2, .int x1), (3, .int x2)] := hl
  refine lv_aload_n hx hb dX7_line_0 rfl (lv_at hl 0 rfl) ?_
  refine lv_iload_n hx hb dX7_line_1 rfl (lv_at hl 1 rfl) ?_
  have cut2 : Cut (xw κ a) (xw κ a) ([]) := (Cut.all 45 rfl (by decide))
  refine zt_v hG cut2 (zx_V (k := 0) (ci := 7) (n := 1) (As := [.int x0]) (rest := []) hC hG hE hT cut2 (z_58_needAccount l hst D κ E0 H.size a x0 ⟨by omega, by omega⟩) rfl rfl w293 w2 w296 w294 w295 (by decide +kernel) ⟨Nat.le_of_ble_eq_true rfl, Nat.le_of_ble_eq_true rfl⟩ rfl hl.1 rfl (Nat.le_of_ble_eq_true rfl) dX7_line_2 ⟨Nat.le_of_ble_eq_true rfl, Nat.le_of_ble_eq_true rfl⟩) (fun ce q9 H locs hG hz1 hz2 hz3 => ?_)
  exact zt_out hno hk hG hz1 hz2 hz3 (Nat.le_of_ble_eq_true rfl) (Nat.le_of_ble_eq_true rfl)
theorem dL_line_0 : decode cL_line 0 = .ok (.aload 4, 2) := by decide +kernel
theorem dL_line_15 : decode cL_line 15 = .ok (.astore 5, 2) := by decide +kernel
theorem dL_line_17 : decode cL_line 17 = .ok (.iconst 1, 1) := by decide +kernel
theorem dL_line_18 : decode cL_line 18 = .ok (.ireturn, 1) := by decide +kernel
theorem dL_line_2 : decode cL_line 2 = .ok (.iconst 0, 1) := by decide +kernel
theorem dL_line_3 : decode cL_line 3 = .ok (.aload_n 0, 1) := by decide +kernel
theorem dL_line_4 : decode cL_line 4 = .ok (.iload_n 1, 1) := by decide +kernel
theorem dL_line_5 : decode cL_line 5 = .ok (.iload_n 2, 1) := by decide +kernel
theorem dL_line_6 : decode cL_line 6 = .ok (.iload_n 3, 1) := by decide +kernel
theorem dL_line_7 : decode cL_line 7 = .ok (.invokevirtual 69, 3) := by decide +kernel
set_option maxHeartbeats 4000000 in
set_option maxRecDepth 100000 in
theorem z_100_line (l : Launch) (hst : l.stackTraces = false) (D : va_G) (κ : K4) (E0 : Nat) (sz : Nat) (a : Nat → Nat) (x0 : Int32) (x1 : Int32) (x2 : Int32) (o : Nat) (k_x0 : -2147483648 ≤ x0.toInt ∧ x0.toInt ≤ 2147483647) (k_x1 : -2147483648 ≤ x1.toInt ∧ x1.toInt ≤ 2147483647) (k_x2 : -2147483648 ≤ x2.toInt ∧ x2.toInt ≤ 2147483647) : NH l yL_line cL_line 6 (some .int) [(0, 12, 15, 24), (0, 12, 19, 13), (0, 12, 23, 15)] 8 126 1 6 E0 D κ (xw κ a ++ [(o, .inl (κ.2.1, 1, .inr (.inl (fun _ => 0))))]) sz [.ref (a 0), .int x0, .int x1, .int x2, .ref o] (QI D κ (xw κ a ++ [(o, .inl (κ.2.1, 1, .inr (.inl (fun _ => 0))))]) sz 1 (fun qs : W1 => [(o, .inl (κ.2.1, 1, .inr (.inl (fun _ => 0))))])) := by
  refine NH.of (by decide +kernel) (Nat.le_of_ble_eq_true rfl) ?_
  intro p e s m below meth c ls hC hr hk htab hsz hE hT H locs hG hl
  have hx := hC.1
  have hb := hC.2.1
  have hl : lv_has ls 6 [(0, .ref (a 0)), (1, .int x0), (2, .int x1), (3, .int x2), (4, .ref o)] := hl
  refine lv_aload hx hb dL_line_0 (lv_at hl 4 rfl) ?_
  refine lv_iconst (v := 0) hx hb dL_line_2 (by decide) ?_
  refine lv_aload_n hx hb dL_line_3 rfl (lv_at hl 0 rfl) ?_
  refine lv_iload_n hx hb dL_line_4 rfl (lv_at hl 1 rfl) ?_
  refine lv_iload_n hx hb dL_line_5 rfl (lv_at hl 2 rfl) ?_
  refine lv_iload_n hx hb dL_line_6 rfl (lv_at hl 3 rfl) ?_
  have cut7 : Cut (xw κ a ++ [(o, .inl (κ.2.1, 1, .inr (.inl (fun _ => 0))))]) (xw κ a) ([(o, .inl (κ.2.1, 1, .inr (.inl (fun _ => 0))))]) := (Cut.one 45 rfl (by decide))
  refine zt_i hG cut7 (zx_V (k := 0) (ci := 7) (n := 3) (As := [.int x0, .int x1, .int x2]) (rest := [.int 0, .ref o]) hC hG hE hT cut7 (z_99_line l hst D κ E0 H.size a x0 x1 x2 ⟨by omega, by omega⟩ ⟨by omega, by omega⟩ ⟨by omega, by omega⟩) rfl rfl w859 w2 w862 w860 w861 (by decide +kernel) ⟨Nat.le_of_ble_eq_true rfl, Nat.le_of_ble_eq_true rfl⟩ rfl hl.1 rfl (Nat.le_of_ble_eq_true rfl) dL_line_7 ⟨Nat.le_of_ble_eq_true rfl, Nat.le_of_ble_eq_true rfl⟩) (fun ce q9 H locs hG hz1 hz2 hz3 => ?_)
  refine vx_catch (own := RL) (name := "java/lang/IndexOutOfBoundsException") (E := "java/lang/IndexOutOfBoundsException") hC.2.2.2.1 [] ⟨0, 12, 15, 24⟩ [⟨0, 12, 19, 13⟩, ⟨0, 12, 23, 15⟩] htab (fun z hz => by simp at hz) (by decide) (by decide) (hC.2.2.2.2 _ w285) (va_Nw.use rfl (hT.1 ("java/lang/IndexOutOfBoundsException", "java/lang/IndexOutOfBoundsException") (by decide))) hz1 hz2 hz3 ?_
  refine lv_astore (lv' := [(5, .ref q9), (0, .ref (a 0)), (1, .int x0), (2, .int x1), (3, .int x2), (4, .ref o)]) hx hb dL_line_15 hl (by decide) rfl (fun ls hl => ?_)
  refine lv_iconst (v := 1) hx hb dL_line_17 (by decide) ?_
  exact ze_i (qs := fun _ => 0) hC hG rfl rfl hr rfl hk (Nat.le_of_ble_eq_true rfl) (Nat.le_of_ble_eq_true rfl) dL_line_18
theorem dX14_line_0 : decode cX14_line 0 = .ok (.aload_n 0, 1) := by decide +kernel
theorem dX14_line_1 : decode cX14_line 1 = .ok (.iload_n 1, 1) := by decide +kernel
theorem dX14_line_2 : decode cX14_line 2 = .ok (.invokevirtual 157, 3) := by decide +kernel
theorem dX14_line_5 : decode cX14_line 5 = .ok (.ifCond .ne 59, 3) := by decide +kernel
theorem dX14_line_64 : decode cX14_line 64 = .ok (.iconst 0, 1) := by decide +kernel
theorem dX14_line_65 : decode cX14_line 65 = .ok (.ireturn, 1) := by decide +kernel
set_option maxHeartbeats 4000000 in
set_option maxRecDepth 100000 in
theorem z_101_line (l : Launch) (hst : l.stackTraces = false) (D : va_G) (κ : K4) (E0 : Nat) (sz : Nat) (b : Nat → Nat) (x0 : Int32) (x1 : Int32) (x2 : Int32) (k_x0 : -2147483648 ≤ x0.toInt ∧ x0.toInt ≤ 2147483647) (k_x1 : -2147483648 ≤ x1.toInt ∧ x1.toInt ≤ 2147483647) (k_x2 : -2147483648 ≤ x2.toInt ∧ x2.toInt ≤ 2147483647) : NM l yX14_line cX14_line 4 (some .int) 3 65 0 0 E0 D κ (mw κ b E0 0) sz [.ref (b 0), .int x0, .int x1, .int x2] (QI D κ (mw κ b E0 0) sz 0 (fun qs : W1 => mw κ b E0 1)) := by
  refine NM.of (by decide +kernel) (Nat.le_of_ble_eq_true rfl) ?_
  intro p e s m below meth c ls hC hr hk hin hsz hE hT H locs hG hl
  have hx := hC.1
  have hb := hC.2.1
  have hl : lv_has ls 4 [(0, .ref (b 0)), (1, .int x0), (2, .int x1), (3, .int x2)] := hl
  refine lv_aload_n hx hb dX14_line_0 rfl (lv_at hl 0 rfl) ?_
  refine lv_iload_n hx hb dX14_line_1 rfl (lv_at hl 1 rfl) ?_
  have cut2 : Cut (mw κ b E0 0) (mw κ b E0 0) ([]) := (Cut.all 9 rfl (by decide))
  refine zc_i hG cut2 (zr_V (k := 0) (ci := 9) (n := 1) (As := [.int x0]) (rest := []) hC hG hE hT cut2 (z_63_isNoAccount l hst D κ E0 H.size b x0 ⟨by omega, by omega⟩) rfl rfl w335 w5 w338 w336 w337 (by decide +kernel) ⟨Nat.le_of_ble_eq_true rfl, Nat.le_of_ble_eq_true rfl⟩ rfl hl.1 rfl (Nat.le_of_ble_eq_true rfl) dX14_line_2 ⟨Nat.le_of_ble_eq_true rfl, Nat.le_of_ble_eq_true rfl⟩) (fun z1 H locs hG => ?_)
  have hG : BW D κ (mw κ b E0 1) _ s H locs := hG
  refine lv_if_ne (tgt := 64) hx hb dX14_line_5 (by decide) (fun _ => ?_) (fun h5 => absurd h5 (by decide))
  refine lv_iconst (v := 0) hx hb dX14_line_64 (by decide) ?_
  exact ze_i (qs := fun _ => 0) hC hG rfl rfl hr rfl hk (Nat.le_of_ble_eq_true rfl) (Nat.le_of_ble_eq_true rfl) dX14_line_65
theorem dX7_match_0 : decode cX7_match 0 = .ok (.aload_n 0, 1) := by decide +kernel
theorem dX7_match_1 : decode cX7_match 1 = .ok (.iload_n 1, 1) := by decide +kernel
theorem dX7_match_2 : decode cX7_match 2 = .ok (.invokevirtual 102, 3) := by decide +kernel
set_option maxHeartbeats 4000000 in
set_option maxRecDepth 100000 in
theorem z_102_match (l : Launch) (hst : l.stackTraces = false) (D : va_G) (κ : K4) (E0 : Nat) (sz : Nat) (a : Nat → Nat) (x0 : Int32) (x1 : Int32) (k_x0 : -2147483648 ≤ x0.toInt ∧ x0.toInt ≤ 2147483647) (k_x1 : -2147483648 ≤ x1.toInt ∧ x1.toInt ≤ 2147483647) : XM l yX7_match cX7_match 3 (some .int) 7 103 1 6 E0 D κ (xw κ a) sz [.ref (a 0), .int x0, .int x1] "java/lang/IndexOutOfBoundsException" (NI (xw κ a) sz) := by
  refine XM.of (by decide +kernel) (Nat.le_of_ble_eq_true rfl) ?_
  intro p e s m below meth c ls hC hk hno hsz hE hT H locs hG hl
  have hx := hC.1
  have hb := hC.2.1
  have hl : lv_has ls 3 [(0, .ref (a 0)), (1, .int x0), (2, .int x1)] := hl
  refine lv_aload_n hx hb dX7_match_0 rfl (lv_at hl 0 rfl) ?_
  refine lv_iload_n hx hb dX7_match_1 rfl (lv_at hl 1 rfl) ?_
  have cut2 : Cut (xw κ a) (xw κ a) ([]) := (Cut.all 45 rfl (by decide))
  refine zt_v hG cut2 (zx_V (k := 0) (ci := 7) (n := 1) (As := [.int x0]) (rest := []) hC hG hE hT cut2 (z_58_needAccount l hst D κ E0 H.size a x0 ⟨by omega, by omega⟩) rfl rfl w293 w2 w296 w294 w295 (by decide +kernel) ⟨Nat.le_of_ble_eq_true rfl, Nat.le_of_ble_eq_true rfl⟩ rfl hl.1 rfl (Nat.le_of_ble_eq_true rfl) dX7_match_2 ⟨Nat.le_of_ble_eq_true rfl, Nat.le_of_ble_eq_true rfl⟩) (fun ce q9 H locs hG hz1 hz2 hz3 => ?_)
  exact zt_out hno hk hG hz1 hz2 hz3 (Nat.le_of_ble_eq_true rfl) (Nat.le_of_ble_eq_true rfl)
theorem dL_match_0 : decode cL_match 0 = .ok (.aload_n 3, 1) := by decide +kernel
theorem dL_match_1 : decode cL_match 1 = .ok (.iconst 0, 1) := by decide +kernel
theorem dL_match_13 : decode cL_match 13 = .ok (.astore 4, 2) := by decide +kernel
theorem dL_match_15 : decode cL_match 15 = .ok (.iconst 1, 1) := by decide +kernel
theorem dL_match_16 : decode cL_match 16 = .ok (.ireturn, 1) := by decide +kernel
theorem dL_match_2 : decode cL_match 2 = .ok (.aload_n 0, 1) := by decide +kernel
theorem dL_match_3 : decode cL_match 3 = .ok (.iload_n 1, 1) := by decide +kernel
theorem dL_match_4 : decode cL_match 4 = .ok (.iload_n 2, 1) := by decide +kernel
theorem dL_match_5 : decode cL_match 5 = .ok (.invokevirtual 72, 3) := by decide +kernel
set_option maxHeartbeats 4000000 in
set_option maxRecDepth 100000 in
theorem z_103_match (l : Launch) (hst : l.stackTraces = false) (D : va_G) (κ : K4) (E0 : Nat) (sz : Nat) (a : Nat → Nat) (x0 : Int32) (x1 : Int32) (o : Nat) (k_x0 : -2147483648 ≤ x0.toInt ∧ x0.toInt ≤ 2147483647) (k_x1 : -2147483648 ≤ x1.toInt ∧ x1.toInt ≤ 2147483647) : NH l yL_match cL_match 5 (some .int) [(0, 10, 13, 24), (0, 10, 17, 13)] 8 125 1 6 E0 D κ (xw κ a ++ [(o, .inl (κ.2.1, 1, .inr (.inl (fun _ => 0))))]) sz [.ref (a 0), .int x0, .int x1, .ref o] (QI D κ (xw κ a ++ [(o, .inl (κ.2.1, 1, .inr (.inl (fun _ => 0))))]) sz 1 (fun qs : W1 => [(o, .inl (κ.2.1, 1, .inr (.inl (fun _ => 0))))])) := by
  refine NH.of (by decide +kernel) (Nat.le_of_ble_eq_true rfl) ?_
  intro p e s m below meth c ls hC hr hk htab hsz hE hT H locs hG hl
  have hx := hC.1
  have hb := hC.2.1
  have hl : lv_has ls 5 [(0, .ref (a 0)), (1, .int x0), (2, .int x1), (3, .ref o)] := hl
  refine lv_aload_n hx hb dL_match_0 rfl (lv_at hl 3 rfl) ?_
  refine lv_iconst (v := 0) hx hb dL_match_1 (by decide) ?_
  refine lv_aload_n hx hb dL_match_2 rfl (lv_at hl 0 rfl) ?_
  refine lv_iload_n hx hb dL_match_3 rfl (lv_at hl 1 rfl) ?_
  refine lv_iload_n hx hb dL_match_4 rfl (lv_at hl 2 rfl) ?_
  have cut5 : Cut (xw κ a ++ [(o, .inl (κ.2.1, 1, .inr (.inl (fun _ => 0))))]) (xw κ a) ([(o, .inl (κ.2.1, 1, .inr (.inl (fun _ => 0))))]) := (Cut.one 45 rfl (by decide))
  refine zt_i hG cut5 (zx_V (k := 0) (ci := 7) (n := 2) (As := [.int x0, .int x1]) (rest := [.int 0, .ref o]) hC hG hE hT cut5 (z_102_match l hst D κ E0 H.size a x0 x1 ⟨by omega, by omega⟩ ⟨by omega, by omega⟩) rfl rfl w890 w2 w893 w891 w892 (by decide +kernel) ⟨Nat.le_of_ble_eq_true rfl, Nat.le_of_ble_eq_true rfl⟩ rfl hl.1 rfl (Nat.le_of_ble_eq_true rfl) dL_match_5 ⟨Nat.le_of_ble_eq_true rfl, Nat.le_of_ble_eq_true rfl⟩) (fun ce q9 H locs hG hz1 hz2 hz3 => ?_)
  refine vx_catch (own := RL) (name := "java/lang/IndexOutOfBoundsException") (E := "java/lang/IndexOutOfBoundsException") hC.2.2.2.1 [] ⟨0, 10, 13, 24⟩ [⟨0, 10, 17, 13⟩] htab (fun z hz => by simp at hz) (by decide) (by decide) (hC.2.2.2.2 _ w285) (va_Nw.use rfl (hT.1 ("java/lang/IndexOutOfBoundsException", "java/lang/IndexOutOfBoundsException") (by decide))) hz1 hz2 hz3 ?_
  refine lv_astore (lv' := [(4, .ref q9), (0, .ref (a 0)), (1, .int x0), (2, .int x1), (3, .ref o)]) hx hb dL_match_13 hl (by decide) rfl (fun ls hl => ?_)
  refine lv_iconst (v := 1) hx hb dL_match_15 (by decide) ?_
  exact ze_i (qs := fun _ => 0) hC hG rfl rfl hr rfl hk (Nat.le_of_ble_eq_true rfl) (Nat.le_of_ble_eq_true rfl) dL_match_16
theorem dX14_match_0 : decode cX14_match 0 = .ok (.aload_n 0, 1) := by decide +kernel
theorem dX14_match_1 : decode cX14_match 1 = .ok (.iload_n 1, 1) := by decide +kernel
theorem dX14_match_2 : decode cX14_match 2 = .ok (.invokevirtual 157, 3) := by decide +kernel
theorem dX14_match_31 : decode cX14_match 31 = .ok (.iconst 0, 1) := by decide +kernel
theorem dX14_match_32 : decode cX14_match 32 = .ok (.ireturn, 1) := by decide +kernel
theorem dX14_match_5 : decode cX14_match 5 = .ok (.ifCond .ne 26, 3) := by decide +kernel
set_option maxHeartbeats 4000000 in
set_option maxRecDepth 100000 in
theorem z_104_match (l : Launch) (hst : l.stackTraces = false) (D : va_G) (κ : K4) (E0 : Nat) (sz : Nat) (b : Nat → Nat) (x0 : Int32) (x1 : Int32) (k_x0 : -2147483648 ≤ x0.toInt ∧ x0.toInt ≤ 2147483647) (k_x1 : -2147483648 ≤ x1.toInt ∧ x1.toInt ≤ 2147483647) : NM l yX14_match cX14_match 7 (some .int) 3 65 0 0 E0 D κ (mw κ b E0 0) sz [.ref (b 0), .int x0, .int x1] (QI D κ (mw κ b E0 0) sz 0 (fun qs : W1 => mw κ b E0 1)) := by
  refine NM.of (by decide +kernel) (Nat.le_of_ble_eq_true rfl) ?_
  intro p e s m below meth c ls hC hr hk hin hsz hE hT H locs hG hl
  have hx := hC.1
  have hb := hC.2.1
  have hl : lv_has ls 7 [(0, .ref (b 0)), (1, .int x0), (2, .int x1)] := hl
  refine lv_aload_n hx hb dX14_match_0 rfl (lv_at hl 0 rfl) ?_
  refine lv_iload_n hx hb dX14_match_1 rfl (lv_at hl 1 rfl) ?_
  have cut2 : Cut (mw κ b E0 0) (mw κ b E0 0) ([]) := (Cut.all 9 rfl (by decide))
  refine zc_i hG cut2 (zr_V (k := 0) (ci := 9) (n := 1) (As := [.int x0]) (rest := []) hC hG hE hT cut2 (z_63_isNoAccount l hst D κ E0 H.size b x0 ⟨by omega, by omega⟩) rfl rfl w335 w5 w338 w336 w337 (by decide +kernel) ⟨Nat.le_of_ble_eq_true rfl, Nat.le_of_ble_eq_true rfl⟩ rfl hl.1 rfl (Nat.le_of_ble_eq_true rfl) dX14_match_2 ⟨Nat.le_of_ble_eq_true rfl, Nat.le_of_ble_eq_true rfl⟩) (fun z1 H locs hG => ?_)
  have hG : BW D κ (mw κ b E0 1) _ s H locs := hG
  refine lv_if_ne (tgt := 31) hx hb dX14_match_5 (by decide) (fun _ => ?_) (fun h5 => absurd h5 (by decide))
  refine lv_iconst (v := 0) hx hb dX14_match_31 (by decide) ?_
  exact ze_i (qs := fun _ => 0) hC hG rfl rfl hr rfl hk (Nat.le_of_ble_eq_true rfl) (Nat.le_of_ble_eq_true rfl) dX14_match_32
theorem dX7_left_0 : decode cX7_left 0 = .ok (.aload_n 0, 1) := by decide +kernel
theorem dX7_left_1 : decode cX7_left 1 = .ok (.iload_n 1, 1) := by decide +kernel
theorem dX7_left_2 : decode cX7_left 2 = .ok (.invokevirtual 102, 3) := by decide +kernel
set_option maxHeartbeats 4000000 in
set_option maxRecDepth 100000 in
theorem z_105_left (l : Launch) (hst : l.stackTraces = false) (D : va_G) (κ : K4) (E0 : Nat) (sz : Nat) (a : Nat → Nat) (x0 : Int32) (x1 : Int32) (k_x0 : -2147483648 ≤ x0.toInt ∧ x0.toInt ≤ 2147483647) (k_x1 : -2147483648 ≤ x1.toInt ∧ x1.toInt ≤ 2147483647) : XM l yX7_left cX7_left 3 (some .long) 7 103 1 6 E0 D κ (xw κ a) sz [.ref (a 0), .int x0, .int x1] "java/lang/IndexOutOfBoundsException" (NL (xw κ a) sz) := by
  refine XM.of (by decide +kernel) (Nat.le_of_ble_eq_true rfl) ?_
  intro p e s m below meth c ls hC hk hno hsz hE hT H locs hG hl
  have hx := hC.1
  have hb := hC.2.1
  have hl : lv_has ls 3 [(0, .ref (a 0)), (1, .int x0), (2, .int x1)] := hl
  refine lv_aload_n hx hb dX7_left_0 rfl (lv_at hl 0 rfl) ?_
  refine lv_iload_n hx hb dX7_left_1 rfl (lv_at hl 1 rfl) ?_
  have cut2 : Cut (xw κ a) (xw κ a) ([]) := (Cut.all 45 rfl (by decide))
  refine zt_v hG cut2 (zx_V (k := 0) (ci := 7) (n := 1) (As := [.int x0]) (rest := []) hC hG hE hT cut2 (z_58_needAccount l hst D κ E0 H.size a x0 ⟨by omega, by omega⟩) rfl rfl w293 w2 w296 w294 w295 (by decide +kernel) ⟨Nat.le_of_ble_eq_true rfl, Nat.le_of_ble_eq_true rfl⟩ rfl hl.1 rfl (Nat.le_of_ble_eq_true rfl) dX7_left_2 ⟨Nat.le_of_ble_eq_true rfl, Nat.le_of_ble_eq_true rfl⟩) (fun ce q9 H locs hG hz1 hz2 hz3 => ?_)
  exact zt_out hno hk hG hz1 hz2 hz3 (Nat.le_of_ble_eq_true rfl) (Nat.le_of_ble_eq_true rfl)
theorem dL_left_0 : decode cL_left 0 = .ok (.aload_n 3, 1) := by decide +kernel
theorem dL_left_1 : decode cL_left 1 = .ok (.iconst 0, 1) := by decide +kernel
theorem dL_left_12 : decode cL_left 12 = .ok (.astore 4, 2) := by decide +kernel
theorem dL_left_14 : decode cL_left 14 = .ok (.iconst 1, 1) := by decide +kernel
theorem dL_left_15 : decode cL_left 15 = .ok (.ireturn, 1) := by decide +kernel
theorem dL_left_2 : decode cL_left 2 = .ok (.aload_n 0, 1) := by decide +kernel
theorem dL_left_3 : decode cL_left 3 = .ok (.iload_n 1, 1) := by decide +kernel
theorem dL_left_4 : decode cL_left 4 = .ok (.iload_n 2, 1) := by decide +kernel
theorem dL_left_5 : decode cL_left 5 = .ok (.invokevirtual 75, 3) := by decide +kernel
set_option maxHeartbeats 4000000 in
set_option maxRecDepth 100000 in
theorem z_106_left (l : Launch) (hst : l.stackTraces = false) (D : va_G) (κ : K4) (E0 : Nat) (sz : Nat) (a : Nat → Nat) (x0 : Int32) (x1 : Int32) (o : Nat) (k_x0 : -2147483648 ≤ x0.toInt ∧ x0.toInt ≤ 2147483647) (k_x1 : -2147483648 ≤ x1.toInt ∧ x1.toInt ≤ 2147483647) : NH l yL_left cL_left 5 (some .int) [(0, 9, 12, 24), (0, 9, 16, 13)] 8 125 1 6 E0 D κ (xw κ a ++ [(o, .inl (κ.2.1, 1, .inr (.inl (fun _ => 0))))]) sz [.ref (a 0), .int x0, .int x1, .ref o] (QI D κ (xw κ a ++ [(o, .inl (κ.2.1, 1, .inr (.inl (fun _ => 0))))]) sz 1 (fun qs : W1 => [(o, .inl (κ.2.1, 1, .inr (.inl (fun _ => 0))))])) := by
  refine NH.of (by decide +kernel) (Nat.le_of_ble_eq_true rfl) ?_
  intro p e s m below meth c ls hC hr hk htab hsz hE hT H locs hG hl
  have hx := hC.1
  have hb := hC.2.1
  have hl : lv_has ls 5 [(0, .ref (a 0)), (1, .int x0), (2, .int x1), (3, .ref o)] := hl
  refine lv_aload_n hx hb dL_left_0 rfl (lv_at hl 3 rfl) ?_
  refine lv_iconst (v := 0) hx hb dL_left_1 (by decide) ?_
  refine lv_aload_n hx hb dL_left_2 rfl (lv_at hl 0 rfl) ?_
  refine lv_iload_n hx hb dL_left_3 rfl (lv_at hl 1 rfl) ?_
  refine lv_iload_n hx hb dL_left_4 rfl (lv_at hl 2 rfl) ?_
  have cut5 : Cut (xw κ a ++ [(o, .inl (κ.2.1, 1, .inr (.inl (fun _ => 0))))]) (xw κ a) ([(o, .inl (κ.2.1, 1, .inr (.inl (fun _ => 0))))]) := (Cut.one 45 rfl (by decide))
  refine zt_l hG cut5 (zx_V (k := 0) (ci := 7) (n := 2) (As := [.int x0, .int x1]) (rest := [.int 0, .ref o]) hC hG hE hT cut5 (z_105_left l hst D κ E0 H.size a x0 x1 ⟨by omega, by omega⟩ ⟨by omega, by omega⟩) rfl rfl w1007 w2 w1010 w1008 w1009 (by decide +kernel) ⟨Nat.le_of_ble_eq_true rfl, Nat.le_of_ble_eq_true rfl⟩ rfl hl.1 rfl (Nat.le_of_ble_eq_true rfl) dL_left_5 ⟨Nat.le_of_ble_eq_true rfl, Nat.le_of_ble_eq_true rfl⟩) (fun ce q9 H locs hG hz1 hz2 hz3 => ?_)
  refine vx_catch (own := RL) (name := "java/lang/IndexOutOfBoundsException") (E := "java/lang/IndexOutOfBoundsException") hC.2.2.2.1 [] ⟨0, 9, 12, 24⟩ [⟨0, 9, 16, 13⟩] htab (fun z hz => by simp at hz) (by decide) (by decide) (hC.2.2.2.2 _ w285) (va_Nw.use rfl (hT.1 ("java/lang/IndexOutOfBoundsException", "java/lang/IndexOutOfBoundsException") (by decide))) hz1 hz2 hz3 ?_
  refine lv_astore (lv' := [(4, .ref q9), (0, .ref (a 0)), (1, .int x0), (2, .int x1), (3, .ref o)]) hx hb dL_left_12 hl (by decide) rfl (fun ls hl => ?_)
  refine lv_iconst (v := 1) hx hb dL_left_14 (by decide) ?_
  exact ze_i (qs := fun _ => 0) hC hG rfl rfl hr rfl hk (Nat.le_of_ble_eq_true rfl) (Nat.le_of_ble_eq_true rfl) dL_left_15
theorem dX14_left_0 : decode cX14_left 0 = .ok (.aload_n 0, 1) := by decide +kernel
theorem dX14_left_1 : decode cX14_left 1 = .ok (.iload_n 1, 1) := by decide +kernel
theorem dX14_left_2 : decode cX14_left 2 = .ok (.invokevirtual 157, 3) := by decide +kernel
theorem dX14_left_30 : decode cX14_left 30 = .ok (.lconst 0, 1) := by decide +kernel
theorem dX14_left_31 : decode cX14_left 31 = .ok (.goto 19, 3) := by decide +kernel
theorem dX14_left_5 : decode cX14_left 5 = .ok (.ifCond .ne 25, 3) := by decide +kernel
theorem dX14_left_50 : decode cX14_left 50 = .ok (.lreturn, 1) := by decide +kernel
set_option maxHeartbeats 4000000 in
set_option maxRecDepth 100000 in
theorem z_107_left (l : Launch) (hst : l.stackTraces = false) (D : va_G) (κ : K4) (E0 : Nat) (sz : Nat) (b : Nat → Nat) (x0 : Int32) (x1 : Int32) (k_x0 : -2147483648 ≤ x0.toInt ∧ x0.toInt ≤ 2147483647) (k_x1 : -2147483648 ≤ x1.toInt ∧ x1.toInt ≤ 2147483647) : NM l yX14_left cX14_left 3 (some .long) 3 65 0 0 E0 D κ (mw κ b E0 0) sz [.ref (b 0), .int x0, .int x1] (QL D κ (mw κ b E0 0) sz 0 (fun qs : W1 => mw κ b E0 1)) := by
  refine NM.of (by decide +kernel) (Nat.le_of_ble_eq_true rfl) ?_
  intro p e s m below meth c ls hC hr hk hin hsz hE hT H locs hG hl
  have hx := hC.1
  have hb := hC.2.1
  have hl : lv_has ls 3 [(0, .ref (b 0)), (1, .int x0), (2, .int x1)] := hl
  refine lv_aload_n hx hb dX14_left_0 rfl (lv_at hl 0 rfl) ?_
  refine lv_iload_n hx hb dX14_left_1 rfl (lv_at hl 1 rfl) ?_
  have cut2 : Cut (mw κ b E0 0) (mw κ b E0 0) ([]) := (Cut.all 9 rfl (by decide))
  refine zc_i hG cut2 (zr_V (k := 0) (ci := 9) (n := 1) (As := [.int x0]) (rest := []) hC hG hE hT cut2 (z_63_isNoAccount l hst D κ E0 H.size b x0 ⟨by omega, by omega⟩) rfl rfl w335 w5 w338 w336 w337 (by decide +kernel) ⟨Nat.le_of_ble_eq_true rfl, Nat.le_of_ble_eq_true rfl⟩ rfl hl.1 rfl (Nat.le_of_ble_eq_true rfl) dX14_left_2 ⟨Nat.le_of_ble_eq_true rfl, Nat.le_of_ble_eq_true rfl⟩) (fun z1 H locs hG => ?_)
  have hG : BW D κ (mw κ b E0 1) _ s H locs := hG
  refine lv_if_ne (tgt := 30) hx hb dX14_left_5 (by decide) (fun _ => ?_) (fun h5 => absurd h5 (by decide))
  refine lv_lconst (v := 0) hx hb dX14_left_30 (by decide) ?_
  refine lv_goto (tgt := 50) hx hb dX14_left_31 (by decide) ?_
  exact ze_l (qs := fun _ => 0) hC hG rfl rfl hr hk (Nat.le_of_ble_eq_true rfl) (Nat.le_of_ble_eq_true rfl) dX14_left_50
theorem dX7_matched_0 : decode cX7_matched 0 = .ok (.iload_n 1, 1) := by decide +kernel
theorem dX7_matched_1 : decode cX7_matched 1 = .ok (.ifCond .lt 14, 3) := by decide +kernel
theorem dX7_matched_12 : decode cX7_matched 12 = .ok (.if_icmp .lt 14, 3) := by decide +kernel
theorem dX7_matched_15 : decode cX7_matched 15 = .ok (.new 194, 3) := by decide +kernel
theorem dX7_matched_18 : decode cX7_matched 18 = .ok (.dup, 1) := by decide +kernel
theorem dX7_matched_19 : decode cX7_matched 19 = .ok (.ldc_w 329, 3) := by decide +kernel
theorem dX7_matched_22 : decode cX7_matched 22 = .ok (.invokespecial 198, 3) := by decide +kernel
theorem dX7_matched_25 : decode cX7_matched 25 = .ok (.athrow, 1) := by decide +kernel
theorem dX7_matched_4 : decode cX7_matched 4 = .ok (.iload_n 1, 1) := by decide +kernel
theorem dX7_matched_5 : decode cX7_matched 5 = .ok (.aload_n 0, 1) := by decide +kernel
theorem dX7_matched_6 : decode cX7_matched 6 = .ok (.getfield 40, 3) := by decide +kernel
theorem dX7_matched_9 : decode cX7_matched 9 = .ok (.getfield 301, 3) := by decide +kernel
set_option maxHeartbeats 4000000 in
set_option maxRecDepth 100000 in
theorem z_108_matched (l : Launch) (hst : l.stackTraces = false) (D : va_G) (κ : K4) (E0 : Nat) (sz : Nat) (a : Nat → Nat) (x0 : Int32) (k_x0 : -2147483648 ≤ x0.toInt ∧ x0.toInt ≤ 2147483647) : XM l yX7_matched cX7_matched 3 (some .int) 6 82 1 6 E0 D κ (xw κ a) sz [.ref (a 0), .int x0] "java/lang/IndexOutOfBoundsException" (NI (xw κ a) sz) := by
  refine XM.of (by decide +kernel) (Nat.le_of_ble_eq_true rfl) ?_
  intro p e s m below meth c ls hC hk hno hsz hE hT H locs hG hl
  have hx := hC.1
  have hb := hC.2.1
  have hl : lv_has ls 3 [(0, .ref (a 0)), (1, .int x0)] := hl
  refine lv_iload_n hx hb dX7_matched_0 rfl (lv_at hl 1 rfl) ?_
  refine lv_if_lt (tgt := 15) hx hb dX7_matched_1 (by decide) (fun h1 => ?_) (fun h1 => ?_)
  · have g1 : x0.toInt < 0 := by have e1 : (0 : Int32).toInt = 0 := (by decide); have e9 := (Int32.lt_iff_toInt_lt.mp h1); omega
    exact th_IOW hC hst hE hT hno hk hG hl.1 (List.mem_of_getElem? (i := 6) rfl) w297 w298 dX7_matched_15 dX7_matched_18 dX7_matched_19 dX7_matched_22 dX7_matched_25 (Nat.le_of_ble_eq_true rfl) (Nat.le_of_ble_eq_true rfl) (Nat.le_of_ble_eq_true rfl) (Nat.le_of_ble_eq_true rfl) (Nat.le_of_ble_eq_true rfl) (Nat.le_of_ble_eq_true rfl)
  · have g1 : 0 ≤ x0.toInt := by have e1 : (0 : Int32).toInt = 0 := (by decide); have e9 := (mt Int32.lt_iff_toInt_lt.mpr h1); omega
    refine lv_iload_n hx hb dX7_matched_4 rfl (lv_at hl 1 rfl) ?_
    refine lv_aload_n hx hb dX7_matched_5 rfl (lv_at hl 0 rfl) ?_
    refine bw_get (C := RX7) (T := TX7) (N := 10) (ci := 7) (v := .ref (a 28)) 4 (by decide) 0 hC hG iwX7 (xw_0 κ a) rfl w32 rfl rfl dX7_matched_6 ?_
    refine bw_get (C := RX5) (T := TX5) (N := 5) (ci := 5) (v := .int 0) 4 (by decide) 28 hC hG iwX5 (xw_28 κ a) rfl w863 rfl rfl dX7_matched_9 ?_
    refine lv_icmp_lt (tgt := 26) hx hb dX7_matched_12 (by decide) (fun h12 => absurd h12 (mt Int32.lt_iff_toInt_lt.mp (by have e1 : (0 : Int32).toInt = 0 := (by decide); omega))) (fun _ => ?_)
    exact th_IOW hC hst hE hT hno hk hG hl.1 (List.mem_of_getElem? (i := 6) rfl) w297 w298 dX7_matched_15 dX7_matched_18 dX7_matched_19 dX7_matched_22 dX7_matched_25 (Nat.le_of_ble_eq_true rfl) (Nat.le_of_ble_eq_true rfl) (Nat.le_of_ble_eq_true rfl) (Nat.le_of_ble_eq_true rfl) (Nat.le_of_ble_eq_true rfl) (Nat.le_of_ble_eq_true rfl)
theorem dL_matched_0 : decode cL_matched 0 = .ok (.aload_n 2, 1) := by decide +kernel
theorem dL_matched_1 : decode cL_matched 1 = .ok (.iconst 0, 1) := by decide +kernel
theorem dL_matched_12 : decode cL_matched 12 = .ok (.astore_n 3, 1) := by decide +kernel
theorem dL_matched_13 : decode cL_matched 13 = .ok (.iconst 1, 1) := by decide +kernel
theorem dL_matched_14 : decode cL_matched 14 = .ok (.ireturn, 1) := by decide +kernel
theorem dL_matched_2 : decode cL_matched 2 = .ok (.aload_n 0, 1) := by decide +kernel
theorem dL_matched_3 : decode cL_matched 3 = .ok (.iload_n 1, 1) := by decide +kernel
theorem dL_matched_4 : decode cL_matched 4 = .ok (.invokevirtual 78, 3) := by decide +kernel
set_option maxHeartbeats 4000000 in
set_option maxRecDepth 100000 in
theorem z_109_matched (l : Launch) (hst : l.stackTraces = false) (D : va_G) (κ : K4) (E0 : Nat) (sz : Nat) (a : Nat → Nat) (x0 : Int32) (o : Nat) (k_x0 : -2147483648 ≤ x0.toInt ∧ x0.toInt ≤ 2147483647) : NH l yL_matched cL_matched 4 (some .int) [(0, 9, 12, 24)] 7 104 1 6 E0 D κ (xw κ a ++ [(o, .inl (κ.2.1, 1, .inr (.inl (fun _ => 0))))]) sz [.ref (a 0), .int x0, .ref o] (QI D κ (xw κ a ++ [(o, .inl (κ.2.1, 1, .inr (.inl (fun _ => 0))))]) sz 1 (fun qs : W1 => [(o, .inl (κ.2.1, 1, .inr (.inl (fun _ => 0))))])) := by
  refine NH.of (by decide +kernel) (Nat.le_of_ble_eq_true rfl) ?_
  intro p e s m below meth c ls hC hr hk htab hsz hE hT H locs hG hl
  have hx := hC.1
  have hb := hC.2.1
  have hl : lv_has ls 4 [(0, .ref (a 0)), (1, .int x0), (2, .ref o)] := hl
  refine lv_aload_n hx hb dL_matched_0 rfl (lv_at hl 2 rfl) ?_
  refine lv_iconst (v := 0) hx hb dL_matched_1 (by decide) ?_
  refine lv_aload_n hx hb dL_matched_2 rfl (lv_at hl 0 rfl) ?_
  refine lv_iload_n hx hb dL_matched_3 rfl (lv_at hl 1 rfl) ?_
  have cut4 : Cut (xw κ a ++ [(o, .inl (κ.2.1, 1, .inr (.inl (fun _ => 0))))]) (xw κ a) ([(o, .inl (κ.2.1, 1, .inr (.inl (fun _ => 0))))]) := (Cut.one 45 rfl (by decide))
  refine zt_i hG cut4 (zx_V (k := 0) (ci := 7) (n := 1) (As := [.int x0]) (rest := [.int 0, .ref o]) hC hG hE hT cut4 (z_108_matched l hst D κ E0 H.size a x0 ⟨by omega, by omega⟩) rfl rfl w1040 w2 w1043 w1041 w1042 (by decide +kernel) ⟨Nat.le_of_ble_eq_true rfl, Nat.le_of_ble_eq_true rfl⟩ rfl hl.1 rfl (Nat.le_of_ble_eq_true rfl) dL_matched_4 ⟨Nat.le_of_ble_eq_true rfl, Nat.le_of_ble_eq_true rfl⟩) (fun ce q9 H locs hG hz1 hz2 hz3 => ?_)
  refine vx_catch (own := RL) (name := "java/lang/IndexOutOfBoundsException") (E := "java/lang/IndexOutOfBoundsException") hC.2.2.2.1 [] ⟨0, 9, 12, 24⟩ [] htab (fun z hz => by simp at hz) (by decide) (by decide) (hC.2.2.2.2 _ w285) (va_Nw.use rfl (hT.1 ("java/lang/IndexOutOfBoundsException", "java/lang/IndexOutOfBoundsException") (by decide))) hz1 hz2 hz3 ?_
  refine lv_astore_n (lv' := [(3, .ref q9), (0, .ref (a 0)), (1, .int x0), (2, .ref o)]) hx hb dL_matched_12 rfl hl (by decide) rfl (fun ls hl => ?_)
  refine lv_iconst (v := 1) hx hb dL_matched_13 (by decide) ?_
  exact ze_i (qs := fun _ => 0) hC hG rfl rfl hr rfl hk (Nat.le_of_ble_eq_true rfl) (Nat.le_of_ble_eq_true rfl) dL_matched_14
set_option maxHeartbeats 4000000 in
set_option maxRecDepth 100000 in
theorem z_110_size (l : Launch) (hst : l.stackTraces = false) (D : va_G) (κ : K4) (E0 : Nat) (sz : Nat) (h0 : Nat) (h1 : Nat) (h2 : Nat) (h3 : Nat) (h4 : Nat) (h5 : Nat) (h6 : Nat) (h7 : Nat) (h8 : Nat) : NM l yJx4a65c_size_8abf5 cJx4a65c_size_8abf5 1 (some .int) 0 0 0 0 E0 D κ ([(h1, .inr (9, [.int 0, .ref h2, .ref h3, .ref h4, .ref h5, .ref h0, .ref h6, .ref h7, .null, .int 0, .int (-1), .int 0, .int 0, .int 0, .ref h8])), (h2, .inl (κ.1, 4, .inl (fun _ => 1000))), (h3, .inr (10, [.int 0, .ref E0, .int 0])), (h4, .inr (10, [.int 0, .ref E0, .int 0])), (h5, .inr (10, [.int 0, .ref E0, .int 0])), (h0, .inr (10, [.int 0, .ref E0, .int 0])), (h6, .inr (10, [.int 0, .ref E0, .int 0])), (h7, .inr (10, [.int 0, .ref E0, .int 0])), (h8, .inr (10, [.int 0, .ref E0, .int 0]))]) sz [.ref h0] (QI D κ ([(h1, .inr (9, [.int 0, .ref h2, .ref h3, .ref h4, .ref h5, .ref h0, .ref h6, .ref h7, .null, .int 0, .int (-1), .int 0, .int 0, .int 0, .ref h8])), (h2, .inl (κ.1, 4, .inl (fun _ => 1000))), (h3, .inr (10, [.int 0, .ref E0, .int 0])), (h4, .inr (10, [.int 0, .ref E0, .int 0])), (h5, .inr (10, [.int 0, .ref E0, .int 0])), (h0, .inr (10, [.int 0, .ref E0, .int 0])), (h6, .inr (10, [.int 0, .ref E0, .int 0])), (h7, .inr (10, [.int 0, .ref E0, .int 0])), (h8, .inr (10, [.int 0, .ref E0, .int 0]))]) sz 0 (fun qs : W1 => [(h1, .inr (9, [.int 0, .ref h2, .ref h3, .ref h4, .ref h5, .ref h0, .ref h6, .ref h7, .null, .int 0, .int (-1), .int 0, .int 0, .int 0, .ref h8])), (h2, .inl (κ.1, 4, .inl (fun _ => 1000))), (h3, .inr (10, [.int 0, .ref E0, .int 0])), (h4, .inr (10, [.int 0, .ref E0, .int 0])), (h5, .inr (10, [.int 0, .ref E0, .int 0])), (h0, .inr (10, [.int 0, .ref E0, .int 0])), (h6, .inr (10, [.int 0, .ref E0, .int 0])), (h7, .inr (10, [.int 0, .ref E0, .int 0])), (h8, .inr (10, [.int 0, .ref E0, .int 0]))])) := by
  refine NM.of (by decide +kernel) (Nat.le_of_ble_eq_true rfl) ?_
  intro p e s m below meth c ls hC hr hk hin hsz hE hT H locs hG hl
  have hx := hC.1
  have hb := hC.2.1
  have hl : lv_has ls 1 [(0, .ref h0)] := hl
  refine lv_aload_n hx hb dJx4a65c_size_8abf5_0 rfl (lv_at hl 0 rfl) ?_
  refine bw_get (C := RJx4a65c) (T := TJx4a65c) (N := 3) (ci := 10) (v := .int 0) 2 (by decide) 5 hC hG iwJA rfl rfl w183 rfl rfl dJx4a65c_size_8abf5_1 ?_
  exact ze_i (qs := fun _ => 0) hC hG rfl rfl hr rfl hk (Nat.le_of_ble_eq_true rfl) (Nat.le_of_ble_eq_true rfl) dJx4a65c_size_8abf5_4
theorem dX14_matched__0 : decode cX14_matched_ 0 = .ok (.aload_n 0, 1) := by decide +kernel
theorem dX14_matched__1 : decode cX14_matched_ 1 = .ok (.iload_n 1, 1) := by decide +kernel
theorem dX14_matched__10 : decode cX14_matched_ 10 = .ok (.iconst 1, 1) := by decide +kernel
theorem dX14_matched__11 : decode cX14_matched_ 11 = .ok (.isub, 1) := by decide +kernel
theorem dX14_matched__12 : decode cX14_matched_ 12 = .ok (.invokestatic 53, 3) := by decide +kernel
theorem dX14_matched__15 : decode cX14_matched_ 15 = .ok (.ifCond .ne 7, 3) := by decide +kernel
theorem dX14_matched__18 : decode cX14_matched_ 18 = .ok (.iconst 1, 1) := by decide +kernel
theorem dX14_matched__19 : decode cX14_matched_ 19 = .ok (.goto 4, 3) := by decide +kernel
theorem dX14_matched__2 : decode cX14_matched_ 2 = .ok (.iconst 0, 1) := by decide +kernel
theorem dX14_matched__23 : decode cX14_matched_ 23 = .ok (.iconst 1, 1) := by decide +kernel
theorem dX14_matched__24 : decode cX14_matched_ 24 = .ok (.invokevirtual 61, 3) := by decide +kernel
theorem dX14_matched__27 : decode cX14_matched_ 27 = .ok (.ifCond .eq 7, 3) := by decide +kernel
theorem dX14_matched__3 : decode cX14_matched_ 3 = .ok (.aload_n 0, 1) := by decide +kernel
theorem dX14_matched__30 : decode cX14_matched_ 30 = .ok (.iconst 0, 1) := by decide +kernel
theorem dX14_matched__31 : decode cX14_matched_ 31 = .ok (.goto 18, 3) := by decide +kernel
theorem dX14_matched__4 : decode cX14_matched_ 4 = .ok (.getfield 26, 3) := by decide +kernel
theorem dX14_matched__49 : decode cX14_matched_ 49 = .ok (.ireturn, 1) := by decide +kernel
theorem dX14_matched__7 : decode cX14_matched_ 7 = .ok (.invokevirtual 49, 3) := by decide +kernel
set_option maxHeartbeats 4000000 in
set_option maxRecDepth 100000 in
theorem z_111_matched (l : Launch) (hst : l.stackTraces = false) (D : va_G) (κ : K4) (E0 : Nat) (sz : Nat) (b : Nat → Nat) (x0 : Int32) (k_x0 : -2147483648 ≤ x0.toInt ∧ x0.toInt ≤ 2147483647) : NM l yX14_matched_ cX14_matched_ 2 (some .int) 2 44 0 0 E0 D κ (mw κ b E0 0) sz [.ref (b 0), .int x0] (QI D κ (mw κ b E0 0) sz 0 (fun qs : W1 => mw κ b E0 1)) := by
  refine NM.of (by decide +kernel) (Nat.le_of_ble_eq_true rfl) ?_
  intro p e s m below meth c ls hC hr hk hin hsz hE hT H locs hG hl
  have hx := hC.1
  have hb := hC.2.1
  have hl : lv_has ls 2 [(0, .ref (b 0)), (1, .int x0)] := hl
  refine lv_aload_n hx hb dX14_matched__0 rfl (lv_at hl 0 rfl) ?_
  refine lv_iload_n hx hb dX14_matched__1 rfl (lv_at hl 1 rfl) ?_
  refine lv_iconst (v := 0) hx hb dX14_matched__2 (by decide) ?_
  refine lv_aload_n hx hb dX14_matched__3 rfl (lv_at hl 0 rfl) ?_
  refine bw_get (C := RX14) (T := TX14) (N := 15) (ci := 9) (v := .ref (b 5)) 5 (by decide) 0 hC hG iwX14 rfl rfl w121 rfl rfl dX14_matched__4 ?_
  have cut7 : Cut (mw κ b E0 0) (mw κ b E0 0) ([]) := (Cut.all 9 rfl (by decide))
  refine zc_i hG cut7 (zr_V (k := 5) (ci := 10) (n := 0) (As := []) (rest := [.int 0, .int x0, .ref (b 0)]) hC hG hE hT cut7 (z_110_size l hst D κ E0 H.size (b 5) (b 0) (b 1) (b 2) (b 3) (b 4) (b 6) (b 7) (b 8)) rfl rfl w179 w117 w182 w180 w181 (by decide +kernel) ⟨Nat.le_of_ble_eq_true rfl, Nat.le_of_ble_eq_true rfl⟩ rfl hl.1 rfl (Nat.le_of_ble_eq_true rfl) dX14_matched__7 ⟨Nat.le_of_ble_eq_true rfl, Nat.le_of_ble_eq_true rfl⟩) (fun z1 H locs hG => ?_)
  have hG : BW D κ (mw κ b E0 0) _ s H locs := hG
  refine lv_iconst (v := 1) hx hb dX14_matched__10 (by decide) ?_
  refine lv_isub hx hb dX14_matched__11 ?_
  refine W.eq (g2 := F0 m 12 ls [.int (-1), .int 0, .int x0, .ref (b 0)]) rfl ?_
  have cut12 : Cut (mw κ b E0 0) (mw κ b E0 0) ([]) := (Cut.all 9 rfl (by decide))
  refine zc_i hG cut12 (zr_S (n := 3) (As := [.int x0, .int 0, .int (-1)]) (rest := [.ref (b 0)]) hC hG hE hT cut12 (z_61_isIn l hst D κ E0 H.size b x0 ⟨by omega, by omega⟩) w167 w5 w169 w168 (by decide +kernel) ⟨Nat.le_of_ble_eq_true rfl, Nat.le_of_ble_eq_true rfl⟩ rfl hl.1 rfl (Nat.le_of_ble_eq_true rfl) dX14_matched__12 ⟨Nat.le_of_ble_eq_true rfl, Nat.le_of_ble_eq_true rfl⟩) (fun z2 H locs hG => ?_)
  have hG : BW D κ (mw κ b E0 0) _ s H locs := hG
  refine lv_if_ne (tgt := 22) hx hb dX14_matched__15 (by decide) (fun h15 => absurd (by decide) h15) (fun _ => ?_)
  refine lv_iconst (v := 1) hx hb dX14_matched__18 (by decide) ?_
  refine lv_goto (tgt := 23) hx hb dX14_matched__19 (by decide) ?_
  refine lv_iconst (v := 1) hx hb dX14_matched__23 (by decide) ?_
  have cut24 : Cut (mw κ b E0 0) (mw κ b E0 0) ([]) := (Cut.all 9 rfl (by decide))
  refine zc_i hG cut24 (zr_V (k := 0) (ci := 9) (n := 2) (As := [.int 1, .int 1]) (rest := []) hC hG hE hT cut24 (z_4_start l hst D κ E0 H.size b) rfl rfl w170 w5 w173 w171 w172 (by decide +kernel) ⟨Nat.le_of_ble_eq_true rfl, Nat.le_of_ble_eq_true rfl⟩ rfl hl.1 rfl (Nat.le_of_ble_eq_true rfl) dX14_matched__24 ⟨Nat.le_of_ble_eq_true rfl, Nat.le_of_ble_eq_true rfl⟩) (fun z3 H locs hG => ?_)
  have hG : BW D κ (mw κ b E0 1) _ s H locs := hG
  refine lv_if_eq (tgt := 34) hx hb dX14_matched__27 (by decide) (fun h27 => absurd h27 (by decide)) (fun _ => ?_)
  refine lv_iconst (v := 0) hx hb dX14_matched__30 (by decide) ?_
  refine lv_goto (tgt := 49) hx hb dX14_matched__31 (by decide) ?_
  exact ze_i (qs := fun _ => 0) hC hG rfl rfl hr rfl hk (Nat.le_of_ble_eq_true rfl) (Nat.le_of_ble_eq_true rfl) dX14_matched__49
theorem dX7_told_0 : decode cX7_told 0 = .ok (.aload_n 0, 1) := by decide +kernel
theorem dX7_told_1 : decode cX7_told 1 = .ok (.iload_n 1, 1) := by decide +kernel
theorem dX7_told_2 : decode cX7_told 2 = .ok (.invokevirtual 102, 3) := by decide +kernel
set_option maxHeartbeats 4000000 in
set_option maxRecDepth 100000 in
theorem z_112_told (l : Launch) (hst : l.stackTraces = false) (D : va_G) (κ : K4) (E0 : Nat) (sz : Nat) (a : Nat → Nat) (x0 : Int32) (x1 : Int32) (k_x0 : -2147483648 ≤ x0.toInt ∧ x0.toInt ≤ 2147483647) (k_x1 : -2147483648 ≤ x1.toInt ∧ x1.toInt ≤ 2147483647) : XM l yX7_told cX7_told 3 (some .long) 7 103 1 6 E0 D κ (xw κ a) sz [.ref (a 0), .int x0, .int x1] "java/lang/IndexOutOfBoundsException" (NL (xw κ a) sz) := by
  refine XM.of (by decide +kernel) (Nat.le_of_ble_eq_true rfl) ?_
  intro p e s m below meth c ls hC hk hno hsz hE hT H locs hG hl
  have hx := hC.1
  have hb := hC.2.1
  have hl : lv_has ls 3 [(0, .ref (a 0)), (1, .int x0), (2, .int x1)] := hl
  refine lv_aload_n hx hb dX7_told_0 rfl (lv_at hl 0 rfl) ?_
  refine lv_iload_n hx hb dX7_told_1 rfl (lv_at hl 1 rfl) ?_
  have cut2 : Cut (xw κ a) (xw κ a) ([]) := (Cut.all 45 rfl (by decide))
  refine zt_v hG cut2 (zx_V (k := 0) (ci := 7) (n := 1) (As := [.int x0]) (rest := []) hC hG hE hT cut2 (z_58_needAccount l hst D κ E0 H.size a x0 ⟨by omega, by omega⟩) rfl rfl w293 w2 w296 w294 w295 (by decide +kernel) ⟨Nat.le_of_ble_eq_true rfl, Nat.le_of_ble_eq_true rfl⟩ rfl hl.1 rfl (Nat.le_of_ble_eq_true rfl) dX7_told_2 ⟨Nat.le_of_ble_eq_true rfl, Nat.le_of_ble_eq_true rfl⟩) (fun ce q9 H locs hG hz1 hz2 hz3 => ?_)
  exact zt_out hno hk hG hz1 hz2 hz3 (Nat.le_of_ble_eq_true rfl) (Nat.le_of_ble_eq_true rfl)
theorem dL_told_0 : decode cL_told 0 = .ok (.aload_n 3, 1) := by decide +kernel
theorem dL_told_1 : decode cL_told 1 = .ok (.iconst 0, 1) := by decide +kernel
theorem dL_told_12 : decode cL_told 12 = .ok (.astore 4, 2) := by decide +kernel
theorem dL_told_14 : decode cL_told 14 = .ok (.iconst 1, 1) := by decide +kernel
theorem dL_told_15 : decode cL_told 15 = .ok (.ireturn, 1) := by decide +kernel
theorem dL_told_2 : decode cL_told 2 = .ok (.aload_n 0, 1) := by decide +kernel
theorem dL_told_3 : decode cL_told 3 = .ok (.iload_n 1, 1) := by decide +kernel
theorem dL_told_4 : decode cL_told 4 = .ok (.iload_n 2, 1) := by decide +kernel
theorem dL_told_5 : decode cL_told 5 = .ok (.invokevirtual 84, 3) := by decide +kernel
set_option maxHeartbeats 4000000 in
set_option maxRecDepth 100000 in
theorem z_113_told (l : Launch) (hst : l.stackTraces = false) (D : va_G) (κ : K4) (E0 : Nat) (sz : Nat) (a : Nat → Nat) (x0 : Int32) (x1 : Int32) (o : Nat) (k_x0 : -2147483648 ≤ x0.toInt ∧ x0.toInt ≤ 2147483647) (k_x1 : -2147483648 ≤ x1.toInt ∧ x1.toInt ≤ 2147483647) : NH l yL_told cL_told 5 (some .int) [(0, 9, 12, 24), (0, 9, 16, 13)] 8 125 1 6 E0 D κ (xw κ a ++ [(o, .inl (κ.2.1, 1, .inr (.inl (fun _ => 0))))]) sz [.ref (a 0), .int x0, .int x1, .ref o] (QI D κ (xw κ a ++ [(o, .inl (κ.2.1, 1, .inr (.inl (fun _ => 0))))]) sz 1 (fun qs : W1 => [(o, .inl (κ.2.1, 1, .inr (.inl (fun _ => 0))))])) := by
  refine NH.of (by decide +kernel) (Nat.le_of_ble_eq_true rfl) ?_
  intro p e s m below meth c ls hC hr hk htab hsz hE hT H locs hG hl
  have hx := hC.1
  have hb := hC.2.1
  have hl : lv_has ls 5 [(0, .ref (a 0)), (1, .int x0), (2, .int x1), (3, .ref o)] := hl
  refine lv_aload_n hx hb dL_told_0 rfl (lv_at hl 3 rfl) ?_
  refine lv_iconst (v := 0) hx hb dL_told_1 (by decide) ?_
  refine lv_aload_n hx hb dL_told_2 rfl (lv_at hl 0 rfl) ?_
  refine lv_iload_n hx hb dL_told_3 rfl (lv_at hl 1 rfl) ?_
  refine lv_iload_n hx hb dL_told_4 rfl (lv_at hl 2 rfl) ?_
  have cut5 : Cut (xw κ a ++ [(o, .inl (κ.2.1, 1, .inr (.inl (fun _ => 0))))]) (xw κ a) ([(o, .inl (κ.2.1, 1, .inr (.inl (fun _ => 0))))]) := (Cut.one 45 rfl (by decide))
  refine zt_l hG cut5 (zx_V (k := 0) (ci := 7) (n := 2) (As := [.int x0, .int x1]) (rest := [.int 0, .ref o]) hC hG hE hT cut5 (z_112_told l hst D κ E0 H.size a x0 x1 ⟨by omega, by omega⟩ ⟨by omega, by omega⟩) rfl rfl w1081 w2 w1084 w1082 w1083 (by decide +kernel) ⟨Nat.le_of_ble_eq_true rfl, Nat.le_of_ble_eq_true rfl⟩ rfl hl.1 rfl (Nat.le_of_ble_eq_true rfl) dL_told_5 ⟨Nat.le_of_ble_eq_true rfl, Nat.le_of_ble_eq_true rfl⟩) (fun ce q9 H locs hG hz1 hz2 hz3 => ?_)
  refine vx_catch (own := RL) (name := "java/lang/IndexOutOfBoundsException") (E := "java/lang/IndexOutOfBoundsException") hC.2.2.2.1 [] ⟨0, 9, 12, 24⟩ [⟨0, 9, 16, 13⟩] htab (fun z hz => by simp at hz) (by decide) (by decide) (hC.2.2.2.2 _ w285) (va_Nw.use rfl (hT.1 ("java/lang/IndexOutOfBoundsException", "java/lang/IndexOutOfBoundsException") (by decide))) hz1 hz2 hz3 ?_
  refine lv_astore (lv' := [(4, .ref q9), (0, .ref (a 0)), (1, .int x0), (2, .int x1), (3, .ref o)]) hx hb dL_told_12 hl (by decide) rfl (fun ls hl => ?_)
  refine lv_iconst (v := 1) hx hb dL_told_14 (by decide) ?_
  exact ze_i (qs := fun _ => 0) hC hG rfl rfl hr rfl hk (Nat.le_of_ble_eq_true rfl) (Nat.le_of_ble_eq_true rfl) dL_told_15
theorem dX14_told_0 : decode cX14_told 0 = .ok (.aload_n 0, 1) := by decide +kernel
theorem dX14_told_1 : decode cX14_told 1 = .ok (.iload_n 1, 1) := by decide +kernel
theorem dX14_told_2 : decode cX14_told 2 = .ok (.invokevirtual 157, 3) := by decide +kernel
theorem dX14_told_30 : decode cX14_told 30 = .ok (.lconst 0, 1) := by decide +kernel
theorem dX14_told_31 : decode cX14_told 31 = .ok (.goto 19, 3) := by decide +kernel
theorem dX14_told_5 : decode cX14_told 5 = .ok (.ifCond .ne 25, 3) := by decide +kernel
theorem dX14_told_50 : decode cX14_told 50 = .ok (.lreturn, 1) := by decide +kernel
set_option maxHeartbeats 4000000 in
set_option maxRecDepth 100000 in
theorem z_114_told (l : Launch) (hst : l.stackTraces = false) (D : va_G) (κ : K4) (E0 : Nat) (sz : Nat) (b : Nat → Nat) (x0 : Int32) (x1 : Int32) (k_x0 : -2147483648 ≤ x0.toInt ∧ x0.toInt ≤ 2147483647) (k_x1 : -2147483648 ≤ x1.toInt ∧ x1.toInt ≤ 2147483647) : NM l yX14_told cX14_told 3 (some .long) 3 65 0 0 E0 D κ (mw κ b E0 0) sz [.ref (b 0), .int x0, .int x1] (QL D κ (mw κ b E0 0) sz 0 (fun qs : W1 => mw κ b E0 1)) := by
  refine NM.of (by decide +kernel) (Nat.le_of_ble_eq_true rfl) ?_
  intro p e s m below meth c ls hC hr hk hin hsz hE hT H locs hG hl
  have hx := hC.1
  have hb := hC.2.1
  have hl : lv_has ls 3 [(0, .ref (b 0)), (1, .int x0), (2, .int x1)] := hl
  refine lv_aload_n hx hb dX14_told_0 rfl (lv_at hl 0 rfl) ?_
  refine lv_iload_n hx hb dX14_told_1 rfl (lv_at hl 1 rfl) ?_
  have cut2 : Cut (mw κ b E0 0) (mw κ b E0 0) ([]) := (Cut.all 9 rfl (by decide))
  refine zc_i hG cut2 (zr_V (k := 0) (ci := 9) (n := 1) (As := [.int x0]) (rest := []) hC hG hE hT cut2 (z_63_isNoAccount l hst D κ E0 H.size b x0 ⟨by omega, by omega⟩) rfl rfl w335 w5 w338 w336 w337 (by decide +kernel) ⟨Nat.le_of_ble_eq_true rfl, Nat.le_of_ble_eq_true rfl⟩ rfl hl.1 rfl (Nat.le_of_ble_eq_true rfl) dX14_told_2 ⟨Nat.le_of_ble_eq_true rfl, Nat.le_of_ble_eq_true rfl⟩) (fun z1 H locs hG => ?_)
  have hG : BW D κ (mw κ b E0 1) _ s H locs := hG
  refine lv_if_ne (tgt := 30) hx hb dX14_told_5 (by decide) (fun _ => ?_) (fun h5 => absurd h5 (by decide))
  refine lv_lconst (v := 0) hx hb dX14_told_30 (by decide) ?_
  refine lv_goto (tgt := 50) hx hb dX14_told_31 (by decide) ?_
  exact ze_l (qs := fun _ => 0) hC hG rfl rfl hr hk (Nat.le_of_ble_eq_true rfl) (Nat.le_of_ble_eq_true rfl) dX14_told_50
theorem dX7_at_0 : decode cX7_at 0 = .ok (.aload_n 0, 1) := by decide +kernel
theorem dX7_at_1 : decode cX7_at 1 = .ok (.iload_n 1, 1) := by decide +kernel
theorem dX7_at_2 : decode cX7_at 2 = .ok (.invokevirtual 102, 3) := by decide +kernel
set_option maxHeartbeats 4000000 in
set_option maxRecDepth 100000 in
theorem z_115_at (l : Launch) (hst : l.stackTraces = false) (D : va_G) (κ : K4) (E0 : Nat) (sz : Nat) (a : Nat → Nat) (x0 : Int32) (x1 : Int32) (k_x0 : -2147483648 ≤ x0.toInt ∧ x0.toInt ≤ 2147483647) (k_x1 : -2147483648 ≤ x1.toInt ∧ x1.toInt ≤ 2147483647) : XM l yX7_at cX7_at 3 (some .long) 7 103 1 6 E0 D κ (xw κ a) sz [.ref (a 0), .int x0, .int x1] "java/lang/IndexOutOfBoundsException" (NL (xw κ a) sz) := by
  refine XM.of (by decide +kernel) (Nat.le_of_ble_eq_true rfl) ?_
  intro p e s m below meth c ls hC hk hno hsz hE hT H locs hG hl
  have hx := hC.1
  have hb := hC.2.1
  have hl : lv_has ls 3 [(0, .ref (a 0)), (1, .int x0), (2, .int x1)] := hl
  refine lv_aload_n hx hb dX7_at_0 rfl (lv_at hl 0 rfl) ?_
  refine lv_iload_n hx hb dX7_at_1 rfl (lv_at hl 1 rfl) ?_
  have cut2 : Cut (xw κ a) (xw κ a) ([]) := (Cut.all 45 rfl (by decide))
  refine zt_v hG cut2 (zx_V (k := 0) (ci := 7) (n := 1) (As := [.int x0]) (rest := []) hC hG hE hT cut2 (z_58_needAccount l hst D κ E0 H.size a x0 ⟨by omega, by omega⟩) rfl rfl w293 w2 w296 w294 w295 (by decide +kernel) ⟨Nat.le_of_ble_eq_true rfl, Nat.le_of_ble_eq_true rfl⟩ rfl hl.1 rfl (Nat.le_of_ble_eq_true rfl) dX7_at_2 ⟨Nat.le_of_ble_eq_true rfl, Nat.le_of_ble_eq_true rfl⟩) (fun ce q9 H locs hG hz1 hz2 hz3 => ?_)
  exact zt_out hno hk hG hz1 hz2 hz3 (Nat.le_of_ble_eq_true rfl) (Nat.le_of_ble_eq_true rfl)
theorem dL_at_0 : decode cL_at 0 = .ok (.aload_n 3, 1) := by decide +kernel
theorem dL_at_1 : decode cL_at 1 = .ok (.iconst 0, 1) := by decide +kernel
theorem dL_at_12 : decode cL_at 12 = .ok (.astore 4, 2) := by decide +kernel
theorem dL_at_14 : decode cL_at 14 = .ok (.iconst 1, 1) := by decide +kernel
theorem dL_at_15 : decode cL_at 15 = .ok (.ireturn, 1) := by decide +kernel
theorem dL_at_2 : decode cL_at 2 = .ok (.aload_n 0, 1) := by decide +kernel
theorem dL_at_3 : decode cL_at 3 = .ok (.iload_n 1, 1) := by decide +kernel
theorem dL_at_4 : decode cL_at 4 = .ok (.iload_n 2, 1) := by decide +kernel
theorem dL_at_5 : decode cL_at 5 = .ok (.invokevirtual 87, 3) := by decide +kernel
set_option maxHeartbeats 4000000 in
set_option maxRecDepth 100000 in
theorem z_116_at (l : Launch) (hst : l.stackTraces = false) (D : va_G) (κ : K4) (E0 : Nat) (sz : Nat) (a : Nat → Nat) (x0 : Int32) (x1 : Int32) (o : Nat) (k_x0 : -2147483648 ≤ x0.toInt ∧ x0.toInt ≤ 2147483647) (k_x1 : -2147483648 ≤ x1.toInt ∧ x1.toInt ≤ 2147483647) : NH l yL_at cL_at 5 (some .int) [(0, 9, 12, 24), (0, 9, 16, 13)] 8 125 1 6 E0 D κ (xw κ a ++ [(o, .inl (κ.2.1, 1, .inr (.inl (fun _ => 0))))]) sz [.ref (a 0), .int x0, .int x1, .ref o] (QI D κ (xw κ a ++ [(o, .inl (κ.2.1, 1, .inr (.inl (fun _ => 0))))]) sz 1 (fun qs : W1 => [(o, .inl (κ.2.1, 1, .inr (.inl (fun _ => 0))))])) := by
  refine NH.of (by decide +kernel) (Nat.le_of_ble_eq_true rfl) ?_
  intro p e s m below meth c ls hC hr hk htab hsz hE hT H locs hG hl
  have hx := hC.1
  have hb := hC.2.1
  have hl : lv_has ls 5 [(0, .ref (a 0)), (1, .int x0), (2, .int x1), (3, .ref o)] := hl
  refine lv_aload_n hx hb dL_at_0 rfl (lv_at hl 3 rfl) ?_
  refine lv_iconst (v := 0) hx hb dL_at_1 (by decide) ?_
  refine lv_aload_n hx hb dL_at_2 rfl (lv_at hl 0 rfl) ?_
  refine lv_iload_n hx hb dL_at_3 rfl (lv_at hl 1 rfl) ?_
  refine lv_iload_n hx hb dL_at_4 rfl (lv_at hl 2 rfl) ?_
  have cut5 : Cut (xw κ a ++ [(o, .inl (κ.2.1, 1, .inr (.inl (fun _ => 0))))]) (xw κ a) ([(o, .inl (κ.2.1, 1, .inr (.inl (fun _ => 0))))]) := (Cut.one 45 rfl (by decide))
  refine zt_l hG cut5 (zx_V (k := 0) (ci := 7) (n := 2) (As := [.int x0, .int x1]) (rest := [.int 0, .ref o]) hC hG hE hT cut5 (z_115_at l hst D κ E0 H.size a x0 x1 ⟨by omega, by omega⟩ ⟨by omega, by omega⟩) rfl rfl w1104 w2 w1107 w1105 w1106 (by decide +kernel) ⟨Nat.le_of_ble_eq_true rfl, Nat.le_of_ble_eq_true rfl⟩ rfl hl.1 rfl (Nat.le_of_ble_eq_true rfl) dL_at_5 ⟨Nat.le_of_ble_eq_true rfl, Nat.le_of_ble_eq_true rfl⟩) (fun ce q9 H locs hG hz1 hz2 hz3 => ?_)
  refine vx_catch (own := RL) (name := "java/lang/IndexOutOfBoundsException") (E := "java/lang/IndexOutOfBoundsException") hC.2.2.2.1 [] ⟨0, 9, 12, 24⟩ [⟨0, 9, 16, 13⟩] htab (fun z hz => by simp at hz) (by decide) (by decide) (hC.2.2.2.2 _ w285) (va_Nw.use rfl (hT.1 ("java/lang/IndexOutOfBoundsException", "java/lang/IndexOutOfBoundsException") (by decide))) hz1 hz2 hz3 ?_
  refine lv_astore (lv' := [(4, .ref q9), (0, .ref (a 0)), (1, .int x0), (2, .int x1), (3, .ref o)]) hx hb dL_at_12 hl (by decide) rfl (fun ls hl => ?_)
  refine lv_iconst (v := 1) hx hb dL_at_14 (by decide) ?_
  exact ze_i (qs := fun _ => 0) hC hG rfl rfl hr rfl hk (Nat.le_of_ble_eq_true rfl) (Nat.le_of_ble_eq_true rfl) dL_at_15
theorem dX14_at_0 : decode cX14_at 0 = .ok (.aload_n 0, 1) := by decide +kernel
theorem dX14_at_1 : decode cX14_at 1 = .ok (.iload_n 1, 1) := by decide +kernel
theorem dX14_at_2 : decode cX14_at 2 = .ok (.invokevirtual 157, 3) := by decide +kernel
theorem dX14_at_20 : decode cX14_at 20 = .ok (.lconst 0, 1) := by decide +kernel
theorem dX14_at_21 : decode cX14_at 21 = .ok (.goto 19, 3) := by decide +kernel
theorem dX14_at_40 : decode cX14_at 40 = .ok (.lreturn, 1) := by decide +kernel
theorem dX14_at_5 : decode cX14_at 5 = .ok (.ifCond .ne 15, 3) := by decide +kernel
set_option maxHeartbeats 4000000 in
set_option maxRecDepth 100000 in
theorem z_117_at (l : Launch) (hst : l.stackTraces = false) (D : va_G) (κ : K4) (E0 : Nat) (sz : Nat) (b : Nat → Nat) (x0 : Int32) (x1 : Int32) (k_x0 : -2147483648 ≤ x0.toInt ∧ x0.toInt ≤ 2147483647) (k_x1 : -2147483648 ≤ x1.toInt ∧ x1.toInt ≤ 2147483647) : NM l yX14_at cX14_at 3 (some .long) 3 65 0 0 E0 D κ (mw κ b E0 0) sz [.ref (b 0), .int x0, .int x1] (QL D κ (mw κ b E0 0) sz 0 (fun qs : W1 => mw κ b E0 1)) := by
  refine NM.of (by decide +kernel) (Nat.le_of_ble_eq_true rfl) ?_
  intro p e s m below meth c ls hC hr hk hin hsz hE hT H locs hG hl
  have hx := hC.1
  have hb := hC.2.1
  have hl : lv_has ls 3 [(0, .ref (b 0)), (1, .int x0), (2, .int x1)] := hl
  refine lv_aload_n hx hb dX14_at_0 rfl (lv_at hl 0 rfl) ?_
  refine lv_iload_n hx hb dX14_at_1 rfl (lv_at hl 1 rfl) ?_
  have cut2 : Cut (mw κ b E0 0) (mw κ b E0 0) ([]) := (Cut.all 9 rfl (by decide))
  refine zc_i hG cut2 (zr_V (k := 0) (ci := 9) (n := 1) (As := [.int x0]) (rest := []) hC hG hE hT cut2 (z_63_isNoAccount l hst D κ E0 H.size b x0 ⟨by omega, by omega⟩) rfl rfl w335 w5 w338 w336 w337 (by decide +kernel) ⟨Nat.le_of_ble_eq_true rfl, Nat.le_of_ble_eq_true rfl⟩ rfl hl.1 rfl (Nat.le_of_ble_eq_true rfl) dX14_at_2 ⟨Nat.le_of_ble_eq_true rfl, Nat.le_of_ble_eq_true rfl⟩) (fun z1 H locs hG => ?_)
  have hG : BW D κ (mw κ b E0 1) _ s H locs := hG
  refine lv_if_ne (tgt := 20) hx hb dX14_at_5 (by decide) (fun _ => ?_) (fun h5 => absurd h5 (by decide))
  refine lv_lconst (v := 0) hx hb dX14_at_20 (by decide) ?_
  refine lv_goto (tgt := 40) hx hb dX14_at_21 (by decide) ?_
  exact ze_l (qs := fun _ => 0) hC hG rfl rfl hr hk (Nat.le_of_ble_eq_true rfl) (Nat.le_of_ble_eq_true rfl) dX14_at_40
theorem dX7_hadOn_0 : decode cX7_hadOn 0 = .ok (.aload_n 0, 1) := by decide +kernel
theorem dX7_hadOn_1 : decode cX7_hadOn 1 = .ok (.iload_n 1, 1) := by decide +kernel
theorem dX7_hadOn_2 : decode cX7_hadOn 2 = .ok (.invokevirtual 102, 3) := by decide +kernel
set_option maxHeartbeats 4000000 in
set_option maxRecDepth 100000 in
theorem z_118_hadOn (l : Launch) (hst : l.stackTraces = false) (D : va_G) (κ : K4) (E0 : Nat) (sz : Nat) (a : Nat → Nat) (x0 : Int32) (x1 : Int32) (k_x0 : -2147483648 ≤ x0.toInt ∧ x0.toInt ≤ 2147483647) (k_x1 : -2147483648 ≤ x1.toInt ∧ x1.toInt ≤ 2147483647) : XM l yX7_hadOn cX7_hadOn 3 (some .long) 7 103 1 6 E0 D κ (xw κ a) sz [.ref (a 0), .int x0, .int x1] "java/lang/IndexOutOfBoundsException" (NL (xw κ a) sz) := by
  refine XM.of (by decide +kernel) (Nat.le_of_ble_eq_true rfl) ?_
  intro p e s m below meth c ls hC hk hno hsz hE hT H locs hG hl
  have hx := hC.1
  have hb := hC.2.1
  have hl : lv_has ls 3 [(0, .ref (a 0)), (1, .int x0), (2, .int x1)] := hl
  refine lv_aload_n hx hb dX7_hadOn_0 rfl (lv_at hl 0 rfl) ?_
  refine lv_iload_n hx hb dX7_hadOn_1 rfl (lv_at hl 1 rfl) ?_
  have cut2 : Cut (xw κ a) (xw κ a) ([]) := (Cut.all 45 rfl (by decide))
  refine zt_v hG cut2 (zx_V (k := 0) (ci := 7) (n := 1) (As := [.int x0]) (rest := []) hC hG hE hT cut2 (z_58_needAccount l hst D κ E0 H.size a x0 ⟨by omega, by omega⟩) rfl rfl w293 w2 w296 w294 w295 (by decide +kernel) ⟨Nat.le_of_ble_eq_true rfl, Nat.le_of_ble_eq_true rfl⟩ rfl hl.1 rfl (Nat.le_of_ble_eq_true rfl) dX7_hadOn_2 ⟨Nat.le_of_ble_eq_true rfl, Nat.le_of_ble_eq_true rfl⟩) (fun ce q9 H locs hG hz1 hz2 hz3 => ?_)
  exact zt_out hno hk hG hz1 hz2 hz3 (Nat.le_of_ble_eq_true rfl) (Nat.le_of_ble_eq_true rfl)
theorem dL_hadOn_0 : decode cL_hadOn 0 = .ok (.aload_n 3, 1) := by decide +kernel
theorem dL_hadOn_1 : decode cL_hadOn 1 = .ok (.iconst 0, 1) := by decide +kernel
theorem dL_hadOn_12 : decode cL_hadOn 12 = .ok (.astore 4, 2) := by decide +kernel
theorem dL_hadOn_14 : decode cL_hadOn 14 = .ok (.iconst 1, 1) := by decide +kernel
theorem dL_hadOn_15 : decode cL_hadOn 15 = .ok (.ireturn, 1) := by decide +kernel
theorem dL_hadOn_2 : decode cL_hadOn 2 = .ok (.aload_n 0, 1) := by decide +kernel
theorem dL_hadOn_3 : decode cL_hadOn 3 = .ok (.iload_n 1, 1) := by decide +kernel
theorem dL_hadOn_4 : decode cL_hadOn 4 = .ok (.iload_n 2, 1) := by decide +kernel
theorem dL_hadOn_5 : decode cL_hadOn 5 = .ok (.invokevirtual 97, 3) := by decide +kernel
set_option maxHeartbeats 4000000 in
set_option maxRecDepth 100000 in
theorem z_119_hadOn (l : Launch) (hst : l.stackTraces = false) (D : va_G) (κ : K4) (E0 : Nat) (sz : Nat) (a : Nat → Nat) (x0 : Int32) (x1 : Int32) (o : Nat) (k_x0 : -2147483648 ≤ x0.toInt ∧ x0.toInt ≤ 2147483647) (k_x1 : -2147483648 ≤ x1.toInt ∧ x1.toInt ≤ 2147483647) : NH l yL_hadOn cL_hadOn 5 (some .int) [(0, 9, 12, 24), (0, 9, 16, 13)] 8 125 1 6 E0 D κ (xw κ a ++ [(o, .inl (κ.2.1, 1, .inr (.inl (fun _ => 0))))]) sz [.ref (a 0), .int x0, .int x1, .ref o] (QI D κ (xw κ a ++ [(o, .inl (κ.2.1, 1, .inr (.inl (fun _ => 0))))]) sz 1 (fun qs : W1 => [(o, .inl (κ.2.1, 1, .inr (.inl (fun _ => 0))))])) := by
  refine NH.of (by decide +kernel) (Nat.le_of_ble_eq_true rfl) ?_
  intro p e s m below meth c ls hC hr hk htab hsz hE hT H locs hG hl
  have hx := hC.1
  have hb := hC.2.1
  have hl : lv_has ls 5 [(0, .ref (a 0)), (1, .int x0), (2, .int x1), (3, .ref o)] := hl
  refine lv_aload_n hx hb dL_hadOn_0 rfl (lv_at hl 3 rfl) ?_
  refine lv_iconst (v := 0) hx hb dL_hadOn_1 (by decide) ?_
  refine lv_aload_n hx hb dL_hadOn_2 rfl (lv_at hl 0 rfl) ?_
  refine lv_iload_n hx hb dL_hadOn_3 rfl (lv_at hl 1 rfl) ?_
  refine lv_iload_n hx hb dL_hadOn_4 rfl (lv_at hl 2 rfl) ?_
  have cut5 : Cut (xw κ a ++ [(o, .inl (κ.2.1, 1, .inr (.inl (fun _ => 0))))]) (xw κ a) ([(o, .inl (κ.2.1, 1, .inr (.inl (fun _ => 0))))]) := (Cut.one 45 rfl (by decide))
  refine zt_l hG cut5 (zx_V (k := 0) (ci := 7) (n := 2) (As := [.int x0, .int x1]) (rest := [.int 0, .ref o]) hC hG hE hT cut5 (z_118_hadOn l hst D κ E0 H.size a x0 x1 ⟨by omega, by omega⟩ ⟨by omega, by omega⟩) rfl rfl w1148 w2 w1151 w1149 w1150 (by decide +kernel) ⟨Nat.le_of_ble_eq_true rfl, Nat.le_of_ble_eq_true rfl⟩ rfl hl.1 rfl (Nat.le_of_ble_eq_true rfl) dL_hadOn_5 ⟨Nat.le_of_ble_eq_true rfl, Nat.le_of_ble_eq_true rfl⟩) (fun ce q9 H locs hG hz1 hz2 hz3 => ?_)
  refine vx_catch (own := RL) (name := "java/lang/IndexOutOfBoundsException") (E := "java/lang/IndexOutOfBoundsException") hC.2.2.2.1 [] ⟨0, 9, 12, 24⟩ [⟨0, 9, 16, 13⟩] htab (fun z hz => by simp at hz) (by decide) (by decide) (hC.2.2.2.2 _ w285) (va_Nw.use rfl (hT.1 ("java/lang/IndexOutOfBoundsException", "java/lang/IndexOutOfBoundsException") (by decide))) hz1 hz2 hz3 ?_
  refine lv_astore (lv' := [(4, .ref q9), (0, .ref (a 0)), (1, .int x0), (2, .int x1), (3, .ref o)]) hx hb dL_hadOn_12 hl (by decide) rfl (fun ls hl => ?_)
  refine lv_iconst (v := 1) hx hb dL_hadOn_14 (by decide) ?_
  exact ze_i (qs := fun _ => 0) hC hG rfl rfl hr rfl hk (Nat.le_of_ble_eq_true rfl) (Nat.le_of_ble_eq_true rfl) dL_hadOn_15
