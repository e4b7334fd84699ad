theorem dX7_turnBack_0 : decode cX7_turnBack 0 = .ok (.aload_n 0, 1) := by decide +kernel
theorem dX7_turnBack_1 : decode cX7_turnBack 1 = .ok (.getfield 26, 3) := by decide +kernel
theorem dX7_turnBack_23 : decode cX7_turnBack 23 = .ok (.new 194, 3) := by decide +kernel
theorem dX7_turnBack_26 : decode cX7_turnBack 26 = .ok (.dup, 1) := by decide +kernel
theorem dX7_turnBack_27 : decode cX7_turnBack 27 = .ok (.ldc 196, 2) := by decide +kernel
theorem dX7_turnBack_29 : decode cX7_turnBack 29 = .ok (.invokespecial 198, 3) := by decide +kernel
theorem dX7_turnBack_32 : decode cX7_turnBack 32 = .ok (.athrow, 1) := by decide +kernel
theorem dX7_turnBack_4 : decode cX7_turnBack 4 = .ok (.iload_n 1, 1) := by decide +kernel
theorem dX7_turnBack_5 : decode cX7_turnBack 5 = .ok (.invokevirtual 188, 3) := by decide +kernel
theorem dX7_turnBack_8 : decode cX7_turnBack 8 = .ok (.ifCond .eq 15, 3) := by decide +kernel
set_option maxHeartbeats 4000000 in
set_option maxRecDepth 100000 in
theorem z_72_turnBack (l : Launch) (hst : l.stackTraces = false) (D : va_G) (κ : K4) (E0 : Nat) (sz : Nat) (a : Nat → Nat) (x0 : Int32) (k_x0 : -2147483648 ≤ x0.toInt ∧ x0.toInt ≤ 2147483647) : XM l yX7_turnBack cX7_turnBack 2 (some .int) 6 82 1 6 E0 D κ (xw κ a) sz [.ref (a 0), .int x0] "java/lang/IndexOutOfBoundsException" (NI (xw κ a) sz) := by
  refine XM.of (by decide +kernel) (Nat.le_of_ble_eq_true rfl) ?_
  intro p e s m below meth c ls hC hk hno hsz hE hT H locs hG hl
  have hx := hC.1
  have hb := hC.2.1
  have hl : lv_has ls 2 [(0, .ref (a 0)), (1, .int x0)] := hl
  refine lv_aload_n hx hb dX7_turnBack_0 rfl (lv_at hl 0 rfl) ?_
  refine bw_get (C := RX7) (T := TX7) (N := 10) (ci := 7) (v := .ref (a 12)) 2 (by decide) 0 hC hG iwX7 (xw_0 κ a) rfl w24 rfl rfl dX7_turnBack_1 ?_
  refine lv_iload_n hx hb dX7_turnBack_4 rfl (lv_at hl 1 rfl) ?_
  have cut5 : Cut (xw κ a) (xw κ a) ([]) := (Cut.all 45 rfl (by decide))
  refine zc_i hG cut5 (zr_V (k := 12) (ci := 3) (n := 1) (As := [.int x0]) (rest := []) hC hG hE hT cut5 (z_71_has l hst D κ E0 H.size a x0 ⟨by omega, by omega⟩) rfl rfl w630 w23 w633 w631 w632 (by decide +kernel) ⟨Nat.le_of_ble_eq_true rfl, Nat.le_of_ble_eq_true rfl⟩ rfl hl.1 rfl (Nat.le_of_ble_eq_true rfl) dX7_turnBack_5 ⟨Nat.le_of_ble_eq_true rfl, Nat.le_of_ble_eq_true rfl⟩) (fun z1 H locs hG => ?_)
  have hG : BW D κ (xw κ a) _ s H locs := hG
  refine lv_if_eq (tgt := 23) hx hb dX7_turnBack_8 (by decide) (fun _ => ?_) (fun h8 => absurd (by decide) h8)
  exact th_IO hC hst hE hT hno hk hG hl.1 (List.mem_of_getElem? (i := 3) rfl) w297 w298 dX7_turnBack_23 dX7_turnBack_26 dX7_turnBack_27 dX7_turnBack_29 dX7_turnBack_32 (Nat.le_of_ble_eq_true rfl) (Nat.le_of_ble_eq_true rfl) (Nat.le_of_ble_eq_true rfl) (Nat.le_of_ble_eq_true rfl) (Nat.le_of_ble_eq_true rfl) (Nat.le_of_ble_eq_true rfl)
theorem dL_turnBack_0 : decode cL_turnBack 0 = .ok (.aload_n 2, 1) := by decide +kernel
theorem dL_turnBack_1 : decode cL_turnBack 1 = .ok (.iconst 0, 1) := by decide +kernel
theorem dL_turnBack_12 : decode cL_turnBack 12 = .ok (.astore_n 3, 1) := by decide +kernel
theorem dL_turnBack_13 : decode cL_turnBack 13 = .ok (.iconst 1, 1) := by decide +kernel
theorem dL_turnBack_14 : decode cL_turnBack 14 = .ok (.ireturn, 1) := by decide +kernel
theorem dL_turnBack_2 : decode cL_turnBack 2 = .ok (.aload_n 0, 1) := by decide +kernel
theorem dL_turnBack_3 : decode cL_turnBack 3 = .ok (.iload_n 1, 1) := by decide +kernel
theorem dL_turnBack_4 : decode cL_turnBack 4 = .ok (.invokevirtual 43, 3) := by decide +kernel
set_option maxHeartbeats 4000000 in
set_option maxRecDepth 100000 in
theorem z_73_turnBack (l : Launch) (hst : l.stackTraces = false) (D : va_G) (κ : K4) (E0 : Nat) (sz : Nat) (a : Nat → Nat) (x0 : Int32) (o : Nat) (k_x0 : -2147483648 ≤ x0.toInt ∧ x0.toInt ≤ 2147483647) : NH l yL_turnBack cL_turnBack 4 (some .int) [(0, 9, 12, 24), (0, 9, 15, 15)] 7 103 1 6 E0 D κ (xw κ a ++ [(o, .inl (κ.2.1, 1, .inr (.inl (fun _ => 0))))]) sz [.ref (a 0), .int x0, .ref o] (QI D κ (xw κ a ++ [(o, .inl (κ.2.1, 1, .inr (.inl (fun _ => 0))))]) sz 1 (fun qs : W1 => [(o, .inl (κ.2.1, 1, .inr (.inl (fun _ => 0))))])) := by
  refine NH.of (by decide +kernel) (Nat.le_of_ble_eq_true rfl) ?_
  intro p e s m below meth c ls hC hr hk htab hsz hE hT H locs hG hl
  have hx := hC.1
  have hb := hC.2.1
  have hl : lv_has ls 4 [(0, .ref (a 0)), (1, .int x0), (2, .ref o)] := hl
  refine lv_aload_n hx hb dL_turnBack_0 rfl (lv_at hl 2 rfl) ?_
  refine lv_iconst (v := 0) hx hb dL_turnBack_1 (by decide) ?_
  refine lv_aload_n hx hb dL_turnBack_2 rfl (lv_at hl 0 rfl) ?_
  refine lv_iload_n hx hb dL_turnBack_3 rfl (lv_at hl 1 rfl) ?_
  have cut4 : Cut (xw κ a ++ [(o, .inl (κ.2.1, 1, .inr (.inl (fun _ => 0))))]) (xw κ a) ([(o, .inl (κ.2.1, 1, .inr (.inl (fun _ => 0))))]) := (Cut.one 45 rfl (by decide))
  refine zt_i hG cut4 (zx_V (k := 0) (ci := 7) (n := 1) (As := [.int x0]) (rest := [.int 0, .ref o]) hC hG hE hT cut4 (z_72_turnBack l hst D κ E0 H.size a x0 ⟨by omega, by omega⟩) rfl rfl w623 w2 w626 w624 w625 (by decide +kernel) ⟨Nat.le_of_ble_eq_true rfl, Nat.le_of_ble_eq_true rfl⟩ rfl hl.1 rfl (Nat.le_of_ble_eq_true rfl) dL_turnBack_4 ⟨Nat.le_of_ble_eq_true rfl, Nat.le_of_ble_eq_true rfl⟩) (fun ce q9 H locs hG hz1 hz2 hz3 => ?_)
  refine vx_catch (own := RL) (name := "java/lang/IndexOutOfBoundsException") (E := "java/lang/IndexOutOfBoundsException") hC.2.2.2.1 [] ⟨0, 9, 12, 24⟩ [⟨0, 9, 15, 15⟩] htab (fun z hz => by simp at hz) (by decide) (by decide) (hC.2.2.2.2 _ w285) (va_Nw.use rfl (hT.1 ("java/lang/IndexOutOfBoundsException", "java/lang/IndexOutOfBoundsException") (by decide))) hz1 hz2 hz3 ?_
  refine lv_astore_n (lv' := [(3, .ref q9), (0, .ref (a 0)), (1, .int x0), (2, .ref o)]) hx hb dL_turnBack_12 rfl hl (by decide) rfl (fun ls hl => ?_)
  refine lv_iconst (v := 1) hx hb dL_turnBack_13 (by decide) ?_
  exact ze_i (qs := fun _ => 0) hC hG rfl rfl hr rfl hk (Nat.le_of_ble_eq_true rfl) (Nat.le_of_ble_eq_true rfl) dL_turnBack_14
set_option maxHeartbeats 4000000 in
set_option maxRecDepth 100000 in
theorem z_74_size (l : Launch) (hst : l.stackTraces = false) (D : va_G) (κ : K4) (E0 : Nat) (sz : Nat) (h0 : Nat) (h1 : Nat) (h2 : Nat) (h3 : Nat) (h4 : Nat) (h5 : Nat) (h6 : Nat) (h7 : Nat) (h8 : Nat) : NM l yJx4a65c_size_8abf5 cJx4a65c_size_8abf5 1 (some .int) 0 0 0 0 E0 D κ ([(h1, .inr (9, [.int 0, .ref h2, .ref h3, .ref h0, .ref h4, .ref h5, .ref h6, .ref h7, .null, .int 0, .int (-1), .int 0, .int 0, .int 0, .ref h8])), (h2, .inl (κ.1, 4, .inl (fun _ => 1000))), (h3, .inr (10, [.int 0, .ref E0, .int 0])), (h0, .inr (10, [.int 0, .ref E0, .int 0])), (h4, .inr (10, [.int 0, .ref E0, .int 0])), (h5, .inr (10, [.int 0, .ref E0, .int 0])), (h6, .inr (10, [.int 0, .ref E0, .int 0])), (h7, .inr (10, [.int 0, .ref E0, .int 0])), (h8, .inr (10, [.int 0, .ref E0, .int 0]))]) sz [.ref h0] (QI D κ ([(h1, .inr (9, [.int 0, .ref h2, .ref h3, .ref h0, .ref h4, .ref h5, .ref h6, .ref h7, .null, .int 0, .int (-1), .int 0, .int 0, .int 0, .ref h8])), (h2, .inl (κ.1, 4, .inl (fun _ => 1000))), (h3, .inr (10, [.int 0, .ref E0, .int 0])), (h0, .inr (10, [.int 0, .ref E0, .int 0])), (h4, .inr (10, [.int 0, .ref E0, .int 0])), (h5, .inr (10, [.int 0, .ref E0, .int 0])), (h6, .inr (10, [.int 0, .ref E0, .int 0])), (h7, .inr (10, [.int 0, .ref E0, .int 0])), (h8, .inr (10, [.int 0, .ref E0, .int 0]))]) sz 0 (fun qs : W1 => [(h1, .inr (9, [.int 0, .ref h2, .ref h3, .ref h0, .ref h4, .ref h5, .ref h6, .ref h7, .null, .int 0, .int (-1), .int 0, .int 0, .int 0, .ref h8])), (h2, .inl (κ.1, 4, .inl (fun _ => 1000))), (h3, .inr (10, [.int 0, .ref E0, .int 0])), (h0, .inr (10, [.int 0, .ref E0, .int 0])), (h4, .inr (10, [.int 0, .ref E0, .int 0])), (h5, .inr (10, [.int 0, .ref E0, .int 0])), (h6, .inr (10, [.int 0, .ref E0, .int 0])), (h7, .inr (10, [.int 0, .ref E0, .int 0])), (h8, .inr (10, [.int 0, .ref E0, .int 0]))])) := by
  refine NM.of (by decide +kernel) (Nat.le_of_ble_eq_true rfl) ?_
  intro p e s m below meth c ls hC hr hk hin hsz hE hT H locs hG hl
  have hx := hC.1
  have hb := hC.2.1
  have hl : lv_has ls 1 [(0, .ref h0)] := hl
  refine lv_aload_n hx hb dJx4a65c_size_8abf5_0 rfl (lv_at hl 0 rfl) ?_
  refine bw_get (C := RJx4a65c) (T := TJx4a65c) (N := 3) (ci := 10) (v := .int 0) 2 (by decide) 3 hC hG iwJA rfl rfl w183 rfl rfl dJx4a65c_size_8abf5_1 ?_
  exact ze_i (qs := fun _ => 0) hC hG rfl rfl hr rfl hk (Nat.le_of_ble_eq_true rfl) (Nat.le_of_ble_eq_true rfl) dJx4a65c_size_8abf5_4
theorem dX14_isNoEntry_0 : decode cX14_isNoEntry 0 = .ok (.iload_n 1, 1) := by decide +kernel
theorem dX14_isNoEntry_1 : decode cX14_isNoEntry 1 = .ok (.iconst 0, 1) := by decide +kernel
theorem dX14_isNoEntry_10 : decode cX14_isNoEntry 10 = .ok (.isub, 1) := by decide +kernel
theorem dX14_isNoEntry_11 : decode cX14_isNoEntry 11 = .ok (.invokestatic 53, 3) := by decide +kernel
theorem dX14_isNoEntry_14 : decode cX14_isNoEntry 14 = .ok (.ifCond .ne 7, 3) := by decide +kernel
theorem dX14_isNoEntry_17 : decode cX14_isNoEntry 17 = .ok (.iconst 1, 1) := by decide +kernel
theorem dX14_isNoEntry_18 : decode cX14_isNoEntry 18 = .ok (.goto 4, 3) := by decide +kernel
theorem dX14_isNoEntry_2 : decode cX14_isNoEntry 2 = .ok (.aload_n 0, 1) := by decide +kernel
theorem dX14_isNoEntry_22 : decode cX14_isNoEntry 22 = .ok (.ireturn, 1) := by decide +kernel
theorem dX14_isNoEntry_3 : decode cX14_isNoEntry 3 = .ok (.getfield 20, 3) := by decide +kernel
theorem dX14_isNoEntry_6 : decode cX14_isNoEntry 6 = .ok (.invokevirtual 49, 3) := by decide +kernel
theorem dX14_isNoEntry_9 : decode cX14_isNoEntry 9 = .ok (.iconst 1, 1) := by decide +kernel
set_option maxHeartbeats 4000000 in
set_option maxRecDepth 100000 in
theorem z_75_isNoEntry (l : Launch) (hst : l.stackTraces = false) (D : va_G) (κ : K4) (E0 : Nat) (sz : Nat) (b : Nat → Nat) (x0 : Int32) (k_x0 : -2147483648 ≤ x0.toInt ∧ x0.toInt ≤ 2147483647) : NM l yX14_isNoEntry cX14_isNoEntry 2 (some .boolean) 1 22 0 0 E0 D κ (mw κ b E0 0) sz [.ref (b 0), .int x0] (QI D κ (mw κ b E0 0) sz 1 (fun qs : W1 => mw κ b E0 0)) := by
  refine NM.of (by decide +kernel) (Nat.le_of_ble_eq_true rfl) ?_
  intro p e s m below meth c ls hC hr hk hin hsz hE hT H locs hG hl
  have hx := hC.1
  have hb := hC.2.1
  have hl : lv_has ls 2 [(0, .ref (b 0)), (1, .int x0)] := hl
  refine lv_iload_n hx hb dX14_isNoEntry_0 rfl (lv_at hl 1 rfl) ?_
  refine lv_iconst (v := 0) hx hb dX14_isNoEntry_1 (by decide) ?_
  refine lv_aload_n hx hb dX14_isNoEntry_2 rfl (lv_at hl 0 rfl) ?_
  refine bw_get (C := RX14) (T := TX14) (N := 15) (ci := 9) (v := .ref (b 3)) 3 (by decide) 0 hC hG iwX14 rfl rfl w119 rfl rfl dX14_isNoEntry_3 ?_
  have cut6 : Cut (mw κ b E0 0) (mw κ b E0 0) ([]) := (Cut.all 9 rfl (by decide))
  refine zc_i hG cut6 (zr_V (k := 3) (ci := 10) (n := 0) (As := []) (rest := [.int 0, .int x0]) hC hG hE hT cut6 (z_74_size l hst D κ E0 H.size (b 3) (b 0) (b 1) (b 2) (b 4) (b 5) (b 6) (b 7) (b 8)) rfl rfl w179 w117 w182 w180 w181 (by decide +kernel) ⟨Nat.le_of_ble_eq_true rfl, Nat.le_of_ble_eq_true rfl⟩ rfl hl.1 rfl (Nat.le_of_ble_eq_true rfl) dX14_isNoEntry_6 ⟨Nat.le_of_ble_eq_true rfl, Nat.le_of_ble_eq_true rfl⟩) (fun z1 H locs hG => ?_)
  have hG : BW D κ (mw κ b E0 0) _ s H locs := hG
  refine lv_iconst (v := 1) hx hb dX14_isNoEntry_9 (by decide) ?_
  refine lv_isub hx hb dX14_isNoEntry_10 ?_
  refine W.eq (g2 := F0 m 11 ls [.int (-1), .int 0, .int x0]) rfl ?_
  have cut11 : Cut (mw κ b E0 0) (mw κ b E0 0) ([]) := (Cut.all 9 rfl (by decide))
  refine zc_i hG cut11 (zr_S (n := 3) (As := [.int x0, .int 0, .int (-1)]) (rest := []) hC hG hE hT cut11 (z_61_isIn l hst D κ E0 H.size b x0 ⟨by omega, by omega⟩) w167 w5 w169 w168 (by decide +kernel) ⟨Nat.le_of_ble_eq_true rfl, Nat.le_of_ble_eq_true rfl⟩ rfl hl.1 rfl (Nat.le_of_ble_eq_true rfl) dX14_isNoEntry_11 ⟨Nat.le_of_ble_eq_true rfl, Nat.le_of_ble_eq_true rfl⟩) (fun z2 H locs hG => ?_)
  have hG : BW D κ (mw κ b E0 0) _ s H locs := hG
  refine lv_if_ne (tgt := 21) hx hb dX14_isNoEntry_14 (by decide) (fun h14 => absurd (by decide) h14) (fun _ => ?_)
  refine lv_iconst (v := 1) hx hb dX14_isNoEntry_17 (by decide) ?_
  refine lv_goto (tgt := 22) hx hb dX14_isNoEntry_18 (by decide) ?_
  exact ze_i (qs := fun _ => 0) hC hG rfl rfl hr rfl hk (Nat.le_of_ble_eq_true rfl) (Nat.le_of_ble_eq_true rfl) dX14_isNoEntry_22
theorem dX14_turnBack_0 : decode cX14_turnBack 0 = .ok (.aload_n 0, 1) := by decide +kernel
theorem dX14_turnBack_1 : decode cX14_turnBack 1 = .ok (.aload_n 0, 1) := by decide +kernel
theorem dX14_turnBack_2 : decode cX14_turnBack 2 = .ok (.iload_n 1, 1) := by decide +kernel
theorem dX14_turnBack_26 : decode cX14_turnBack 26 = .ok (.iconst 1, 1) := by decide +kernel
theorem dX14_turnBack_27 : decode cX14_turnBack 27 = .ok (.goto 4, 3) := by decide +kernel
theorem dX14_turnBack_3 : decode cX14_turnBack 3 = .ok (.invokevirtual 213, 3) := by decide +kernel
theorem dX14_turnBack_31 : decode cX14_turnBack 31 = .ok (.iconst 1, 1) := by decide +kernel
theorem dX14_turnBack_32 : decode cX14_turnBack 32 = .ok (.invokevirtual 61, 3) := by decide +kernel
theorem dX14_turnBack_35 : decode cX14_turnBack 35 = .ok (.ifCond .eq 5, 3) := by decide +kernel
theorem dX14_turnBack_38 : decode cX14_turnBack 38 = .ok (.iconst 0, 1) := by decide +kernel
theorem dX14_turnBack_39 : decode cX14_turnBack 39 = .ok (.ireturn, 1) := by decide +kernel
theorem dX14_turnBack_6 : decode cX14_turnBack 6 = .ok (.ifCond .ne 20, 3) := by decide +kernel
set_option maxHeartbeats 4000000 in
set_option maxRecDepth 100000 in
theorem z_76_turnBack (l : Launch) (hst : l.stackTraces = false) (D : va_G) (κ : K4) (E0 : Nat) (sz : Nat) (b : Nat → Nat) (x0 : Int32) (k_x0 : -2147483648 ≤ x0.toInt ∧ x0.toInt ≤ 2147483647) : NM l yX14_turnBack cX14_turnBack 5 (some .int) 2 44 0 0 E0 D κ (mw κ b E0 0) sz [.ref (b 0), .int x0] (QI D κ (mw κ b E0 0) sz 0 (fun qs : W1 => mw κ b E0 1)) := by
  refine NM.of (by decide +kernel) (Nat.le_of_ble_eq_true rfl) ?_
  intro p e s m below meth c ls hC hr hk hin hsz hE hT H locs hG hl
  have hx := hC.1
  have hb := hC.2.1
  have hl : lv_has ls 5 [(0, .ref (b 0)), (1, .int x0)] := hl
  refine lv_aload_n hx hb dX14_turnBack_0 rfl (lv_at hl 0 rfl) ?_
  refine lv_aload_n hx hb dX14_turnBack_1 rfl (lv_at hl 0 rfl) ?_
  refine lv_iload_n hx hb dX14_turnBack_2 rfl (lv_at hl 1 rfl) ?_
  have cut3 : Cut (mw κ b E0 0) (mw κ b E0 0) ([]) := (Cut.all 9 rfl (by decide))
  refine zc_i hG cut3 (zr_V (k := 0) (ci := 9) (n := 1) (As := [.int x0]) (rest := [.ref (b 0)]) hC hG hE hT cut3 (z_75_isNoEntry l hst D κ E0 H.size b x0 ⟨by omega, by omega⟩) rfl rfl w652 w5 w655 w653 w654 (by decide +kernel) ⟨Nat.le_of_ble_eq_true rfl, Nat.le_of_ble_eq_true rfl⟩ rfl hl.1 rfl (Nat.le_of_ble_eq_true rfl) dX14_turnBack_3 ⟨Nat.le_of_ble_eq_true rfl, Nat.le_of_ble_eq_true rfl⟩) (fun z1 H locs hG => ?_)
  have hG : BW D κ (mw κ b E0 0) _ s H locs := hG
  refine lv_if_ne (tgt := 26) hx hb dX14_turnBack_6 (by decide) (fun _ => ?_) (fun h6 => absurd h6 (by decide))
  refine lv_iconst (v := 1) hx hb dX14_turnBack_26 (by decide) ?_
  refine lv_goto (tgt := 31) hx hb dX14_turnBack_27 (by decide) ?_
  refine lv_iconst (v := 1) hx hb dX14_turnBack_31 (by decide) ?_
  have cut32 : Cut (mw κ b E0 0) (mw κ b E0 0) ([]) := (Cut.all 9 rfl (by decide))
  refine zc_i hG cut32 (zr_V (k := 0) (ci := 9) (n := 2) (As := [.int 1, .int 1]) (rest := []) hC hG hE hT cut32 (z_4_start l hst D κ E0 H.size b) rfl rfl w170 w5 w173 w171 w172 (by decide +kernel) ⟨Nat.le_of_ble_eq_true rfl, Nat.le_of_ble_eq_true rfl⟩ rfl hl.1 rfl (Nat.le_of_ble_eq_true rfl) dX14_turnBack_32 ⟨Nat.le_of_ble_eq_true rfl, Nat.le_of_ble_eq_true rfl⟩) (fun z2 H locs hG => ?_)
  have hG : BW D κ (mw κ b E0 1) _ s H locs := hG
  refine lv_if_eq (tgt := 40) hx hb dX14_turnBack_35 (by decide) (fun h35 => absurd h35 (by decide)) (fun _ => ?_)
  refine lv_iconst (v := 0) hx hb dX14_turnBack_38 (by decide) ?_
  exact ze_i (qs := fun _ => 0) hC hG rfl rfl hr rfl hk (Nat.le_of_ble_eq_true rfl) (Nat.le_of_ble_eq_true rfl) dX14_turnBack_39
theorem dX7_needEntry_0 : decode cX7_needEntry 0 = .ok (.aload_n 0, 1) := by decide +kernel
theorem dX7_needEntry_1 : decode cX7_needEntry 1 = .ok (.getfield 26, 3) := by decide +kernel
theorem dX7_needEntry_11 : decode cX7_needEntry 11 = .ok (.new 194, 3) := by decide +kernel
theorem dX7_needEntry_14 : decode cX7_needEntry 14 = .ok (.dup, 1) := by decide +kernel
theorem dX7_needEntry_15 : decode cX7_needEntry 15 = .ok (.ldc 196, 2) := by decide +kernel
theorem dX7_needEntry_17 : decode cX7_needEntry 17 = .ok (.invokespecial 198, 3) := by decide +kernel
theorem dX7_needEntry_20 : decode cX7_needEntry 20 = .ok (.athrow, 1) := by decide +kernel
theorem dX7_needEntry_4 : decode cX7_needEntry 4 = .ok (.iload_n 1, 1) := by decide +kernel
theorem dX7_needEntry_5 : decode cX7_needEntry 5 = .ok (.invokevirtual 188, 3) := by decide +kernel
theorem dX7_needEntry_8 : decode cX7_needEntry 8 = .ok (.ifCond .ne 13, 3) := by decide +kernel
set_option maxHeartbeats 4000000 in
set_option maxRecDepth 100000 in
theorem z_77_needEntry (l : Launch) (hst : l.stackTraces = false) (D : va_G) (κ : K4) (E0 : Nat) (sz : Nat) (a : Nat → Nat) (x0 : Int32) (k_x0 : -2147483648 ≤ x0.toInt ∧ x0.toInt ≤ 2147483647) : XM l yX7_needEntry cX7_needEntry 2 none 6 82 1 6 E0 D κ (xw κ a) sz [.ref (a 0), .int x0] "java/lang/IndexOutOfBoundsException" (NV (xw κ a) sz) := by
  refine XM.of (by decide +kernel) (Nat.le_of_ble_eq_true rfl) ?_
  intro p e s m below meth c ls hC hk hno hsz hE hT H locs hG hl
  have hx := hC.1
  have hb := hC.2.1
  have hl : lv_has ls 2 [(0, .ref (a 0)), (1, .int x0)] := hl
  refine lv_aload_n hx hb dX7_needEntry_0 rfl (lv_at hl 0 rfl) ?_
  refine bw_get (C := RX7) (T := TX7) (N := 10) (ci := 7) (v := .ref (a 12)) 2 (by decide) 0 hC hG iwX7 (xw_0 κ a) rfl w24 rfl rfl dX7_needEntry_1 ?_
  refine lv_iload_n hx hb dX7_needEntry_4 rfl (lv_at hl 1 rfl) ?_
  have cut5 : Cut (xw κ a) (xw κ a) ([]) := (Cut.all 45 rfl (by decide))
  refine zc_i hG cut5 (zr_V (k := 12) (ci := 3) (n := 1) (As := [.int x0]) (rest := []) hC hG hE hT cut5 (z_71_has l hst D κ E0 H.size a x0 ⟨by omega, by omega⟩) rfl rfl w630 w23 w633 w631 w632 (by decide +kernel) ⟨Nat.le_of_ble_eq_true rfl, Nat.le_of_ble_eq_true rfl⟩ rfl hl.1 rfl (Nat.le_of_ble_eq_true rfl) dX7_needEntry_5 ⟨Nat.le_of_ble_eq_true rfl, Nat.le_of_ble_eq_true rfl⟩) (fun z1 H locs hG => ?_)
  have hG : BW D κ (xw κ a) _ s H locs := hG
  refine lv_if_ne (tgt := 21) hx hb dX7_needEntry_8 (by decide) (fun h8 => absurd (by decide) h8) (fun _ => ?_)
  exact th_IO hC hst hE hT hno hk hG hl.1 (List.mem_of_getElem? (i := 3) rfl) w297 w298 dX7_needEntry_11 dX7_needEntry_14 dX7_needEntry_15 dX7_needEntry_17 dX7_needEntry_20 (Nat.le_of_ble_eq_true rfl) (Nat.le_of_ble_eq_true rfl) (Nat.le_of_ble_eq_true rfl) (Nat.le_of_ble_eq_true rfl) (Nat.le_of_ble_eq_true rfl) (Nat.le_of_ble_eq_true rfl)
theorem dX7_ofEntry_0 : decode cX7_ofEntry 0 = .ok (.aload_n 0, 1) := by decide +kernel
theorem dX7_ofEntry_1 : decode cX7_ofEntry 1 = .ok (.iload_n 1, 1) := by decide +kernel
theorem dX7_ofEntry_2 : decode cX7_ofEntry 2 = .ok (.invokevirtual 212, 3) := by decide +kernel
set_option maxHeartbeats 4000000 in
set_option maxRecDepth 100000 in
theorem z_78_ofEntry (l : Launch) (hst : l.stackTraces = false) (D : va_G) (κ : K4) (E0 : Nat) (sz : Nat) (a : Nat → Nat) (x0 : Int32) (x1 : Int32) (k_x0 : -2147483648 ≤ x0.toInt ∧ x0.toInt ≤ 2147483647) (k_x1 : -2147483648 ≤ x1.toInt ∧ x1.toInt ≤ 2147483647) : XM l yX7_ofEntry cX7_ofEntry 3 (some .int) 7 103 1 6 E0 D κ (xw κ a) sz [.ref (a 0), .int x0, .int x1] "java/lang/IndexOutOfBoundsException" (NI (xw κ a) sz) := by
  refine XM.of (by decide +kernel) (Nat.le_of_ble_eq_true rfl) ?_
  intro p e s m below meth c ls hC hk hno hsz hE hT H locs hG hl
  have hx := hC.1
  have hb := hC.2.1
  have hl : lv_has ls 3 [(0, .ref (a 0)), (1, .int x0), (2, .int x1)] := hl
  refine lv_aload_n hx hb dX7_ofEntry_0 rfl (lv_at hl 0 rfl) ?_
  refine lv_iload_n hx hb dX7_ofEntry_1 rfl (lv_at hl 1 rfl) ?_
  have cut2 : Cut (xw κ a) (xw κ a) ([]) := (Cut.all 45 rfl (by decide))
  refine zt_v hG cut2 (zx_V (k := 0) (ci := 7) (n := 1) (As := [.int x0]) (rest := []) hC hG hE hT cut2 (z_77_needEntry l hst D κ E0 H.size a x0 ⟨by omega, by omega⟩) rfl rfl w664 w2 w667 w665 w666 (by decide +kernel) ⟨Nat.le_of_ble_eq_true rfl, Nat.le_of_ble_eq_true rfl⟩ rfl hl.1 rfl (Nat.le_of_ble_eq_true rfl) dX7_ofEntry_2 ⟨Nat.le_of_ble_eq_true rfl, Nat.le_of_ble_eq_true rfl⟩) (fun ce q9 H locs hG hz1 hz2 hz3 => ?_)
  exact zt_out hno hk hG hz1 hz2 hz3 (Nat.le_of_ble_eq_true rfl) (Nat.le_of_ble_eq_true rfl)
theorem dL_ofEntry_0 : decode cL_ofEntry 0 = .ok (.aload_n 3, 1) := by decide +kernel
theorem dL_ofEntry_1 : decode cL_ofEntry 1 = .ok (.iconst 0, 1) := by decide +kernel
theorem dL_ofEntry_13 : decode cL_ofEntry 13 = .ok (.astore 4, 2) := by decide +kernel
theorem dL_ofEntry_15 : decode cL_ofEntry 15 = .ok (.iconst 1, 1) := by decide +kernel
theorem dL_ofEntry_16 : decode cL_ofEntry 16 = .ok (.ireturn, 1) := by decide +kernel
theorem dL_ofEntry_2 : decode cL_ofEntry 2 = .ok (.aload_n 0, 1) := by decide +kernel
theorem dL_ofEntry_3 : decode cL_ofEntry 3 = .ok (.iload_n 1, 1) := by decide +kernel
theorem dL_ofEntry_4 : decode cL_ofEntry 4 = .ok (.iload_n 2, 1) := by decide +kernel
theorem dL_ofEntry_5 : decode cL_ofEntry 5 = .ok (.invokevirtual 46, 3) := by decide +kernel
set_option maxHeartbeats 4000000 in
set_option maxRecDepth 100000 in
theorem z_79_ofEntry (l : Launch) (hst : l.stackTraces = false) (D : va_G) (κ : K4) (E0 : Nat) (sz : Nat) (a : Nat → Nat) (x0 : Int32) (x1 : Int32) (o : Nat) (k_x0 : -2147483648 ≤ x0.toInt ∧ x0.toInt ≤ 2147483647) (k_x1 : -2147483648 ≤ x1.toInt ∧ x1.toInt ≤ 2147483647) : NH l yL_ofEntry cL_ofEntry 5 (some .int) [(0, 10, 13, 24), (0, 10, 17, 13)] 8 125 1 6 E0 D κ (xw κ a ++ [(o, .inl (κ.2.1, 1, .inr (.inl (fun _ => 0))))]) sz [.ref (a 0), .int x0, .int x1, .ref o] (QI D κ (xw κ a ++ [(o, .inl (κ.2.1, 1, .inr (.inl (fun _ => 0))))]) sz 1 (fun qs : W1 => [(o, .inl (κ.2.1, 1, .inr (.inl (fun _ => 0))))])) := by
  refine NH.of (by decide +kernel) (Nat.le_of_ble_eq_true rfl) ?_
  intro p e s m below meth c ls hC hr hk htab hsz hE hT H locs hG hl
  have hx := hC.1
  have hb := hC.2.1
  have hl : lv_has ls 5 [(0, .ref (a 0)), (1, .int x0), (2, .int x1), (3, .ref o)] := hl
  refine lv_aload_n hx hb dL_ofEntry_0 rfl (lv_at hl 3 rfl) ?_
  refine lv_iconst (v := 0) hx hb dL_ofEntry_1 (by decide) ?_
  refine lv_aload_n hx hb dL_ofEntry_2 rfl (lv_at hl 0 rfl) ?_
  refine lv_iload_n hx hb dL_ofEntry_3 rfl (lv_at hl 1 rfl) ?_
  refine lv_iload_n hx hb dL_ofEntry_4 rfl (lv_at hl 2 rfl) ?_
  have cut5 : Cut (xw κ a ++ [(o, .inl (κ.2.1, 1, .inr (.inl (fun _ => 0))))]) (xw κ a) ([(o, .inl (κ.2.1, 1, .inr (.inl (fun _ => 0))))]) := (Cut.one 45 rfl (by decide))
  refine zt_i hG cut5 (zx_V (k := 0) (ci := 7) (n := 2) (As := [.int x0, .int x1]) (rest := [.int 0, .ref o]) hC hG hE hT cut5 (z_78_ofEntry l hst D κ E0 H.size a x0 x1 ⟨by omega, by omega⟩ ⟨by omega, by omega⟩) rfl rfl w659 w2 w662 w660 w661 (by decide +kernel) ⟨Nat.le_of_ble_eq_true rfl, Nat.le_of_ble_eq_true rfl⟩ rfl hl.1 rfl (Nat.le_of_ble_eq_true rfl) dL_ofEntry_5 ⟨Nat.le_of_ble_eq_true rfl, Nat.le_of_ble_eq_true rfl⟩) (fun ce q9 H locs hG hz1 hz2 hz3 => ?_)
  refine vx_catch (own := RL) (name := "java/lang/IndexOutOfBoundsException") (E := "java/lang/IndexOutOfBoundsException") hC.2.2.2.1 [] ⟨0, 10, 13, 24⟩ [⟨0, 10, 17, 13⟩] htab (fun z hz => by simp at hz) (by decide) (by decide) (hC.2.2.2.2 _ w285) (va_Nw.use rfl (hT.1 ("java/lang/IndexOutOfBoundsException", "java/lang/IndexOutOfBoundsException") (by decide))) hz1 hz2 hz3 ?_
  refine lv_astore (lv' := [(4, .ref q9), (0, .ref (a 0)), (1, .int x0), (2, .int x1), (3, .ref o)]) hx hb dL_ofEntry_13 hl (by decide) rfl (fun ls hl => ?_)
  refine lv_iconst (v := 1) hx hb dL_ofEntry_15 (by decide) ?_
  exact ze_i (qs := fun _ => 0) hC hG rfl rfl hr rfl hk (Nat.le_of_ble_eq_true rfl) (Nat.le_of_ble_eq_true rfl) dL_ofEntry_16
theorem dX14_ofEntry_0 : decode cX14_ofEntry 0 = .ok (.aload_n 0, 1) := by decide +kernel
theorem dX14_ofEntry_1 : decode cX14_ofEntry 1 = .ok (.aload_n 0, 1) := by decide +kernel
theorem dX14_ofEntry_10 : decode cX14_ofEntry 10 = .ok (.ifCond .ne 25, 3) := by decide +kernel
theorem dX14_ofEntry_2 : decode cX14_ofEntry 2 = .ok (.iload_n 1, 1) := by decide +kernel
theorem dX14_ofEntry_3 : decode cX14_ofEntry 3 = .ok (.invokevirtual 213, 3) := by decide +kernel
theorem dX14_ofEntry_35 : decode cX14_ofEntry 35 = .ok (.iconst 0, 1) := by decide +kernel
theorem dX14_ofEntry_36 : decode cX14_ofEntry 36 = .ok (.goto 18, 3) := by decide +kernel
theorem dX14_ofEntry_54 : decode cX14_ofEntry 54 = .ok (.ireturn, 1) := by decide +kernel
theorem dX14_ofEntry_6 : decode cX14_ofEntry 6 = .ok (.iconst 1, 1) := by decide +kernel
theorem dX14_ofEntry_7 : decode cX14_ofEntry 7 = .ok (.invokevirtual 61, 3) := by decide +kernel
set_option maxHeartbeats 4000000 in
set_option maxRecDepth 100000 in
theorem z_80_ofEntry (l : Launch) (hst : l.stackTraces = false) (D : va_G) (κ : K4) (E0 : Nat) (sz : Nat) (b : Nat → Nat) (x0 : Int32) (x1 : Int32) (k_x0 : -2147483648 ≤ x0.toInt ∧ x0.toInt ≤ 2147483647) (k_x1 : -2147483648 ≤ x1.toInt ∧ x1.toInt ≤ 2147483647) : NM l yX14_ofEntry cX14_ofEntry 3 (some .int) 2 44 0 0 E0 D κ (mw κ b E0 0) sz [.ref (b 0), .int x0, .int x1] (QI D κ (mw κ b E0 0) sz 0 (fun qs : W1 => mw κ b E0 1)) := by
  refine NM.of (by decide +kernel) (Nat.le_of_ble_eq_true rfl) ?_
  intro p e s m below meth c ls hC hr hk hin hsz hE hT H locs hG hl
  have hx := hC.1
  have hb := hC.2.1
  have hl : lv_has ls 3 [(0, .ref (b 0)), (1, .int x0), (2, .int x1)] := hl
  refine lv_aload_n hx hb dX14_ofEntry_0 rfl (lv_at hl 0 rfl) ?_
  refine lv_aload_n hx hb dX14_ofEntry_1 rfl (lv_at hl 0 rfl) ?_
  refine lv_iload_n hx hb dX14_ofEntry_2 rfl (lv_at hl 1 rfl) ?_
  have cut3 : Cut (mw κ b E0 0) (mw κ b E0 0) ([]) := (Cut.all 9 rfl (by decide))
  refine zc_i hG cut3 (zr_V (k := 0) (ci := 9) (n := 1) (As := [.int x0]) (rest := [.ref (b 0)]) hC hG hE hT cut3 (z_75_isNoEntry l hst D κ E0 H.size b x0 ⟨by omega, by omega⟩) rfl rfl w652 w5 w655 w653 w654 (by decide +kernel) ⟨Nat.le_of_ble_eq_true rfl, Nat.le_of_ble_eq_true rfl⟩ rfl hl.1 rfl (Nat.le_of_ble_eq_true rfl) dX14_ofEntry_3 ⟨Nat.le_of_ble_eq_true rfl, Nat.le_of_ble_eq_true rfl⟩) (fun z1 H locs hG => ?_)
  have hG : BW D κ (mw κ b E0 0) _ s H locs := hG
  refine lv_iconst (v := 1) hx hb dX14_ofEntry_6 (by decide) ?_
  have cut7 : Cut (mw κ b E0 0) (mw κ b E0 0) ([]) := (Cut.all 9 rfl (by decide))
  refine zc_i hG cut7 (zr_V (k := 0) (ci := 9) (n := 2) (As := [.int 1, .int 1]) (rest := []) hC hG hE hT cut7 (z_4_start l hst D κ E0 H.size b) rfl rfl w170 w5 w173 w171 w172 (by decide +kernel) ⟨Nat.le_of_ble_eq_true rfl, Nat.le_of_ble_eq_true rfl⟩ rfl hl.1 rfl (Nat.le_of_ble_eq_true rfl) dX14_ofEntry_7 ⟨Nat.le_of_ble_eq_true rfl, Nat.le_of_ble_eq_true rfl⟩) (fun z2 H locs hG => ?_)
  have hG : BW D κ (mw κ b E0 1) _ s H locs := hG
  refine lv_if_ne (tgt := 35) hx hb dX14_ofEntry_10 (by decide) (fun _ => ?_) (fun h10 => absurd h10 (by decide))
  refine lv_iconst (v := 0) hx hb dX14_ofEntry_35 (by decide) ?_
  refine lv_goto (tgt := 54) hx hb dX14_ofEntry_36 (by decide) ?_
  exact ze_i (qs := fun _ => 0) hC hG rfl rfl hr rfl hk (Nat.le_of_ble_eq_true rfl) (Nat.le_of_ble_eq_true rfl) dX14_ofEntry_54
theorem dX7_ofLeg_0 : decode cX7_ofLeg 0 = .ok (.aload_n 0, 1) := by decide +kernel
theorem dX7_ofLeg_1 : decode cX7_ofLeg 1 = .ok (.iload_n 1, 1) := by decide +kernel
theorem dX7_ofLeg_2 : decode cX7_ofLeg 2 = .ok (.invokevirtual 212, 3) := by decide +kernel
set_option maxHeartbeats 4000000 in
set_option maxRecDepth 100000 in
theorem z_81_ofLeg (l : Launch) (hst : l.stackTraces = false) (D : va_G) (κ : K4) (E0 : Nat) (sz : Nat) (a : Nat → Nat) (x0 : Int32) (x1 : Int32) (x2 : Int32) (k_x0 : -2147483648 ≤ x0.toInt ∧ x0.toInt ≤ 2147483647) (k_x1 : -2147483648 ≤ x1.toInt ∧ x1.toInt ≤ 2147483647) (k_x2 : -2147483648 ≤ x2.toInt ∧ x2.toInt ≤ 2147483647) : XM l yX7_ofLeg cX7_ofLeg 5 (some .long) 7 103 1 6 E0 D κ (xw κ a) sz [.ref (a 0), .int x0, .int x1, .int x2] "java/lang/IndexOutOfBoundsException" (NL (xw κ a) sz) := by
  refine XM.of (by decide +kernel) (Nat.le_of_ble_eq_true rfl) ?_
  intro p e s m below meth c ls hC hk hno hsz hE hT H locs hG hl
  have hx := hC.1
  have hb := hC.2.1
  have hl : lv_has ls 5 [(0, .ref (a 0)), (1, .int x0), (2, .int x1), (3, .int x2)] := hl
  refine lv_aload_n hx hb dX7_ofLeg_0 rfl (lv_at hl 0 rfl) ?_
  refine lv_iload_n hx hb dX7_ofLeg_1 rfl (lv_at hl 1 rfl) ?_
  have cut2 : Cut (xw κ a) (xw κ a) ([]) := (Cut.all 45 rfl (by decide))
  refine zt_v hG cut2 (zx_V (k := 0) (ci := 7) (n := 1) (As := [.int x0]) (rest := []) hC hG hE hT cut2 (z_77_needEntry l hst D κ E0 H.size a x0 ⟨by omega, by omega⟩) rfl rfl w664 w2 w667 w665 w666 (by decide +kernel) ⟨Nat.le_of_ble_eq_true rfl, Nat.le_of_ble_eq_true rfl⟩ rfl hl.1 rfl (Nat.le_of_ble_eq_true rfl) dX7_ofLeg_2 ⟨Nat.le_of_ble_eq_true rfl, Nat.le_of_ble_eq_true rfl⟩) (fun ce q9 H locs hG hz1 hz2 hz3 => ?_)
  exact zt_out hno hk hG hz1 hz2 hz3 (Nat.le_of_ble_eq_true rfl) (Nat.le_of_ble_eq_true rfl)
theorem dL_ofLeg_0 : decode cL_ofLeg 0 = .ok (.aload 4, 2) := by decide +kernel
theorem dL_ofLeg_14 : decode cL_ofLeg 14 = .ok (.astore 5, 2) := by decide +kernel
theorem dL_ofLeg_16 : decode cL_ofLeg 16 = .ok (.iconst 1, 1) := by decide +kernel
theorem dL_ofLeg_17 : decode cL_ofLeg 17 = .ok (.ireturn, 1) := by decide +kernel
theorem dL_ofLeg_2 : decode cL_ofLeg 2 = .ok (.iconst 0, 1) := by decide +kernel
theorem dL_ofLeg_3 : decode cL_ofLeg 3 = .ok (.aload_n 0, 1) := by decide +kernel
theorem dL_ofLeg_4 : decode cL_ofLeg 4 = .ok (.iload_n 1, 1) := by decide +kernel
theorem dL_ofLeg_5 : decode cL_ofLeg 5 = .ok (.iload_n 2, 1) := by decide +kernel
theorem dL_ofLeg_6 : decode cL_ofLeg 6 = .ok (.iload_n 3, 1) := by decide +kernel
theorem dL_ofLeg_7 : decode cL_ofLeg 7 = .ok (.invokevirtual 49, 3) := by decide +kernel
set_option maxHeartbeats 4000000 in
set_option maxRecDepth 100000 in
theorem z_82_ofLeg (l : Launch) (hst : l.stackTraces = false) (D : va_G) (κ : K4) (E0 : Nat) (sz : Nat) (a : Nat → Nat) (x0 : Int32) (x1 : Int32) (x2 : Int32) (o : Nat) (k_x0 : -2147483648 ≤ x0.toInt ∧ x0.toInt ≤ 2147483647) (k_x1 : -2147483648 ≤ x1.toInt ∧ x1.toInt ≤ 2147483647) (k_x2 : -2147483648 ≤ x2.toInt ∧ x2.toInt ≤ 2147483647) : NH l yL_ofLeg cL_ofLeg 6 (some .int) [(0, 11, 14, 24), (0, 11, 18, 13)] 8 127 1 6 E0 D κ (xw κ a ++ [(o, .inl (κ.2.1, 1, .inr (.inl (fun _ => 0))))]) sz [.ref (a 0), .int x0, .int x1, .int x2, .ref o] (QI D κ (xw κ a ++ [(o, .inl (κ.2.1, 1, .inr (.inl (fun _ => 0))))]) sz 1 (fun qs : W1 => [(o, .inl (κ.2.1, 1, .inr (.inl (fun _ => 0))))])) := by
  refine NH.of (by decide +kernel) (Nat.le_of_ble_eq_true rfl) ?_
  intro p e s m below meth c ls hC hr hk htab hsz hE hT H locs hG hl
  have hx := hC.1
  have hb := hC.2.1
  have hl : lv_has ls 6 [(0, .ref (a 0)), (1, .int x0), (2, .int x1), (3, .int x2), (4, .ref o)] := hl
  refine lv_aload hx hb dL_ofLeg_0 (lv_at hl 4 rfl) ?_
  refine lv_iconst (v := 0) hx hb dL_ofLeg_2 (by decide) ?_
  refine lv_aload_n hx hb dL_ofLeg_3 rfl (lv_at hl 0 rfl) ?_
  refine lv_iload_n hx hb dL_ofLeg_4 rfl (lv_at hl 1 rfl) ?_
  refine lv_iload_n hx hb dL_ofLeg_5 rfl (lv_at hl 2 rfl) ?_
  refine lv_iload_n hx hb dL_ofLeg_6 rfl (lv_at hl 3 rfl) ?_
  have cut7 : Cut (xw κ a ++ [(o, .inl (κ.2.1, 1, .inr (.inl (fun _ => 0))))]) (xw κ a) ([(o, .inl (κ.2.1, 1, .inr (.inl (fun _ => 0))))]) := (Cut.one 45 rfl (by decide))
  refine zt_l hG cut7 (zx_V (k := 0) (ci := 7) (n := 3) (As := [.int x0, .int x1, .int x2]) (rest := [.int 0, .ref o]) hC hG hE hT cut7 (z_81_ofLeg l hst D κ E0 H.size a x0 x1 x2 ⟨by omega, by omega⟩ ⟨by omega, by omega⟩ ⟨by omega, by omega⟩) rfl rfl w678 w2 w681 w679 w680 (by decide +kernel) ⟨Nat.le_of_ble_eq_true rfl, Nat.le_of_ble_eq_true rfl⟩ rfl hl.1 rfl (Nat.le_of_ble_eq_true rfl) dL_ofLeg_7 ⟨Nat.le_of_ble_eq_true rfl, Nat.le_of_ble_eq_true rfl⟩) (fun ce q9 H locs hG hz1 hz2 hz3 => ?_)
  refine vx_catch (own := RL) (name := "java/lang/IndexOutOfBoundsException") (E := "java/lang/IndexOutOfBoundsException") hC.2.2.2.1 [] ⟨0, 11, 14, 24⟩ [⟨0, 11, 18, 13⟩] htab (fun z hz => by simp at hz) (by decide) (by decide) (hC.2.2.2.2 _ w285) (va_Nw.use rfl (hT.1 ("java/lang/IndexOutOfBoundsException", "java/lang/IndexOutOfBoundsException") (by decide))) hz1 hz2 hz3 ?_
  refine lv_astore (lv' := [(5, .ref q9), (0, .ref (a 0)), (1, .int x0), (2, .int x1), (3, .int x2), (4, .ref o)]) hx hb dL_ofLeg_14 hl (by decide) rfl (fun ls hl => ?_)
  refine lv_iconst (v := 1) hx hb dL_ofLeg_16 (by decide) ?_
  exact ze_i (qs := fun _ => 0) hC hG rfl rfl hr rfl hk (Nat.le_of_ble_eq_true rfl) (Nat.le_of_ble_eq_true rfl) dL_ofLeg_17
theorem dX14_ofLeg_0 : decode cX14_ofLeg 0 = .ok (.aload_n 0, 1) := by decide +kernel
theorem dX14_ofLeg_1 : decode cX14_ofLeg 1 = .ok (.aload_n 0, 1) := by decide +kernel
theorem dX14_ofLeg_100 : decode cX14_ofLeg 100 = .ok (.lreturn, 1) := by decide +kernel
theorem dX14_ofLeg_2 : decode cX14_ofLeg 2 = .ok (.iload_n 1, 1) := by decide +kernel
theorem dX14_ofLeg_3 : decode cX14_ofLeg 3 = .ok (.invokevirtual 213, 3) := by decide +kernel
theorem dX14_ofLeg_36 : decode cX14_ofLeg 36 = .ok (.iconst 1, 1) := by decide +kernel
theorem dX14_ofLeg_37 : decode cX14_ofLeg 37 = .ok (.goto 4, 3) := by decide +kernel
theorem dX14_ofLeg_41 : decode cX14_ofLeg 41 = .ok (.iconst 1, 1) := by decide +kernel
theorem dX14_ofLeg_42 : decode cX14_ofLeg 42 = .ok (.invokevirtual 61, 3) := by decide +kernel
theorem dX14_ofLeg_45 : decode cX14_ofLeg 45 = .ok (.ifCond .ne 25, 3) := by decide +kernel
theorem dX14_ofLeg_6 : decode cX14_ofLeg 6 = .ok (.ifCond .ne 30, 3) := by decide +kernel
theorem dX14_ofLeg_70 : decode cX14_ofLeg 70 = .ok (.lconst 0, 1) := by decide +kernel
theorem dX14_ofLeg_71 : decode cX14_ofLeg 71 = .ok (.goto 29, 3) := by decide +kernel
set_option maxHeartbeats 4000000 in
set_option maxRecDepth 100000 in
theorem z_83_ofLeg (l : Launch) (hst : l.stackTraces = false) (D : va_G) (κ : K4) (E0 : Nat) (sz : Nat) (b : Nat → Nat) (x0 : Int32) (x1 : Int32) (x2 : Int32) (k_x0 : -2147483648 ≤ x0.toInt ∧ x0.toInt ≤ 2147483647) (k_x1 : -2147483648 ≤ x1.toInt ∧ x1.toInt ≤ 2147483647) (k_x2 : -2147483648 ≤ x2.toInt ∧ x2.toInt ≤ 2147483647) : NM l yX14_ofLeg cX14_ofLeg 4 (some .long) 2 44 0 0 E0 D κ (mw κ b E0 0) sz [.ref (b 0), .int x0, .int x1, .int x2] (QL D κ (mw κ b E0 0) sz 0 (fun qs : W1 => mw κ b E0 1)) := by
  refine NM.of (by decide +kernel) (Nat.le_of_ble_eq_true rfl) ?_
  intro p e s m below meth c ls hC hr hk hin hsz hE hT H locs hG hl
  have hx := hC.1
  have hb := hC.2.1
  have hl : lv_has ls 4 [(0, .ref (b 0)), (1, .int x0), (2, .int x1), (3, .int x2)] := hl
  refine lv_aload_n hx hb dX14_ofLeg_0 rfl (lv_at hl 0 rfl) ?_
  refine lv_aload_n hx hb dX14_ofLeg_1 rfl (lv_at hl 0 rfl) ?_
  refine lv_iload_n hx hb dX14_ofLeg_2 rfl (lv_at hl 1 rfl) ?_
  have cut3 : Cut (mw κ b E0 0) (mw κ b E0 0) ([]) := (Cut.all 9 rfl (by decide))
  refine zc_i hG cut3 (zr_V (k := 0) (ci := 9) (n := 1) (As := [.int x0]) (rest := [.ref (b 0)]) hC hG hE hT cut3 (z_75_isNoEntry l hst D κ E0 H.size b x0 ⟨by omega, by omega⟩) rfl rfl w652 w5 w655 w653 w654 (by decide +kernel) ⟨Nat.le_of_ble_eq_true rfl, Nat.le_of_ble_eq_true rfl⟩ rfl hl.1 rfl (Nat.le_of_ble_eq_true rfl) dX14_ofLeg_3 ⟨Nat.le_of_ble_eq_true rfl, Nat.le_of_ble_eq_true rfl⟩) (fun z1 H locs hG => ?_)
  have hG : BW D κ (mw κ b E0 0) _ s H locs := hG
  refine lv_if_ne (tgt := 36) hx hb dX14_ofLeg_6 (by decide) (fun _ => ?_) (fun h6 => absurd h6 (by decide))
  refine lv_iconst (v := 1) hx hb dX14_ofLeg_36 (by decide) ?_
  refine lv_goto (tgt := 41) hx hb dX14_ofLeg_37 (by decide) ?_
  refine lv_iconst (v := 1) hx hb dX14_ofLeg_41 (by decide) ?_
  have cut42 : Cut (mw κ b E0 0) (mw κ b E0 0) ([]) := (Cut.all 9 rfl (by decide))
  refine zc_i hG cut42 (zr_V (k := 0) (ci := 9) (n := 2) (As := [.int 1, .int 1]) (rest := []) hC hG hE hT cut42 (z_4_start l hst D κ E0 H.size b) rfl rfl w170 w5 w173 w171 w172 (by decide +kernel) ⟨Nat.le_of_ble_eq_true rfl, Nat.le_of_ble_eq_true rfl⟩ rfl hl.1 rfl (Nat.le_of_ble_eq_true rfl) dX14_ofLeg_42 ⟨Nat.le_of_ble_eq_true rfl, Nat.le_of_ble_eq_true rfl⟩) (fun z2 H locs hG => ?_)
  have hG : BW D κ (mw κ b E0 1) _ s H locs := hG
  refine lv_if_ne (tgt := 70) hx hb dX14_ofLeg_45 (by decide) (fun _ => ?_) (fun h45 => absurd h45 (by decide))
  refine lv_lconst (v := 0) hx hb dX14_ofLeg_70 (by decide) ?_
  refine lv_goto (tgt := 100) hx hb dX14_ofLeg_71 (by decide) ?_
  exact ze_l (qs := fun _ => 0) hC hG rfl rfl hr hk (Nat.le_of_ble_eq_true rfl) (Nat.le_of_ble_eq_true rfl) dX14_ofLeg_100
theorem dX7_hold_0 : decode cX7_hold 0 = .ok (.aload_n 0, 1) := by decide +kernel
theorem dX7_hold_1 : decode cX7_hold 1 = .ok (.iload_n 1, 1) := by decide +kernel
theorem dX7_hold_2 : decode cX7_hold 2 = .ok (.invokevirtual 102, 3) := by decide +kernel
set_option maxHeartbeats 4000000 in
set_option maxRecDepth 100000 in
theorem z_84_hold (l : Launch) (hst : l.stackTraces = false) (D : va_G) (κ : K4) (E0 : Nat) (sz : Nat) (a : Nat → Nat) (x0 : Int32) (x1 : Int32) (x2 : Int32) (k_x0 : -2147483648 ≤ x0.toInt ∧ x0.toInt ≤ 2147483647) (k_x1 : -2147483648 ≤ x1.toInt ∧ x1.toInt ≤ 2147483647) (k_x2 : -2147483648 ≤ x2.toInt ∧ x2.toInt ≤ 2147483647) : XM l yX7_hold cX7_hold 4 (some .int) 7 103 1 6 E0 D κ (xw κ a) sz [.ref (a 0), .int x0, .int x1, .int x2] "java/lang/IndexOutOfBoundsException" (NI (xw κ a) sz) := by
  refine XM.of (by decide +kernel) (Nat.le_of_ble_eq_true rfl) ?_
  intro p e s m below meth c ls hC hk hno hsz hE hT H locs hG hl
  have hx := hC.1
  have hb := hC.2.1
  have hl : lv_has ls 4 [(0, .ref (a 0)), (1, .int x0), (2, .int x1), (3, .int x2)] := hl
  refine lv_aload_n hx hb dX7_hold_0 rfl (lv_at hl 0 rfl) ?_
  refine lv_iload_n hx hb dX7_hold_1 rfl (lv_at hl 1 rfl) ?_
  have cut2 : Cut (xw κ a) (xw κ a) ([]) := (Cut.all 45 rfl (by decide))
  refine zt_v hG cut2 (zx_V (k := 0) (ci := 7) (n := 1) (As := [.int x0]) (rest := []) hC hG hE hT cut2 (z_58_needAccount l hst D κ E0 H.size a x0 ⟨by omega, by omega⟩) rfl rfl w293 w2 w296 w294 w295 (by decide +kernel) ⟨Nat.le_of_ble_eq_true rfl, Nat.le_of_ble_eq_true rfl⟩ rfl hl.1 rfl (Nat.le_of_ble_eq_true rfl) dX7_hold_2 ⟨Nat.le_of_ble_eq_true rfl, Nat.le_of_ble_eq_true rfl⟩) (fun ce q9 H locs hG hz1 hz2 hz3 => ?_)
  exact zt_out hno hk hG hz1 hz2 hz3 (Nat.le_of_ble_eq_true rfl) (Nat.le_of_ble_eq_true rfl)
theorem dL_hold_0 : decode cL_hold 0 = .ok (.aload 4, 2) := by decide +kernel
theorem dL_hold_15 : decode cL_hold 15 = .ok (.astore 5, 2) := by decide +kernel
theorem dL_hold_17 : decode cL_hold 17 = .ok (.iconst 1, 1) := by decide +kernel
theorem dL_hold_18 : decode cL_hold 18 = .ok (.ireturn, 1) := by decide +kernel
theorem dL_hold_2 : decode cL_hold 2 = .ok (.iconst 0, 1) := by decide +kernel
theorem dL_hold_3 : decode cL_hold 3 = .ok (.aload_n 0, 1) := by decide +kernel
theorem dL_hold_4 : decode cL_hold 4 = .ok (.iload_n 1, 1) := by decide +kernel
theorem dL_hold_5 : decode cL_hold 5 = .ok (.iload_n 2, 1) := by decide +kernel
theorem dL_hold_6 : decode cL_hold 6 = .ok (.iload_n 3, 1) := by decide +kernel
theorem dL_hold_7 : decode cL_hold 7 = .ok (.invokevirtual 53, 3) := by decide +kernel
set_option maxHeartbeats 4000000 in
set_option maxRecDepth 100000 in
theorem z_85_hold (l : Launch) (hst : l.stackTraces = false) (D : va_G) (κ : K4) (E0 : Nat) (sz : Nat) (a : Nat → Nat) (x0 : Int32) (x1 : Int32) (x2 : Int32) (o : Nat) (k_x0 : -2147483648 ≤ x0.toInt ∧ x0.toInt ≤ 2147483647) (k_x1 : -2147483648 ≤ x1.toInt ∧ x1.toInt ≤ 2147483647) (k_x2 : -2147483648 ≤ x2.toInt ∧ x2.toInt ≤ 2147483647) : NH l yL_hold cL_hold 6 (some .int) [(0, 12, 15, 24), (0, 12, 19, 13), (0, 12, 23, 15)] 8 126 1 6 E0 D κ (xw κ a ++ [(o, .inl (κ.2.1, 1, .inr (.inl (fun _ => 0))))]) sz [.ref (a 0), .int x0, .int x1, .int x2, .ref o] (QI D κ (xw κ a ++ [(o, .inl (κ.2.1, 1, .inr (.inl (fun _ => 0))))]) sz 1 (fun qs : W1 => [(o, .inl (κ.2.1, 1, .inr (.inl (fun _ => 0))))])) := by
  refine NH.of (by decide +kernel) (Nat.le_of_ble_eq_true rfl) ?_
  intro p e s m below meth c ls hC hr hk htab hsz hE hT H locs hG hl
  have hx := hC.1
  have hb := hC.2.1
  have hl : lv_has ls 6 [(0, .ref (a 0)), (1, .int x0), (2, .int x1), (3, .int x2), (4, .ref o)] := hl
  refine lv_aload hx hb dL_hold_0 (lv_at hl 4 rfl) ?_
  refine lv_iconst (v := 0) hx hb dL_hold_2 (by decide) ?_
  refine lv_aload_n hx hb dL_hold_3 rfl (lv_at hl 0 rfl) ?_
  refine lv_iload_n hx hb dL_hold_4 rfl (lv_at hl 1 rfl) ?_
  refine lv_iload_n hx hb dL_hold_5 rfl (lv_at hl 2 rfl) ?_
  refine lv_iload_n hx hb dL_hold_6 rfl (lv_at hl 3 rfl) ?_
  have cut7 : Cut (xw κ a ++ [(o, .inl (κ.2.1, 1, .inr (.inl (fun _ => 0))))]) (xw κ a) ([(o, .inl (κ.2.1, 1, .inr (.inl (fun _ => 0))))]) := (Cut.one 45 rfl (by decide))
  refine zt_i hG cut7 (zx_V (k := 0) (ci := 7) (n := 3) (As := [.int x0, .int x1, .int x2]) (rest := [.int 0, .ref o]) hC hG hE hT cut7 (z_84_hold l hst D κ E0 H.size a x0 x1 x2 ⟨by omega, by omega⟩ ⟨by omega, by omega⟩ ⟨by omega, by omega⟩) rfl rfl w698 w2 w701 w699 w700 (by decide +kernel) ⟨Nat.le_of_ble_eq_true rfl, Nat.le_of_ble_eq_true rfl⟩ rfl hl.1 rfl (Nat.le_of_ble_eq_true rfl) dL_hold_7 ⟨Nat.le_of_ble_eq_true rfl, Nat.le_of_ble_eq_true rfl⟩) (fun ce q9 H locs hG hz1 hz2 hz3 => ?_)
  refine vx_catch (own := RL) (name := "java/lang/IndexOutOfBoundsException") (E := "java/lang/IndexOutOfBoundsException") hC.2.2.2.1 [] ⟨0, 12, 15, 24⟩ [⟨0, 12, 19, 13⟩, ⟨0, 12, 23, 15⟩] htab (fun z hz => by simp at hz) (by decide) (by decide) (hC.2.2.2.2 _ w285) (va_Nw.use rfl (hT.1 ("java/lang/IndexOutOfBoundsException", "java/lang/IndexOutOfBoundsException") (by decide))) hz1 hz2 hz3 ?_
  refine lv_astore (lv' := [(5, .ref q9), (0, .ref (a 0)), (1, .int x0), (2, .int x1), (3, .int x2), (4, .ref o)]) hx hb dL_hold_15 hl (by decide) rfl (fun ls hl => ?_)
  refine lv_iconst (v := 1) hx hb dL_hold_17 (by decide) ?_
  exact ze_i (qs := fun _ => 0) hC hG rfl rfl hr rfl hk (Nat.le_of_ble_eq_true rfl) (Nat.le_of_ble_eq_true rfl) dL_hold_18
theorem dX14_hold_0 : decode cX14_hold 0 = .ok (.aload_n 0, 1) := by decide +kernel
theorem dX14_hold_1 : decode cX14_hold 1 = .ok (.iload_n 1, 1) := by decide +kernel
theorem dX14_hold_2 : decode cX14_hold 2 = .ok (.invokevirtual 157, 3) := by decide +kernel
theorem dX14_hold_5 : decode cX14_hold 5 = .ok (.ifCond .eq 5, 3) := by decide +kernel
theorem dX14_hold_8 : decode cX14_hold 8 = .ok (.iconst 0, 1) := by decide +kernel
theorem dX14_hold_9 : decode cX14_hold 9 = .ok (.ireturn, 1) := by decide +kernel
set_option maxHeartbeats 4000000 in
set_option maxRecDepth 100000 in
theorem z_86_hold (l : Launch) (hst : l.stackTraces = false) (D : va_G) (κ : K4) (E0 : Nat) (sz : Nat) (b : Nat → Nat) (x0 : Int32) (x1 : Int32) (x2 : Int32) (k_x0 : -2147483648 ≤ x0.toInt ∧ x0.toInt ≤ 2147483647) (k_x1 : -2147483648 ≤ x1.toInt ∧ x1.toInt ≤ 2147483647) (k_x2 : -2147483648 ≤ x2.toInt ∧ x2.toInt ≤ 2147483647) : NM l yX14_hold cX14_hold 5 (some .int) 3 65 0 0 E0 D κ (mw κ b E0 0) sz [.ref (b 0), .int x0, .int x1, .int x2] (QI D κ (mw κ b E0 0) sz 0 (fun qs : W1 => mw κ b E0 1)) := by
  refine NM.of (by decide +kernel) (Nat.le_of_ble_eq_true rfl) ?_
  intro p e s m below meth c ls hC hr hk hin hsz hE hT H locs hG hl
  have hx := hC.1
  have hb := hC.2.1
  have hl : lv_has ls 5 [(0, .ref (b 0)), (1, .int x0), (2, .int x1), (3, .int x2)] := hl
  refine lv_aload_n hx hb dX14_hold_0 rfl (lv_at hl 0 rfl) ?_
  refine lv_iload_n hx hb dX14_hold_1 rfl (lv_at hl 1 rfl) ?_
  have cut2 : Cut (mw κ b E0 0) (mw κ b E0 0) ([]) := (Cut.all 9 rfl (by decide))
  refine zc_i hG cut2 (zr_V (k := 0) (ci := 9) (n := 1) (As := [.int x0]) (rest := []) hC hG hE hT cut2 (z_63_isNoAccount l hst D κ E0 H.size b x0 ⟨by omega, by omega⟩) rfl rfl w335 w5 w338 w336 w337 (by decide +kernel) ⟨Nat.le_of_ble_eq_true rfl, Nat.le_of_ble_eq_true rfl⟩ rfl hl.1 rfl (Nat.le_of_ble_eq_true rfl) dX14_hold_2 ⟨Nat.le_of_ble_eq_true rfl, Nat.le_of_ble_eq_true rfl⟩) (fun z1 H locs hG => ?_)
  have hG : BW D κ (mw κ b E0 1) _ s H locs := hG
  refine lv_if_eq (tgt := 10) hx hb dX14_hold_5 (by decide) (fun h5 => absurd h5 (by decide)) (fun _ => ?_)
  refine lv_iconst (v := 0) hx hb dX14_hold_8 (by decide) ?_
  exact ze_i (qs := fun _ => 0) hC hG rfl rfl hr rfl hk (Nat.le_of_ble_eq_true rfl) (Nat.le_of_ble_eq_true rfl) dX14_hold_9
theorem dX7_needHold_0 : decode cX7_needHold 0 = .ok (.iload_n 1, 1) := by decide +kernel
theorem dX7_needHold_1 : decode cX7_needHold 1 = .ok (.ifCond .lt 14, 3) := by decide +kernel
theorem dX7_needHold_12 : decode cX7_needHold 12 = .ok (.if_icmp .lt 14, 3) := by decide +kernel
theorem dX7_needHold_15 : decode cX7_needHold 15 = .ok (.new 194, 3) := by decide +kernel
theorem dX7_needHold_18 : decode cX7_needHold 18 = .ok (.dup, 1) := by decide +kernel
theorem dX7_needHold_19 : decode cX7_needHold 19 = .ok (.ldc_w 406, 3) := by decide +kernel
theorem dX7_needHold_22 : decode cX7_needHold 22 = .ok (.invokespecial 198, 3) := by decide +kernel
theorem dX7_needHold_25 : decode cX7_needHold 25 = .ok (.athrow, 1) := by decide +kernel
theorem dX7_needHold_4 : decode cX7_needHold 4 = .ok (.iload_n 1, 1) := by decide +kernel
theorem dX7_needHold_5 : decode cX7_needHold 5 = .ok (.aload_n 0, 1) := by decide +kernel
theorem dX7_needHold_6 : decode cX7_needHold 6 = .ok (.getfield 33, 3) := by decide +kernel
theorem dX7_needHold_9 : decode cX7_needHold 9 = .ok (.getfield 245, 3) := by decide +kernel
set_option maxHeartbeats 4000000 in
set_option maxRecDepth 100000 in
theorem z_87_needHold (l : Launch) (hst : l.stackTraces = false) (D : va_G) (κ : K4) (E0 : Nat) (sz : Nat) (a : Nat → Nat) (x0 : Int32) (k_x0 : -2147483648 ≤ x0.toInt ∧ x0.toInt ≤ 2147483647) : XM l yX7_needHold cX7_needHold 2 none 6 82 1 6 E0 D κ (xw κ a) sz [.ref (a 0), .int x0] "java/lang/IndexOutOfBoundsException" (NV (xw κ a) sz) := by
  refine XM.of (by decide +kernel) (Nat.le_of_ble_eq_true rfl) ?_
  intro p e s m below meth c ls hC hk hno hsz hE hT H locs hG hl
  have hx := hC.1
  have hb := hC.2.1
  have hl : lv_has ls 2 [(0, .ref (a 0)), (1, .int x0)] := hl
  refine lv_iload_n hx hb dX7_needHold_0 rfl (lv_at hl 1 rfl) ?_
  refine lv_if_lt (tgt := 15) hx hb dX7_needHold_1 (by decide) (fun h1 => ?_) (fun h1 => ?_)
  · have g1 : x0.toInt < 0 := by have e1 : (0 : Int32).toInt = 0 := (by decide); have e9 := (Int32.lt_iff_toInt_lt.mp h1); omega
    exact th_IOW hC hst hE hT hno hk hG hl.1 (List.mem_of_getElem? (i := 25) rfl) w297 w298 dX7_needHold_15 dX7_needHold_18 dX7_needHold_19 dX7_needHold_22 dX7_needHold_25 (Nat.le_of_ble_eq_true rfl) (Nat.le_of_ble_eq_true rfl) (Nat.le_of_ble_eq_true rfl) (Nat.le_of_ble_eq_true rfl) (Nat.le_of_ble_eq_true rfl) (Nat.le_of_ble_eq_true rfl)
  · have g1 : 0 ≤ x0.toInt := by have e1 : (0 : Int32).toInt = 0 := (by decide); have e9 := (mt Int32.lt_iff_toInt_lt.mpr h1); omega
    refine lv_iload_n hx hb dX7_needHold_4 rfl (lv_at hl 1 rfl) ?_
    refine lv_aload_n hx hb dX7_needHold_5 rfl (lv_at hl 0 rfl) ?_
    refine bw_get (C := RX7) (T := TX7) (N := 10) (ci := 7) (v := .ref (a 23)) 3 (by decide) 0 hC hG iwX7 (xw_0 κ a) rfl w28 rfl rfl dX7_needHold_6 ?_
    refine bw_get (C := RX2) (T := TX2) (N := 5) (ci := 2) (v := .int 0) 4 (by decide) 23 hC hG iwX2 (xw_23 κ a) rfl w703 rfl rfl dX7_needHold_9 ?_
    refine lv_icmp_lt (tgt := 26) hx hb dX7_needHold_12 (by decide) (fun h12 => absurd h12 (mt Int32.lt_iff_toInt_lt.mp (by have e1 : (0 : Int32).toInt = 0 := (by decide); omega))) (fun _ => ?_)
    exact th_IOW hC hst hE hT hno hk hG hl.1 (List.mem_of_getElem? (i := 25) rfl) w297 w298 dX7_needHold_15 dX7_needHold_18 dX7_needHold_19 dX7_needHold_22 dX7_needHold_25 (Nat.le_of_ble_eq_true rfl) (Nat.le_of_ble_eq_true rfl) (Nat.le_of_ble_eq_true rfl) (Nat.le_of_ble_eq_true rfl) (Nat.le_of_ble_eq_true rfl) (Nat.le_of_ble_eq_true rfl)
theorem dX7_take_0 : decode cX7_take 0 = .ok (.aload_n 0, 1) := by decide +kernel
theorem dX7_take_1 : decode cX7_take 1 = .ok (.iload_n 1, 1) := by decide +kernel
theorem dX7_take_2 : decode cX7_take 2 = .ok (.invokevirtual 257, 3) := by decide +kernel
set_option maxHeartbeats 4000000 in
set_option maxRecDepth 100000 in
theorem z_88_take (l : Launch) (hst : l.stackTraces = false) (D : va_G) (κ : K4) (E0 : Nat) (sz : Nat) (a : Nat → Nat) (x0 : Int32) (x1 : Int32) (x2 : Int32) (k_x0 : -2147483648 ≤ x0.toInt ∧ x0.toInt ≤ 2147483647) (k_x1 : -2147483648 ≤ x1.toInt ∧ x1.toInt ≤ 2147483647) (k_x2 : -2147483648 ≤ x2.toInt ∧ x2.toInt ≤ 2147483647) : XM l yX7_take cX7_take 5 (some .int) 7 103 1 6 E0 D κ (xw κ a) sz [.ref (a 0), .int x0, .int x1, .int x2] "java/lang/IndexOutOfBoundsException" (NI (xw κ a) sz) := by
  refine XM.of (by decide +kernel) (Nat.le_of_ble_eq_true rfl) ?_
  intro p e s m below meth c ls hC hk hno hsz hE hT H locs hG hl
  have hx := hC.1
  have hb := hC.2.1
  have hl : lv_has ls 5 [(0, .ref (a 0)), (1, .int x0), (2, .int x1), (3, .int x2)] := hl
  refine lv_aload_n hx hb dX7_take_0 rfl (lv_at hl 0 rfl) ?_
  refine lv_iload_n hx hb dX7_take_1 rfl (lv_at hl 1 rfl) ?_
  have cut2 : Cut (xw κ a) (xw κ a) ([]) := (Cut.all 45 rfl (by decide))
  refine zt_v hG cut2 (zx_V (k := 0) (ci := 7) (n := 1) (As := [.int x0]) (rest := []) hC hG hE hT cut2 (z_87_needHold l hst D κ E0 H.size a x0 ⟨by omega, by omega⟩) rfl rfl w735 w2 w738 w736 w737 (by decide +kernel) ⟨Nat.le_of_ble_eq_true rfl, Nat.le_of_ble_eq_true rfl⟩ rfl hl.1 rfl (Nat.le_of_ble_eq_true rfl) dX7_take_2 ⟨Nat.le_of_ble_eq_true rfl, Nat.le_of_ble_eq_true rfl⟩) (fun ce q9 H locs hG hz1 hz2 hz3 => ?_)
  exact zt_out hno hk hG hz1 hz2 hz3 (Nat.le_of_ble_eq_true rfl) (Nat.le_of_ble_eq_true rfl)
theorem dL_take_0 : decode cL_take 0 = .ok (.aload 4, 2) := by decide +kernel
theorem dL_take_15 : decode cL_take 15 = .ok (.astore 5, 2) := by decide +kernel
theorem dL_take_17 : decode cL_take 17 = .ok (.iconst 1, 1) := by decide +kernel
theorem dL_take_18 : decode cL_take 18 = .ok (.ireturn, 1) := by decide +kernel
theorem dL_take_2 : decode cL_take 2 = .ok (.iconst 0, 1) := by decide +kernel
theorem dL_take_3 : decode cL_take 3 = .ok (.aload_n 0, 1) := by decide +kernel
theorem dL_take_4 : decode cL_take 4 = .ok (.iload_n 1, 1) := by decide +kernel
theorem dL_take_5 : decode cL_take 5 = .ok (.iload_n 2, 1) := by decide +kernel
theorem dL_take_6 : decode cL_take 6 = .ok (.iload_n 3, 1) := by decide +kernel
theorem dL_take_7 : decode cL_take 7 = .ok (.invokevirtual 57, 3) := by decide +kernel
set_option maxHeartbeats 4000000 in
set_option maxRecDepth 100000 in
theorem z_89_take (l : Launch) (hst : l.stackTraces = false) (D : va_G) (κ : K4) (E0 : Nat) (sz : Nat) (a : Nat → Nat) (x0 : Int32) (x1 : Int32) (x2 : Int32) (o : Nat) (k_x0 : -2147483648 ≤ x0.toInt ∧ x0.toInt ≤ 2147483647) (k_x1 : -2147483648 ≤ x1.toInt ∧ x1.toInt ≤ 2147483647) (k_x2 : -2147483648 ≤ x2.toInt ∧ x2.toInt ≤ 2147483647) : NH l yL_take cL_take 6 (some .int) [(0, 12, 15, 24), (0, 12, 19, 13), (0, 12, 23, 15)] 8 127 1 6 E0 D κ (xw κ a ++ [(o, .inl (κ.2.1, 1, .inr (.inl (fun _ => 0))))]) sz [.ref (a 0), .int x0, .int x1, .int x2, .ref o] (QI D κ (xw κ a ++ [(o, .inl (κ.2.1, 1, .inr (.inl (fun _ => 0))))]) sz 1 (fun qs : W1 => [(o, .inl (κ.2.1, 1, .inr (.inl (fun _ => 0))))])) := by
  refine NH.of (by decide +kernel) (Nat.le_of_ble_eq_true rfl) ?_
  intro p e s m below meth c ls hC hr hk htab hsz hE hT H locs hG hl
  have hx := hC.1
  have hb := hC.2.1
  have hl : lv_has ls 6 [(0, .ref (a 0)), (1, .int x0), (2, .int x1), (3, .int x2), (4, .ref o)] := hl
  refine lv_aload hx hb dL_take_0 (lv_at hl 4 rfl) ?_
  refine lv_iconst (v := 0) hx hb dL_take_2 (by decide) ?_
  refine lv_aload_n hx hb dL_take_3 rfl (lv_at hl 0 rfl) ?_
  refine lv_iload_n hx hb dL_take_4 rfl (lv_at hl 1 rfl) ?_
  refine lv_iload_n hx hb dL_take_5 rfl (lv_at hl 2 rfl) ?_
  refine lv_iload_n hx hb dL_take_6 rfl (lv_at hl 3 rfl) ?_
  have cut7 : Cut (xw κ a ++ [(o, .inl (κ.2.1, 1, .inr (.inl (fun _ => 0))))]) (xw κ a) ([(o, .inl (κ.2.1, 1, .inr (.inl (fun _ => 0))))]) := (Cut.one 45 rfl (by decide))
  refine zt_i hG cut7 (zx_V (k := 0) (ci := 7) (n := 3) (As := [.int x0, .int x1, .int x2]) (rest := [.int 0, .ref o]) hC hG hE hT cut7 (z_88_take l hst D κ E0 H.size a x0 x1 x2 ⟨by omega, by omega⟩ ⟨by omega, by omega⟩ ⟨by omega, by omega⟩) rfl rfl w728 w2 w731 w729 w730 (by decide +kernel) ⟨Nat.le_of_ble_eq_true rfl, Nat.le_of_ble_eq_true rfl⟩ rfl hl.1 rfl (Nat.le_of_ble_eq_true rfl) dL_take_7 ⟨Nat.le_of_ble_eq_true rfl, Nat.le_of_ble_eq_true rfl⟩) (fun ce q9 H locs hG hz1 hz2 hz3 => ?_)
  refine vx_catch (own := RL) (name := "java/lang/IndexOutOfBoundsException") (E := "java/lang/IndexOutOfBoundsException") hC.2.2.2.1 [] ⟨0, 12, 15, 24⟩ [⟨0, 12, 19, 13⟩, ⟨0, 12, 23, 15⟩] htab (fun z hz => by simp at hz) (by decide) (by decide) (hC.2.2.2.2 _ w285) (va_Nw.use rfl (hT.1 ("java/lang/IndexOutOfBoundsException", "java/lang/IndexOutOfBoundsException") (by decide))) hz1 hz2 hz3 ?_
  refine lv_astore (lv' := [(5, .ref q9), (0, .ref (a 0)), (1, .int x0), (2, .int x1), (3, .int x2), (4, .ref o)]) hx hb dL_take_15 hl (by decide) rfl (fun ls hl => ?_)
  refine lv_iconst (v := 1) hx hb dL_take_17 (by decide) ?_
  exact ze_i (qs := fun _ => 0) hC hG rfl rfl hr rfl hk (Nat.le_of_ble_eq_true rfl) (Nat.le_of_ble_eq_true rfl) dL_take_18
set_option maxHeartbeats 4000000 in
set_option maxRecDepth 100000 in
theorem z_90_size (l : Launch) (hst : l.stackTraces = false) (D : va_G) (κ : K4) (E0 : Nat) (sz : Nat) (h0 : Nat) (h1 : Nat) (h2 : Nat) (h3 : Nat) (h4 : Nat) (h5 : Nat) (h6 : Nat) (h7 : Nat) (h8 : Nat) : NM l yJx4a65c_size_8abf5 cJx4a65c_size_8abf5 1 (some .int) 0 0 0 0 E0 D κ ([(h1, .inr (9, [.int 0, .ref h2, .ref h3, .ref h4, .ref h0, .ref h5, .ref h6, .ref h7, .null, .int 0, .int (-1), .int 0, .int 0, .int 0, .ref h8])), (h2, .inl (κ.1, 4, .inl (fun _ => 1000))), (h3, .inr (10, [.int 0, .ref E0, .int 0])), (h4, .inr (10, [.int 0, .ref E0, .int 0])), (h0, .inr (10, [.int 0, .ref E0, .int 0])), (h5, .inr (10, [.int 0, .ref E0, .int 0])), (h6, .inr (10, [.int 0, .ref E0, .int 0])), (h7, .inr (10, [.int 0, .ref E0, .int 0])), (h8, .inr (10, [.int 0, .ref E0, .int 0]))]) sz [.ref h0] (QI D κ ([(h1, .inr (9, [.int 0, .ref h2, .ref h3, .ref h4, .ref h0, .ref h5, .ref h6, .ref h7, .null, .int 0, .int (-1), .int 0, .int 0, .int 0, .ref h8])), (h2, .inl (κ.1, 4, .inl (fun _ => 1000))), (h3, .inr (10, [.int 0, .ref E0, .int 0])), (h4, .inr (10, [.int 0, .ref E0, .int 0])), (h0, .inr (10, [.int 0, .ref E0, .int 0])), (h5, .inr (10, [.int 0, .ref E0, .int 0])), (h6, .inr (10, [.int 0, .ref E0, .int 0])), (h7, .inr (10, [.int 0, .ref E0, .int 0])), (h8, .inr (10, [.int 0, .ref E0, .int 0]))]) sz 0 (fun qs : W1 => [(h1, .inr (9, [.int 0, .ref h2, .ref h3, .ref h4, .ref h0, .ref h5, .ref h6, .ref h7, .null, .int 0, .int (-1), .int 0, .int 0, .int 0, .ref h8])), (h2, .inl (κ.1, 4, .inl (fun _ => 1000))), (h3, .inr (10, [.int 0, .ref E0, .int 0])), (h4, .inr (10, [.int 0, .ref E0, .int 0])), (h0, .inr (10, [.int 0, .ref E0, .int 0])), (h5, .inr (10, [.int 0, .ref E0, .int 0])), (h6, .inr (10, [.int 0, .ref E0, .int 0])), (h7, .inr (10, [.int 0, .ref E0, .int 0])), (h8, .inr (10, [.int 0, .ref E0, .int 0]))])) := by
  refine NM.of (by decide +kernel) (Nat.le_of_ble_eq_true rfl) ?_
  intro p e s m below meth c ls hC hr hk hin hsz hE hT H locs hG hl
  have hx := hC.1
  have hb := hC.2.1
  have hl : lv_has ls 1 [(0, .ref h0)] := hl
  refine lv_aload_n hx hb dJx4a65c_size_8abf5_0 rfl (lv_at hl 0 rfl) ?_
  refine bw_get (C := RJx4a65c) (T := TJx4a65c) (N := 3) (ci := 10) (v := .int 0) 2 (by decide) 4 hC hG iwJA rfl rfl w183 rfl rfl dJx4a65c_size_8abf5_1 ?_
  exact ze_i (qs := fun _ => 0) hC hG rfl rfl hr rfl hk (Nat.le_of_ble_eq_true rfl) (Nat.le_of_ble_eq_true rfl) dJx4a65c_size_8abf5_4
theorem dX14_isNoHold_0 : decode cX14_isNoHold 0 = .ok (.iload_n 1, 1) := by decide +kernel
theorem dX14_isNoHold_1 : decode cX14_isNoHold 1 = .ok (.iconst 0, 1) := by decide +kernel
theorem dX14_isNoHold_10 : decode cX14_isNoHold 10 = .ok (.isub, 1) := by decide +kernel
theorem dX14_isNoHold_11 : decode cX14_isNoHold 11 = .ok (.invokestatic 53, 3) := by decide +kernel
theorem dX14_isNoHold_14 : decode cX14_isNoHold 14 = .ok (.ifCond .ne 7, 3) := by decide +kernel
theorem dX14_isNoHold_17 : decode cX14_isNoHold 17 = .ok (.iconst 1, 1) := by decide +kernel
theorem dX14_isNoHold_18 : decode cX14_isNoHold 18 = .ok (.goto 4, 3) := by decide +kernel
theorem dX14_isNoHold_2 : decode cX14_isNoHold 2 = .ok (.aload_n 0, 1) := by decide +kernel
theorem dX14_isNoHold_22 : decode cX14_isNoHold 22 = .ok (.ireturn, 1) := by decide +kernel
theorem dX14_isNoHold_3 : decode cX14_isNoHold 3 = .ok (.getfield 23, 3) := by decide +kernel
theorem dX14_isNoHold_6 : decode cX14_isNoHold 6 = .ok (.invokevirtual 49, 3) := by decide +kernel
theorem dX14_isNoHold_9 : decode cX14_isNoHold 9 = .ok (.iconst 1, 1) := by decide +kernel
set_option maxHeartbeats 4000000 in
set_option maxRecDepth 100000 in
theorem z_91_isNoHold (l : Launch) (hst : l.stackTraces = false) (D : va_G) (κ : K4) (E0 : Nat) (sz : Nat) (b : Nat → Nat) (x0 : Int32) (k_x0 : -2147483648 ≤ x0.toInt ∧ x0.toInt ≤ 2147483647) : NM l yX14_isNoHold cX14_isNoHold 2 (some .boolean) 1 22 0 0 E0 D κ (mw κ b E0 0) sz [.ref (b 0), .int x0] (QI D κ (mw κ b E0 0) sz 1 (fun qs : W1 => mw κ b E0 0)) := by
  refine NM.of (by decide +kernel) (Nat.le_of_ble_eq_true rfl) ?_
  intro p e s m below meth c ls hC hr hk hin hsz hE hT H locs hG hl
  have hx := hC.1
  have hb := hC.2.1
  have hl : lv_has ls 2 [(0, .ref (b 0)), (1, .int x0)] := hl
  refine lv_iload_n hx hb dX14_isNoHold_0 rfl (lv_at hl 1 rfl) ?_
  refine lv_iconst (v := 0) hx hb dX14_isNoHold_1 (by decide) ?_
  refine lv_aload_n hx hb dX14_isNoHold_2 rfl (lv_at hl 0 rfl) ?_
  refine bw_get (C := RX14) (T := TX14) (N := 15) (ci := 9) (v := .ref (b 4)) 4 (by decide) 0 hC hG iwX14 rfl rfl w120 rfl rfl dX14_isNoHold_3 ?_
  have cut6 : Cut (mw κ b E0 0) (mw κ b E0 0) ([]) := (Cut.all 9 rfl (by decide))
  refine zc_i hG cut6 (zr_V (k := 4) (ci := 10) (n := 0) (As := []) (rest := [.int 0, .int x0]) hC hG hE hT cut6 (z_90_size l hst D κ E0 H.size (b 4) (b 0) (b 1) (b 2) (b 3) (b 5) (b 6) (b 7) (b 8)) rfl rfl w179 w117 w182 w180 w181 (by decide +kernel) ⟨Nat.le_of_ble_eq_true rfl, Nat.le_of_ble_eq_true rfl⟩ rfl hl.1 rfl (Nat.le_of_ble_eq_true rfl) dX14_isNoHold_6 ⟨Nat.le_of_ble_eq_true rfl, Nat.le_of_ble_eq_true rfl⟩) (fun z1 H locs hG => ?_)
  have hG : BW D κ (mw κ b E0 0) _ s H locs := hG
  refine lv_iconst (v := 1) hx hb dX14_isNoHold_9 (by decide) ?_
  refine lv_isub hx hb dX14_isNoHold_10 ?_
  refine W.eq (g2 := F0 m 11 ls [.int (-1), .int 0, .int x0]) rfl ?_
  have cut11 : Cut (mw κ b E0 0) (mw κ b E0 0) ([]) := (Cut.all 9 rfl (by decide))
  refine zc_i hG cut11 (zr_S (n := 3) (As := [.int x0, .int 0, .int (-1)]) (rest := []) hC hG hE hT cut11 (z_61_isIn l hst D κ E0 H.size b x0 ⟨by omega, by omega⟩) w167 w5 w169 w168 (by decide +kernel) ⟨Nat.le_of_ble_eq_true rfl, Nat.le_of_ble_eq_true rfl⟩ rfl hl.1 rfl (Nat.le_of_ble_eq_true rfl) dX14_isNoHold_11 ⟨Nat.le_of_ble_eq_true rfl, Nat.le_of_ble_eq_true rfl⟩) (fun z2 H locs hG => ?_)
  have hG : BW D κ (mw κ b E0 0) _ s H locs := hG
  refine lv_if_ne (tgt := 21) hx hb dX14_isNoHold_14 (by decide) (fun h14 => absurd (by decide) h14) (fun _ => ?_)
  refine lv_iconst (v := 1) hx hb dX14_isNoHold_17 (by decide) ?_
  refine lv_goto (tgt := 22) hx hb dX14_isNoHold_18 (by decide) ?_
  exact ze_i (qs := fun _ => 0) hC hG rfl rfl hr rfl hk (Nat.le_of_ble_eq_true rfl) (Nat.le_of_ble_eq_true rfl) dX14_isNoHold_22
theorem dX14_take_0 : decode cX14_take 0 = .ok (.aload_n 0, 1) := by decide +kernel
theorem dX14_take_1 : decode cX14_take 1 = .ok (.aload_n 0, 1) := by decide +kernel
theorem dX14_take_17 : decode cX14_take 17 = .ok (.iconst 1, 1) := by decide +kernel
theorem dX14_take_18 : decode cX14_take 18 = .ok (.goto 4, 3) := by decide +kernel
theorem dX14_take_2 : decode cX14_take 2 = .ok (.iload_n 1, 1) := by decide +kernel
theorem dX14_take_22 : decode cX14_take 22 = .ok (.iconst 1, 1) := by decide +kernel
theorem dX14_take_23 : decode cX14_take 23 = .ok (.invokevirtual 61, 3) := by decide +kernel
theorem dX14_take_26 : decode cX14_take 26 = .ok (.ifCond .eq 5, 3) := by decide +kernel
theorem dX14_take_29 : decode cX14_take 29 = .ok (.iconst 0, 1) := by decide +kernel
theorem dX14_take_3 : decode cX14_take 3 = .ok (.invokevirtual 244, 3) := by decide +kernel
theorem dX14_take_30 : decode cX14_take 30 = .ok (.ireturn, 1) := by decide +kernel
theorem dX14_take_6 : decode cX14_take 6 = .ok (.ifCond .ne 11, 3) := by decide +kernel
set_option maxHeartbeats 4000000 in
set_option maxRecDepth 100000 in
theorem z_92_take (l : Launch) (hst : l.stackTraces = false) (D : va_G) (κ : K4) (E0 : Nat) (sz : Nat) (b : Nat → Nat) (x0 : Int32) (x1 : Int32) (x2 : Int32) (k_x0 : -2147483648 ≤ x0.toInt ∧ x0.toInt ≤ 2147483647) (k_x1 : -2147483648 ≤ x1.toInt ∧ x1.toInt ≤ 2147483647) (k_x2 : -2147483648 ≤ x2.toInt ∧ x2.toInt ≤ 2147483647) : NM l yX14_take cX14_take 7 (some .int) 2 44 0 0 E0 D κ (mw κ b E0 0) sz [.ref (b 0), .int x0, .int x1, .int x2] (QI D κ (mw κ b E0 0) sz 0 (fun qs : W1 => mw κ b E0 1)) := by
  refine NM.of (by decide +kernel) (Nat.le_of_ble_eq_true rfl) ?_
  intro p e s m below meth c ls hC hr hk hin hsz hE hT H locs hG hl
  have hx := hC.1
  have hb := hC.2.1
  have hl : lv_has ls 7 [(0, .ref (b 0)), (1, .int x0), (2, .int x1), (3, .int x2)] := hl
  refine lv_aload_n hx hb dX14_take_0 rfl (lv_at hl 0 rfl) ?_
  refine lv_aload_n hx hb dX14_take_1 rfl (lv_at hl 0 rfl) ?_
  refine lv_iload_n hx hb dX14_take_2 rfl (lv_at hl 1 rfl) ?_
  have cut3 : Cut (mw κ b E0 0) (mw κ b E0 0) ([]) := (Cut.all 9 rfl (by decide))
  refine zc_i hG cut3 (zr_V (k := 0) (ci := 9) (n := 1) (As := [.int x0]) (rest := [.ref (b 0)]) hC hG hE hT cut3 (z_91_isNoHold l hst D κ E0 H.size b x0 ⟨by omega, by omega⟩) rfl rfl w753 w5 w756 w754 w755 (by decide +kernel) ⟨Nat.le_of_ble_eq_true rfl, Nat.le_of_ble_eq_true rfl⟩ rfl hl.1 rfl (Nat.le_of_ble_eq_true rfl) dX14_take_3 ⟨Nat.le_of_ble_eq_true rfl, Nat.le_of_ble_eq_true rfl⟩) (fun z1 H locs hG => ?_)
  have hG : BW D κ (mw κ b E0 0) _ s H locs := hG
  refine lv_if_ne (tgt := 17) hx hb dX14_take_6 (by decide) (fun _ => ?_) (fun h6 => absurd h6 (by decide))
  refine lv_iconst (v := 1) hx hb dX14_take_17 (by decide) ?_
  refine lv_goto (tgt := 22) hx hb dX14_take_18 (by decide) ?_
  refine lv_iconst (v := 1) hx hb dX14_take_22 (by decide) ?_
  have cut23 : Cut (mw κ b E0 0) (mw κ b E0 0) ([]) := (Cut.all 9 rfl (by decide))
  refine zc_i hG cut23 (zr_V (k := 0) (ci := 9) (n := 2) (As := [.int 1, .int 1]) (rest := []) hC hG hE hT cut23 (z_4_start l hst D κ E0 H.size b) rfl rfl w170 w5 w173 w171 w172 (by decide +kernel) ⟨Nat.le_of_ble_eq_true rfl, Nat.le_of_ble_eq_true rfl⟩ rfl hl.1 rfl (Nat.le_of_ble_eq_true rfl) dX14_take_23 ⟨Nat.le_of_ble_eq_true rfl, Nat.le_of_ble_eq_true rfl⟩) (fun z2 H locs hG => ?_)
  have hG : BW D κ (mw κ b E0 1) _ s H locs := hG
  refine lv_if_eq (tgt := 31) hx hb dX14_take_26 (by decide) (fun h26 => absurd h26 (by decide)) (fun _ => ?_)
  refine lv_iconst (v := 0) hx hb dX14_take_29 (by decide) ?_
  exact ze_i (qs := fun _ => 0) hC hG rfl rfl hr rfl hk (Nat.le_of_ble_eq_true rfl) (Nat.le_of_ble_eq_true rfl) dX14_take_30
theorem dX7_letGo_0 : decode cX7_letGo 0 = .ok (.aload_n 0, 1) := by decide +kernel
theorem dX7_letGo_1 : decode cX7_letGo 1 = .ok (.iload_n 1, 1) := by decide +kernel
theorem dX7_letGo_2 : decode cX7_letGo 2 = .ok (.invokevirtual 257, 3) := by decide +kernel
set_option maxHeartbeats 4000000 in
set_option maxRecDepth 100000 in
theorem z_93_letGo (l : Launch) (hst : l.stackTraces = false) (D : va_G) (κ : K4) (E0 : Nat) (sz : Nat) (a : Nat → Nat) (x0 : Int32) (k_x0 : -2147483648 ≤ x0.toInt ∧ x0.toInt ≤ 2147483647) : XM l yX7_letGo cX7_letGo 2 (some .int) 7 103 1 6 E0 D κ (xw κ a) sz [.ref (a 0), .int x0] "java/lang/IndexOutOfBoundsException" (NI (xw κ a) sz) := by
  refine XM.of (by decide +kernel) (Nat.le_of_ble_eq_true rfl) ?_
  intro p e s m below meth c ls hC hk hno hsz hE hT H locs hG hl
  have hx := hC.1
  have hb := hC.2.1
  have hl : lv_has ls 2 [(0, .ref (a 0)), (1, .int x0)] := hl
  refine lv_aload_n hx hb dX7_letGo_0 rfl (lv_at hl 0 rfl) ?_
  refine lv_iload_n hx hb dX7_letGo_1 rfl (lv_at hl 1 rfl) ?_
  have cut2 : Cut (xw κ a) (xw κ a) ([]) := (Cut.all 45 rfl (by decide))
  refine zt_v hG cut2 (zx_V (k := 0) (ci := 7) (n := 1) (As := [.int x0]) (rest := []) hC hG hE hT cut2 (z_87_needHold l hst D κ E0 H.size a x0 ⟨by omega, by omega⟩) rfl rfl w735 w2 w738 w736 w737 (by decide +kernel) ⟨Nat.le_of_ble_eq_true rfl, Nat.le_of_ble_eq_true rfl⟩ rfl hl.1 rfl (Nat.le_of_ble_eq_true rfl) dX7_letGo_2 ⟨Nat.le_of_ble_eq_true rfl, Nat.le_of_ble_eq_true rfl⟩) (fun ce q9 H locs hG hz1 hz2 hz3 => ?_)
  exact zt_out hno hk hG hz1 hz2 hz3 (Nat.le_of_ble_eq_true rfl) (Nat.le_of_ble_eq_true rfl)
theorem dL_letGo_0 : decode cL_letGo 0 = .ok (.aload_n 2, 1) := by decide +kernel
theorem dL_letGo_1 : decode cL_letGo 1 = .ok (.iconst 0, 1) := by decide +kernel
theorem dL_letGo_12 : decode cL_letGo 12 = .ok (.astore_n 3, 1) := by decide +kernel
theorem dL_letGo_13 : decode cL_letGo 13 = .ok (.iconst 1, 1) := by decide +kernel
theorem dL_letGo_14 : decode cL_letGo 14 = .ok (.ireturn, 1) := by decide +kernel
theorem dL_letGo_2 : decode cL_letGo 2 = .ok (.aload_n 0, 1) := by decide +kernel
theorem dL_letGo_3 : decode cL_letGo 3 = .ok (.iload_n 1, 1) := by decide +kernel
theorem dL_letGo_4 : decode cL_letGo 4 = .ok (.invokevirtual 60, 3) := by decide +kernel
set_option maxHeartbeats 4000000 in
set_option maxRecDepth 100000 in
theorem z_94_letGo (l : Launch) (hst : l.stackTraces = false) (D : va_G) (κ : K4) (E0 : Nat) (sz : Nat) (a : Nat → Nat) (x0 : Int32) (o : Nat) (k_x0 : -2147483648 ≤ x0.toInt ∧ x0.toInt ≤ 2147483647) : NH l yL_letGo cL_letGo 4 (some .int) [(0, 9, 12, 24), (0, 9, 15, 15)] 8 124 1 6 E0 D κ (xw κ a ++ [(o, .inl (κ.2.1, 1, .inr (.inl (fun _ => 0))))]) sz [.ref (a 0), .int x0, .ref o] (QI D κ (xw κ a ++ [(o, .inl (κ.2.1, 1, .inr (.inl (fun _ => 0))))]) sz 1 (fun qs : W1 => [(o, .inl (κ.2.1, 1, .inr (.inl (fun _ => 0))))])) := by
  refine NH.of (by decide +kernel) (Nat.le_of_ble_eq_true rfl) ?_
  intro p e s m below meth c ls hC hr hk htab hsz hE hT H locs hG hl
  have hx := hC.1
  have hb := hC.2.1
  have hl : lv_has ls 4 [(0, .ref (a 0)), (1, .int x0), (2, .ref o)] := hl
  refine lv_aload_n hx hb dL_letGo_0 rfl (lv_at hl 2 rfl) ?_
  refine lv_iconst (v := 0) hx hb dL_letGo_1 (by decide) ?_
  refine lv_aload_n hx hb dL_letGo_2 rfl (lv_at hl 0 rfl) ?_
  refine lv_iload_n hx hb dL_letGo_3 rfl (lv_at hl 1 rfl) ?_
  have cut4 : Cut (xw κ a ++ [(o, .inl (κ.2.1, 1, .inr (.inl (fun _ => 0))))]) (xw κ a) ([(o, .inl (κ.2.1, 1, .inr (.inl (fun _ => 0))))]) := (Cut.one 45 rfl (by decide))
  refine zt_i hG cut4 (zx_V (k := 0) (ci := 7) (n := 1) (As := [.int x0]) (rest := [.int 0, .ref o]) hC hG hE hT cut4 (z_93_letGo l hst D κ E0 H.size a x0 ⟨by omega, by omega⟩) rfl rfl w760 w2 w763 w761 w762 (by decide +kernel) ⟨Nat.le_of_ble_eq_true rfl, Nat.le_of_ble_eq_true rfl⟩ rfl hl.1 rfl (Nat.le_of_ble_eq_true rfl) dL_letGo_4 ⟨Nat.le_of_ble_eq_true rfl, Nat.le_of_ble_eq_true rfl⟩) (fun ce q9 H locs hG hz1 hz2 hz3 => ?_)
  refine vx_catch (own := RL) (name := "java/lang/IndexOutOfBoundsException") (E := "java/lang/IndexOutOfBoundsException") hC.2.2.2.1 [] ⟨0, 9, 12, 24⟩ [⟨0, 9, 15, 15⟩] htab (fun z hz => by simp at hz) (by decide) (by decide) (hC.2.2.2.2 _ w285) (va_Nw.use rfl (hT.1 ("java/lang/IndexOutOfBoundsException", "java/lang/IndexOutOfBoundsException") (by decide))) hz1 hz2 hz3 ?_
  refine lv_astore_n (lv' := [(3, .ref q9), (0, .ref (a 0)), (1, .int x0), (2, .ref o)]) hx hb dL_letGo_12 rfl hl (by decide) rfl (fun ls hl => ?_)
  refine lv_iconst (v := 1) hx hb dL_letGo_13 (by decide) ?_
  exact ze_i (qs := fun _ => 0) hC hG rfl rfl hr rfl hk (Nat.le_of_ble_eq_true rfl) (Nat.le_of_ble_eq_true rfl) dL_letGo_14
theorem dX14_letGo_0 : decode cX14_letGo 0 = .ok (.aload_n 0, 1) := by decide +kernel
theorem dX14_letGo_1 : decode cX14_letGo 1 = .ok (.aload_n 0, 1) := by decide +kernel
theorem dX14_letGo_10 : decode cX14_letGo 10 = .ok (.ifCond .ne 37, 3) := by decide +kernel
theorem dX14_letGo_2 : decode cX14_letGo 2 = .ok (.iload_n 1, 1) := by decide +kernel
theorem dX14_letGo_3 : decode cX14_letGo 3 = .ok (.invokevirtual 244, 3) := by decide +kernel
theorem dX14_letGo_47 : decode cX14_letGo 47 = .ok (.iconst 0, 1) := by decide +kernel
theorem dX14_letGo_48 : decode cX14_letGo 48 = .ok (.ireturn, 1) := by decide +kernel
theorem dX14_letGo_6 : decode cX14_letGo 6 = .ok (.iconst 1, 1) := by decide +kernel
theorem dX14_letGo_7 : decode cX14_letGo 7 = .ok (.invokevirtual 61, 3) := by decide +kernel
set_option maxHeartbeats 4000000 in
set_option maxRecDepth 100000 in
theorem z_95_letGo (l : Launch) (hst : l.stackTraces = false) (D : va_G) (κ : K4) (E0 : Nat) (sz : Nat) (b : Nat → Nat) (x0 : Int32) (k_x0 : -2147483648 ≤ x0.toInt ∧ x0.toInt ≤ 2147483647) : NM l yX14_letGo cX14_letGo 2 (some .int) 2 44 0 0 E0 D κ (mw κ b E0 0) sz [.ref (b 0), .int x0] (QI D κ (mw κ b E0 0) sz 0 (fun qs : W1 => mw κ b E0 1)) := by
  refine NM.of (by decide +kernel) (Nat.le_of_ble_eq_true rfl) ?_
  intro p e s m below meth c ls hC hr hk hin hsz hE hT H locs hG hl
  have hx := hC.1
  have hb := hC.2.1
  have hl : lv_has ls 2 [(0, .ref (b 0)), (1, .int x0)] := hl
  refine lv_aload_n hx hb dX14_letGo_0 rfl (lv_at hl 0 rfl) ?_
  refine lv_aload_n hx hb dX14_letGo_1 rfl (lv_at hl 0 rfl) ?_
  refine lv_iload_n hx hb dX14_letGo_2 rfl (lv_at hl 1 rfl) ?_
  have cut3 : Cut (mw κ b E0 0) (mw κ b E0 0) ([]) := (Cut.all 9 rfl (by decide))
  refine zc_i hG cut3 (zr_V (k := 0) (ci := 9) (n := 1) (As := [.int x0]) (rest := [.ref (b 0)]) hC hG hE hT cut3 (z_91_isNoHold l hst D κ E0 H.size b x0 ⟨by omega, by omega⟩) rfl rfl w753 w5 w756 w754 w755 (by decide +kernel) ⟨Nat.le_of_ble_eq_true rfl, Nat.le_of_ble_eq_true rfl⟩ rfl hl.1 rfl (Nat.le_of_ble_eq_true rfl) dX14_letGo_3 ⟨Nat.le_of_ble_eq_true rfl, Nat.le_of_ble_eq_true rfl⟩) (fun z1 H locs hG => ?_)
  have hG : BW D κ (mw κ b E0 0) _ s H locs := hG
  refine lv_iconst (v := 1) hx hb dX14_letGo_6 (by decide) ?_
  have cut7 : Cut (mw κ b E0 0) (mw κ b E0 0) ([]) := (Cut.all 9 rfl (by decide))
  refine zc_i hG cut7 (zr_V (k := 0) (ci := 9) (n := 2) (As := [.int 1, .int 1]) (rest := []) hC hG hE hT cut7 (z_4_start l hst D κ E0 H.size b) rfl rfl w170 w5 w173 w171 w172 (by decide +kernel) ⟨Nat.le_of_ble_eq_true rfl, Nat.le_of_ble_eq_true rfl⟩ rfl hl.1 rfl (Nat.le_of_ble_eq_true rfl) dX14_letGo_7 ⟨Nat.le_of_ble_eq_true rfl, Nat.le_of_ble_eq_true rfl⟩) (fun z2 H locs hG => ?_)
  have hG : BW D κ (mw κ b E0 1) _ s H locs := hG
  refine lv_if_ne (tgt := 47) hx hb dX14_letGo_10 (by decide) (fun _ => ?_) (fun h10 => absurd h10 (by decide))
  refine lv_iconst (v := 0) hx hb dX14_letGo_47 (by decide) ?_
  exact ze_i (qs := fun _ => 0) hC hG rfl rfl hr rfl hk (Nat.le_of_ble_eq_true rfl) (Nat.le_of_ble_eq_true rfl) dX14_letGo_48
