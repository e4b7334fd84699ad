theorem dX14_post_0 : decode cX14_post 0 = .ok (.aload_n 0, 1) := by decide +kernel
theorem dX14_post_1 : decode cX14_post 1 = .ok (.aload_n 0, 1) := by decide +kernel
theorem dX14_post_13 : decode cX14_post 13 = .ok (.iconst 1, 1) := by decide +kernel
theorem dX14_post_14 : decode cX14_post 14 = .ok (.invokevirtual 61, 3) := by decide +kernel
theorem dX14_post_17 : decode cX14_post 17 = .ok (.ifCond .eq 5, 3) := by decide +kernel
theorem dX14_post_2 : decode cX14_post 2 = .ok (.invokevirtual 203, 3) := by decide +kernel
theorem dX14_post_20 : decode cX14_post 20 = .ok (.iconst 0, 1) := by decide +kernel
theorem dX14_post_21 : decode cX14_post 21 = .ok (.ireturn, 1) := by decide +kernel
theorem dX14_post_5 : decode cX14_post 5 = .ok (.ifCond .eq 7, 3) := by decide +kernel
theorem dX14_post_8 : decode cX14_post 8 = .ok (.iconst 1, 1) := by decide +kernel
theorem dX14_post_9 : decode cX14_post 9 = .ok (.goto 4, 3) := by decide +kernel
set_option maxHeartbeats 4000000 in
set_option maxRecDepth 100000 in
theorem z_168_post (l : Launch) (hst : l.stackTraces = false) (D : va_G) (κ : K4) (E0 : Nat) (sz : Nat) (b : Nat → Nat) : NM l yX14_post cX14_post 2 (some .int) 2 44 0 0 E0 D κ (mw κ b E0 0) sz [.ref (b 0)] (QI D κ (mw κ b E0 0) sz 0 (fun qs : W1 => mw κ b E0 1)) := by
  refine NM.of (by decide +kernel) (Nat.le_of_ble_eq_true rfl) ?_
  intro p e s m below meth c ls hC hr hk hin hsz hE hT H locs hG hl
  have hx := hC.1
  have hb := hC.2.1
  have hl : lv_has ls 2 [(0, .ref (b 0))] := hl
  refine lv_aload_n hx hb dX14_post_0 rfl (lv_at hl 0 rfl) ?_
  refine lv_aload_n hx hb dX14_post_1 rfl (lv_at hl 0 rfl) ?_
  have cut2 : Cut (mw κ b E0 0) (mw κ b E0 0) ([]) := (Cut.all 9 rfl (by decide))
  refine zc_i hG cut2 (zr_V (k := 0) (ci := 9) (n := 0) (As := []) (rest := [.ref (b 0)]) hC hG hE hT cut2 (z_167_reasonNow l hst D κ E0 H.size b) rfl rfl w566 w5 w569 w567 w568 (by decide +kernel) ⟨Nat.le_of_ble_eq_true rfl, Nat.le_of_ble_eq_true rfl⟩ rfl hl.1 rfl (Nat.le_of_ble_eq_true rfl) dX14_post_2 ⟨Nat.le_of_ble_eq_true rfl, Nat.le_of_ble_eq_true rfl⟩) (fun z1 H locs hG => ?_)
  have hG : BW D κ (mw κ b E0 0) _ s H locs := hG
  refine lv_if_eq (tgt := 12) hx hb dX14_post_5 (by decide) (fun h5 => absurd h5 (by decide)) (fun _ => ?_)
  refine lv_iconst (v := 1) hx hb dX14_post_8 (by decide) ?_
  refine lv_goto (tgt := 13) hx hb dX14_post_9 (by decide) ?_
  refine lv_iconst (v := 1) hx hb dX14_post_13 (by decide) ?_
  have cut14 : Cut (mw κ b E0 0) (mw κ b E0 0) ([]) := (Cut.all 9 rfl (by decide))
  refine zc_i hG cut14 (zr_V (k := 0) (ci := 9) (n := 2) (As := [.int 1, .int 1]) (rest := []) hC hG hE hT cut14 (z_4_start l hst D κ E0 H.size b) rfl rfl w170 w5 w173 w171 w172 (by decide +kernel) ⟨Nat.le_of_ble_eq_true rfl, Nat.le_of_ble_eq_true rfl⟩ rfl hl.1 rfl (Nat.le_of_ble_eq_true rfl) dX14_post_14 ⟨Nat.le_of_ble_eq_true rfl, Nat.le_of_ble_eq_true rfl⟩) (fun z2 H locs hG => ?_)
  have hG : BW D κ (mw κ b E0 1) _ s H locs := hG
  refine lv_if_eq (tgt := 22) hx hb dX14_post_17 (by decide) (fun h17 => absurd h17 (by decide)) (fun _ => ?_)
  refine lv_iconst (v := 0) hx hb dX14_post_20 (by decide) ?_
  exact ze_i (qs := fun _ => 0) hC hG rfl rfl hr rfl hk (Nat.le_of_ble_eq_true rfl) (Nat.le_of_ble_eq_true rfl) dX14_post_21
theorem dX7_reason_0 : decode cX7_reason 0 = .ok (.aload_n 0, 1) := by decide +kernel
theorem dX7_reason_1 : decode cX7_reason 1 = .ok (.invokevirtual 166, 3) := by decide +kernel
theorem dX7_reason_4 : decode cX7_reason 4 = .ok (.ireturn, 1) := by decide +kernel
set_option maxHeartbeats 4000000 in
set_option maxRecDepth 100000 in
theorem z_169_reason (l : Launch) (hst : l.stackTraces = false) (D : va_G) (κ : K4) (E0 : Nat) (sz : Nat) (a : Nat → Nat) : NM l yX7_reason cX7_reason 1 (some .int) 1 20 0 0 E0 D κ (xw κ a) sz [.ref (a 0)] (QI D κ (xw κ a) sz 1 (fun qs : W1 => xw κ a)) := by
  refine NM.of (by decide +kernel) (Nat.le_of_ble_eq_true rfl) ?_
  intro p e s m below meth c ls hC hr hk hin hsz hE hT H locs hG hl
  have hx := hC.1
  have hb := hC.2.1
  have hl : lv_has ls 1 [(0, .ref (a 0))] := hl
  refine lv_aload_n hx hb dX7_reason_0 rfl (lv_at hl 0 rfl) ?_
  have cut1 : Cut (xw κ a) (xw κ a) ([]) := (Cut.all 45 rfl (by decide))
  refine zc_i hG cut1 (zr_V (k := 0) (ci := 7) (n := 0) (As := []) (rest := []) hC hG hE hT cut1 (z_164_whyNotPosted l hst D κ E0 H.size a) rfl rfl w501 w2 w504 w502 w503 (by decide +kernel) ⟨Nat.le_of_ble_eq_true rfl, Nat.le_of_ble_eq_true rfl⟩ rfl hl.1 rfl (Nat.le_of_ble_eq_true rfl) dX7_reason_1 ⟨Nat.le_of_ble_eq_true rfl, Nat.le_of_ble_eq_true rfl⟩) (fun z1 H locs hG => ?_)
  have hG : BW D κ (xw κ a) _ s H locs := hG
  exact ze_i (qs := fun _ => 0) hC hG rfl rfl hr rfl hk (Nat.le_of_ble_eq_true rfl) (Nat.le_of_ble_eq_true rfl) dX7_reason_4
theorem dX14_reason_0 : decode cX14_reason 0 = .ok (.aload_n 0, 1) := by decide +kernel
theorem dX14_reason_1 : decode cX14_reason 1 = .ok (.iconst 0, 1) := by decide +kernel
theorem dX14_reason_2 : decode cX14_reason 2 = .ok (.putfield 42, 3) := by decide +kernel
theorem dX14_reason_5 : decode cX14_reason 5 = .ok (.aload_n 0, 1) := by decide +kernel
theorem dX14_reason_6 : decode cX14_reason 6 = .ok (.invokevirtual 203, 3) := by decide +kernel
theorem dX14_reason_9 : decode cX14_reason 9 = .ok (.ireturn, 1) := by decide +kernel
set_option maxHeartbeats 4000000 in
set_option maxRecDepth 100000 in
theorem z_170_reason (l : Launch) (hst : l.stackTraces = false) (D : va_G) (κ : K4) (E0 : Nat) (sz : Nat) (b : Nat → Nat) : NM l yX14_reason cX14_reason 1 (some .int) 1 22 0 0 E0 D κ (mw κ b E0 0) sz [.ref (b 0)] (QI D κ (mw κ b E0 0) sz 1 (fun qs : W1 => mw κ b E0 0)) := by
  refine NM.of (by decide +kernel) (Nat.le_of_ble_eq_true rfl) ?_
  intro p e s m below meth c ls hC hr hk hin hsz hE hT H locs hG hl
  have hx := hC.1
  have hb := hC.2.1
  have hl : lv_has ls 1 [(0, .ref (b 0))] := hl
  refine lv_aload_n hx hb dX14_reason_0 rfl (lv_at hl 0 rfl) ?_
  refine lv_iconst (v := 0) hx hb dX14_reason_1 (by decide) ?_
  refine bw_put (C := RX14) (T := TX14) (N := 15) (ci := 9) (ty0 := tyX14) (ty := .int) (v := .int 0) 0 (by decide) 0 hC hG iwX14 tyX14_ok nmX14 rfl rfl w174 rfl (Or.inl rfl) (by decide +kernel) rfl rfl (Nat.le_of_ble_eq_true rfl) dX14_reason_2 (fun H locs hG => ?_)
  have hG : BW D κ (mw κ b E0 0) _ s H locs := hG
  refine lv_aload_n hx hb dX14_reason_5 rfl (lv_at hl 0 rfl) ?_
  have cut6 : Cut (mw κ b E0 0) (mw κ b E0 0) ([]) := (Cut.all 9 rfl (by decide))
  refine zc_i hG cut6 (zr_V (k := 0) (ci := 9) (n := 0) (As := []) (rest := []) hC hG hE hT cut6 (z_167_reasonNow l hst D κ E0 H.size b) rfl rfl w566 w5 w569 w567 w568 (by decide +kernel) ⟨Nat.le_of_ble_eq_true rfl, Nat.le_of_ble_eq_true rfl⟩ rfl hl.1 rfl (Nat.le_of_ble_eq_true rfl) dX14_reason_6 ⟨Nat.le_of_ble_eq_true rfl, Nat.le_of_ble_eq_true rfl⟩) (fun z1 H locs hG => ?_)
  have hG : BW D κ (mw κ b E0 0) _ s H locs := hG
  exact ze_i (qs := fun _ => 0) hC hG rfl rfl hr rfl hk (Nat.le_of_ble_eq_true rfl) (Nat.le_of_ble_eq_true rfl) dX14_reason_9
theorem dX3_lastClosing_0 : decode cX3_lastClosing 0 = .ok (.aload_n 0, 1) := by decide +kernel
theorem dX3_lastClosing_1 : decode cX3_lastClosing 1 = .ok (.getfield 31, 3) := by decide +kernel
theorem dX3_lastClosing_37 : decode cX3_lastClosing 37 = .ok (.iconst (-1), 1) := by decide +kernel
theorem dX3_lastClosing_38 : decode cX3_lastClosing 38 = .ok (.ireturn, 1) := by decide +kernel
theorem dX3_lastClosing_4 : decode cX3_lastClosing 4 = .ok (.iconst 1, 1) := by decide +kernel
theorem dX3_lastClosing_5 : decode cX3_lastClosing 5 = .ok (.isub, 1) := by decide +kernel
theorem dX3_lastClosing_6 : decode cX3_lastClosing 6 = .ok (.istore_n 1, 1) := by decide +kernel
theorem dX3_lastClosing_7 : decode cX3_lastClosing 7 = .ok (.iload_n 1, 1) := by decide +kernel
theorem dX3_lastClosing_8 : decode cX3_lastClosing 8 = .ok (.ifCond .lt 29, 3) := by decide +kernel
set_option maxHeartbeats 4000000 in
set_option maxRecDepth 100000 in
theorem z_171_lastClosing (l : Launch) (hst : l.stackTraces = false) (D : va_G) (κ : K4) (E0 : Nat) (sz : Nat) (a : Nat → Nat) : NM l yX3_lastClosing cX3_lastClosing 2 (some .int) 0 0 0 0 E0 D κ (xw κ a) sz [.ref (a 12)] (QI D κ (xw κ a) sz (-1) (fun qs : W1 => xw κ a)) := by
  refine NM.of (by decide +kernel) (Nat.le_of_ble_eq_true rfl) ?_
  intro p e s m below meth c ls hC hr hk hin hsz hE hT H locs hG hl
  have hx := hC.1
  have hb := hC.2.1
  have hl : lv_has ls 2 [(0, .ref (a 12))] := hl
  refine lv_aload_n hx hb dX3_lastClosing_0 rfl (lv_at hl 0 rfl) ?_
  refine bw_get (C := RX3) (T := TX3) (N := 12) (ci := 3) (v := .int 0) 6 (by decide) 12 hC hG iwX3 (xw_12 κ a) rfl w79 rfl rfl dX3_lastClosing_1 ?_
  refine lv_iconst (v := 1) hx hb dX3_lastClosing_4 (by decide) ?_
  refine lv_isub hx hb dX3_lastClosing_5 ?_
  refine W.eq (g2 := F0 m 6 ls [.int (-1)]) rfl ?_
  refine lv_istore_n (lv' := [(1, .int (-1)), (0, .ref (a 12))]) hx hb dX3_lastClosing_6 rfl hl (by decide) rfl (fun ls hl => ?_)
  refine lv_iload_n hx hb dX3_lastClosing_7 rfl (lv_at hl 0 rfl) ?_
  refine lv_if_lt (tgt := 37) hx hb dX3_lastClosing_8 (by decide) (fun _ => ?_) (fun h8 => absurd (by decide) h8)
  refine lv_iconst (v := (-1)) hx hb dX3_lastClosing_37 (by decide) ?_
  exact ze_i (qs := fun _ => 0) hC hG rfl rfl hr rfl hk (Nat.le_of_ble_eq_true rfl) (Nat.le_of_ble_eq_true rfl) dX3_lastClosing_38
theorem dX7_open_0 : decode cX7_open 0 = .ok (.aload_n 0, 1) := by decide +kernel
theorem dX7_open_1 : decode cX7_open 1 = .ok (.getfield 26, 3) := by decide +kernel
theorem dX7_open_10 : decode cX7_open 10 = .ok (.if_icmp .ne 14, 3) := by decide +kernel
theorem dX7_open_13 : decode cX7_open 13 = .ok (.new 82, 3) := by decide +kernel
theorem dX7_open_16 : decode cX7_open 16 = .ok (.dup, 1) := by decide +kernel
theorem dX7_open_17 : decode cX7_open 17 = .ok (.ldc_w 296, 3) := by decide +kernel
theorem dX7_open_20 : decode cX7_open 20 = .ok (.invokespecial 86, 3) := by decide +kernel
theorem dX7_open_23 : decode cX7_open 23 = .ok (.athrow, 1) := by decide +kernel
theorem dX7_open_4 : decode cX7_open 4 = .ok (.invokevirtual 293, 3) := by decide +kernel
theorem dX7_open_7 : decode cX7_open 7 = .ok (.istore_n 1, 1) := by decide +kernel
theorem dX7_open_8 : decode cX7_open 8 = .ok (.iload_n 1, 1) := by decide +kernel
theorem dX7_open_9 : decode cX7_open 9 = .ok (.iconst (-1), 1) := by decide +kernel
set_option maxHeartbeats 4000000 in
set_option maxRecDepth 100000 in
theorem z_172_open (l : Launch) (hst : l.stackTraces = false) (D : va_G) (κ : K4) (E0 : Nat) (sz : Nat) (a : Nat → Nat) : XM l yX7_open cX7_open 2 (some .int) 6 82 1 6 E0 D κ (xw κ a) sz [.ref (a 0)] "java/lang/IllegalStateException" (NI (xw κ a) sz) := by
  refine XM.of (by decide +kernel) (Nat.le_of_ble_eq_true rfl) ?_
  intro p e s m below meth c ls hC hk hno hsz hE hT H locs hG hl
  have hx := hC.1
  have hb := hC.2.1
  have hl : lv_has ls 2 [(0, .ref (a 0))] := hl
  refine lv_aload_n hx hb dX7_open_0 rfl (lv_at hl 0 rfl) ?_
  refine bw_get (C := RX7) (T := TX7) (N := 10) (ci := 7) (v := .ref (a 12)) 2 (by decide) 0 hC hG iwX7 (xw_0 κ a) rfl w24 rfl rfl dX7_open_1 ?_
  have cut4 : Cut (xw κ a) (xw κ a) ([]) := (Cut.all 45 rfl (by decide))
  refine zc_i hG cut4 (zr_V (k := 12) (ci := 3) (n := 0) (As := []) (rest := []) hC hG hE hT cut4 (z_171_lastClosing l hst D κ E0 H.size a) rfl rfl w819 w23 w512 w510 w511 (by decide +kernel) ⟨Nat.le_of_ble_eq_true rfl, Nat.le_of_ble_eq_true rfl⟩ rfl hl.1 rfl (Nat.le_of_ble_eq_true rfl) dX7_open_4 ⟨Nat.le_of_ble_eq_true rfl, Nat.le_of_ble_eq_true rfl⟩) (fun z1 H locs hG => ?_)
  have hG : BW D κ (xw κ a) _ s H locs := hG
  refine lv_istore_n (lv' := [(1, .int (-1)), (0, .ref (a 0))]) hx hb dX7_open_7 rfl hl (by decide) rfl (fun ls hl => ?_)
  refine lv_iload_n hx hb dX7_open_8 rfl (lv_at hl 0 rfl) ?_
  refine lv_iconst (v := (-1)) hx hb dX7_open_9 (by decide) ?_
  refine lv_icmp_ne (tgt := 24) hx hb dX7_open_10 (by decide) (fun h10 => absurd (by decide) h10) (fun _ => ?_)
  exact th_ISW hC hst hE hT hno hk hG hl.1 (List.mem_of_getElem? (i := 30) rfl) w152 w153 dX7_open_13 dX7_open_16 dX7_open_17 dX7_open_20 dX7_open_23 (Nat.le_of_ble_eq_true rfl) (Nat.le_of_ble_eq_true rfl) (Nat.le_of_ble_eq_true rfl) (Nat.le_of_ble_eq_true rfl) (Nat.le_of_ble_eq_true rfl) (Nat.le_of_ble_eq_true rfl)
theorem dL_open_0 : decode cL_open 0 = .ok (.aload_n 1, 1) := by decide +kernel
theorem dL_open_1 : decode cL_open 1 = .ok (.iconst 0, 1) := by decide +kernel
theorem dL_open_11 : decode cL_open 11 = .ok (.astore_n 2, 1) := by decide +kernel
theorem dL_open_12 : decode cL_open 12 = .ok (.iconst 1, 1) := by decide +kernel
theorem dL_open_13 : decode cL_open 13 = .ok (.ireturn, 1) := by decide +kernel
theorem dL_open_2 : decode cL_open 2 = .ok (.aload_n 0, 1) := by decide +kernel
theorem dL_open_3 : decode cL_open 3 = .ok (.invokevirtual 66, 3) := by decide +kernel
set_option maxHeartbeats 4000000 in
set_option maxRecDepth 100000 in
theorem z_173_open (l : Launch) (hst : l.stackTraces = false) (D : va_G) (κ : K4) (E0 : Nat) (sz : Nat) (a : Nat → Nat) (o : Nat) : NH l yL_open cL_open 3 (some .int) [(0, 8, 11, 15)] 7 103 1 6 E0 D κ (xw κ a ++ [(o, .inl (κ.2.1, 1, .inr (.inl (fun _ => 0))))]) sz [.ref (a 0), .ref o] (QI D κ (xw κ a ++ [(o, .inl (κ.2.1, 1, .inr (.inl (fun _ => 0))))]) sz 1 (fun qs : W1 => [(o, .inl (κ.2.1, 1, .inr (.inl (fun _ => 0))))])) := by
  refine NH.of (by decide +kernel) (Nat.le_of_ble_eq_true rfl) ?_
  intro p e s m below meth c ls hC hr hk htab hsz hE hT H locs hG hl
  have hx := hC.1
  have hb := hC.2.1
  have hl : lv_has ls 3 [(0, .ref (a 0)), (1, .ref o)] := hl
  refine lv_aload_n hx hb dL_open_0 rfl (lv_at hl 1 rfl) ?_
  refine lv_iconst (v := 0) hx hb dL_open_1 (by decide) ?_
  refine lv_aload_n hx hb dL_open_2 rfl (lv_at hl 0 rfl) ?_
  have cut3 : Cut (xw κ a ++ [(o, .inl (κ.2.1, 1, .inr (.inl (fun _ => 0))))]) (xw κ a) ([(o, .inl (κ.2.1, 1, .inr (.inl (fun _ => 0))))]) := (Cut.one 45 rfl (by decide))
  refine zt_i hG cut3 (zx_V (k := 0) (ci := 7) (n := 0) (As := []) (rest := [.int 0, .ref o]) hC hG hE hT cut3 (z_172_open l hst D κ E0 H.size a) rfl rfl w815 w2 w818 w816 w817 (by decide +kernel) ⟨Nat.le_of_ble_eq_true rfl, Nat.le_of_ble_eq_true rfl⟩ rfl hl.1 rfl (Nat.le_of_ble_eq_true rfl) dL_open_3 ⟨Nat.le_of_ble_eq_true rfl, Nat.le_of_ble_eq_true rfl⟩) (fun ce q9 H locs hG hz1 hz2 hz3 => ?_)
  refine vx_catch (own := RL) (name := "java/lang/IllegalStateException") (E := "java/lang/IllegalStateException") hC.2.2.2.1 [] ⟨0, 8, 11, 15⟩ [] htab (fun z hz => by simp at hz) (by decide) (by decide) (hC.2.2.2.2 _ w494) (va_Nw.use rfl (hT.1 ("java/lang/IllegalStateException", "java/lang/IllegalStateException") (by decide))) hz1 hz2 hz3 ?_
  refine lv_astore_n (lv' := [(2, .ref q9), (0, .ref (a 0)), (1, .ref o)]) hx hb dL_open_11 rfl hl (by decide) rfl (fun ls hl => ?_)
  refine lv_iconst (v := 1) hx hb dL_open_12 (by decide) ?_
  exact ze_i (qs := fun _ => 0) hC hG rfl rfl hr rfl hk (Nat.le_of_ble_eq_true rfl) (Nat.le_of_ble_eq_true rfl) dL_open_13
theorem dJx4a65c_isEmpty_aae02_0 : decode cJx4a65c_isEmpty_aae02 0 = .ok (.aload_n 0, 1) := by decide +kernel
theorem dJx4a65c_isEmpty_aae02_1 : decode cJx4a65c_isEmpty_aae02 1 = .ok (.getfield 48, 3) := by decide +kernel
theorem dJx4a65c_isEmpty_aae02_12 : decode cJx4a65c_isEmpty_aae02 12 = .ok (.ireturn, 1) := by decide +kernel
theorem dJx4a65c_isEmpty_aae02_4 : decode cJx4a65c_isEmpty_aae02 4 = .ok (.ifCond .ne 7, 3) := by decide +kernel
theorem dJx4a65c_isEmpty_aae02_7 : decode cJx4a65c_isEmpty_aae02 7 = .ok (.iconst 1, 1) := by decide +kernel
theorem dJx4a65c_isEmpty_aae02_8 : decode cJx4a65c_isEmpty_aae02 8 = .ok (.goto 4, 3) := by decide +kernel
set_option maxHeartbeats 4000000 in
set_option maxRecDepth 100000 in
theorem z_174_isEmpty (l : Launch) (hst : l.stackTraces = false) (D : va_G) (κ : K4) (E0 : Nat) (sz : Nat) (h0 : Nat) (h1 : Nat) (h2 : Nat) (h3 : Nat) (h4 : Nat) (h5 : Nat) (h6 : Nat) (h7 : Nat) (h8 : Nat) : NM l yJx4a65c_isEmpty_aae02 cJx4a65c_isEmpty_aae02 1 (some .boolean) 0 0 0 0 E0 D κ ([(h1, .inr (9, [.int 0, .ref h2, .ref h3, .ref h4, .ref h5, .ref h6, .ref h0, .ref h7, .null, .int 0, .int (-1), .int 0, .int 0, .int 0, .ref h8])), (h2, .inl (κ.1, 4, .inl (fun _ => 1000))), (h3, .inr (10, [.int 0, .ref E0, .int 0])), (h4, .inr (10, [.int 0, .ref E0, .int 0])), (h5, .inr (10, [.int 0, .ref E0, .int 0])), (h6, .inr (10, [.int 0, .ref E0, .int 0])), (h0, .inr (10, [.int 0, .ref E0, .int 0])), (h7, .inr (10, [.int 0, .ref E0, .int 0])), (h8, .inr (10, [.int 0, .ref E0, .int 0]))]) sz [.ref h0] (QI D κ ([(h1, .inr (9, [.int 0, .ref h2, .ref h3, .ref h4, .ref h5, .ref h6, .ref h0, .ref h7, .null, .int 0, .int (-1), .int 0, .int 0, .int 0, .ref h8])), (h2, .inl (κ.1, 4, .inl (fun _ => 1000))), (h3, .inr (10, [.int 0, .ref E0, .int 0])), (h4, .inr (10, [.int 0, .ref E0, .int 0])), (h5, .inr (10, [.int 0, .ref E0, .int 0])), (h6, .inr (10, [.int 0, .ref E0, .int 0])), (h0, .inr (10, [.int 0, .ref E0, .int 0])), (h7, .inr (10, [.int 0, .ref E0, .int 0])), (h8, .inr (10, [.int 0, .ref E0, .int 0]))]) sz 1 (fun qs : W1 => [(h1, .inr (9, [.int 0, .ref h2, .ref h3, .ref h4, .ref h5, .ref h6, .ref h0, .ref h7, .null, .int 0, .int (-1), .int 0, .int 0, .int 0, .ref h8])), (h2, .inl (κ.1, 4, .inl (fun _ => 1000))), (h3, .inr (10, [.int 0, .ref E0, .int 0])), (h4, .inr (10, [.int 0, .ref E0, .int 0])), (h5, .inr (10, [.int 0, .ref E0, .int 0])), (h6, .inr (10, [.int 0, .ref E0, .int 0])), (h0, .inr (10, [.int 0, .ref E0, .int 0])), (h7, .inr (10, [.int 0, .ref E0, .int 0])), (h8, .inr (10, [.int 0, .ref E0, .int 0]))])) := by
  refine NM.of (by decide +kernel) (Nat.le_of_ble_eq_true rfl) ?_
  intro p e s m below meth c ls hC hr hk hin hsz hE hT H locs hG hl
  have hx := hC.1
  have hb := hC.2.1
  have hl : lv_has ls 1 [(0, .ref h0)] := hl
  refine lv_aload_n hx hb dJx4a65c_isEmpty_aae02_0 rfl (lv_at hl 0 rfl) ?_
  refine bw_get (C := RJx4a65c) (T := TJx4a65c) (N := 3) (ci := 10) (v := .int 0) 2 (by decide) 6 hC hG iwJA rfl rfl w183 rfl rfl dJx4a65c_isEmpty_aae02_1 ?_
  refine lv_if_ne (tgt := 11) hx hb dJx4a65c_isEmpty_aae02_4 (by decide) (fun h4 => absurd (by decide) h4) (fun _ => ?_)
  refine lv_iconst (v := 1) hx hb dJx4a65c_isEmpty_aae02_7 (by decide) ?_
  refine lv_goto (tgt := 12) hx hb dJx4a65c_isEmpty_aae02_8 (by decide) ?_
  exact ze_i (qs := fun _ => 0) hC hG rfl rfl hr rfl hk (Nat.le_of_ble_eq_true rfl) (Nat.le_of_ble_eq_true rfl) dJx4a65c_isEmpty_aae02_12
theorem dX14_open_0 : decode cX14_open 0 = .ok (.aload_n 0, 1) := by decide +kernel
theorem dX14_open_1 : decode cX14_open 1 = .ok (.aload_n 0, 1) := by decide +kernel
theorem dX14_open_12 : decode cX14_open 12 = .ok (.ifCond .eq 5, 3) := by decide +kernel
theorem dX14_open_15 : decode cX14_open 15 = .ok (.iconst 0, 1) := by decide +kernel
theorem dX14_open_16 : decode cX14_open 16 = .ok (.ireturn, 1) := by decide +kernel
theorem dX14_open_2 : decode cX14_open 2 = .ok (.getfield 29, 3) := by decide +kernel
theorem dX14_open_5 : decode cX14_open 5 = .ok (.invokevirtual 263, 3) := by decide +kernel
theorem dX14_open_8 : decode cX14_open 8 = .ok (.iconst 1, 1) := by decide +kernel
theorem dX14_open_9 : decode cX14_open 9 = .ok (.invokevirtual 61, 3) := by decide +kernel
set_option maxHeartbeats 4000000 in
set_option maxRecDepth 100000 in
theorem z_175_open (l : Launch) (hst : l.stackTraces = false) (D : va_G) (κ : K4) (E0 : Nat) (sz : Nat) (b : Nat → Nat) : NM l yX14_open cX14_open 3 (some .int) 2 44 0 0 E0 D κ (mw κ b E0 0) sz [.ref (b 0)] (QI D κ (mw κ b E0 0) sz 0 (fun qs : W1 => mw κ b E0 1)) := by
  refine NM.of (by decide +kernel) (Nat.le_of_ble_eq_true rfl) ?_
  intro p e s m below meth c ls hC hr hk hin hsz hE hT H locs hG hl
  have hx := hC.1
  have hb := hC.2.1
  have hl : lv_has ls 3 [(0, .ref (b 0))] := hl
  refine lv_aload_n hx hb dX14_open_0 rfl (lv_at hl 0 rfl) ?_
  refine lv_aload_n hx hb dX14_open_1 rfl (lv_at hl 0 rfl) ?_
  refine bw_get (C := RX14) (T := TX14) (N := 15) (ci := 9) (v := .ref (b 6)) 6 (by decide) 0 hC hG iwX14 rfl rfl w122 rfl rfl dX14_open_2 ?_
  have cut5 : Cut (mw κ b E0 0) (mw κ b E0 0) ([]) := (Cut.all 9 rfl (by decide))
  refine zc_i hG cut5 (zr_V (k := 6) (ci := 10) (n := 0) (As := []) (rest := [.ref (b 0)]) hC hG hE hT cut5 (z_174_isEmpty l hst D κ E0 H.size (b 6) (b 0) (b 1) (b 2) (b 3) (b 4) (b 5) (b 7) (b 8)) rfl rfl w835 w117 w838 w836 w837 (by decide +kernel) ⟨Nat.le_of_ble_eq_true rfl, Nat.le_of_ble_eq_true rfl⟩ rfl hl.1 rfl (Nat.le_of_ble_eq_true rfl) dX14_open_5 ⟨Nat.le_of_ble_eq_true rfl, Nat.le_of_ble_eq_true rfl⟩) (fun z1 H locs hG => ?_)
  have hG : BW D κ (mw κ b E0 0) _ s H locs := hG
  refine lv_iconst (v := 1) hx hb dX14_open_8 (by decide) ?_
  have cut9 : Cut (mw κ b E0 0) (mw κ b E0 0) ([]) := (Cut.all 9 rfl (by decide))
  refine zc_i hG cut9 (zr_V (k := 0) (ci := 9) (n := 2) (As := [.int 1, .int 1]) (rest := []) hC hG hE hT cut9 (z_4_start l hst D κ E0 H.size b) rfl rfl w170 w5 w173 w171 w172 (by decide +kernel) ⟨Nat.le_of_ble_eq_true rfl, Nat.le_of_ble_eq_true rfl⟩ rfl hl.1 rfl (Nat.le_of_ble_eq_true rfl) dX14_open_9 ⟨Nat.le_of_ble_eq_true rfl, Nat.le_of_ble_eq_true rfl⟩) (fun z2 H locs hG => ?_)
  have hG : BW D κ (mw κ b E0 1) _ s H locs := hG
  refine lv_if_eq (tgt := 17) hx hb dX14_open_12 (by decide) (fun h12 => absurd h12 (by decide)) (fun _ => ?_)
  refine lv_iconst (v := 0) hx hb dX14_open_15 (by decide) ?_
  exact ze_i (qs := fun _ => 0) hC hG rfl rfl hr rfl hk (Nat.le_of_ble_eq_true rfl) (Nat.le_of_ble_eq_true rfl) dX14_open_16
theorem dX7_many_0 : decode cX7_many 0 = .ok (.iload_n 1, 1) := by decide +kernel
theorem dX7_many_1 : decode cX7_many 1 = .ok (.tableswitch 88 0 5 #[39, 47, 55, 67, 75, 80], 39) := by decide +kernel
theorem dX7_many_89 : decode cX7_many 89 = .ok (.new 71, 3) := by decide +kernel
theorem dX7_many_92 : decode cX7_many 92 = .ok (.dup, 1) := by decide +kernel
theorem dX7_many_93 : decode cX7_many 93 = .ok (.ldc_w 343, 3) := by decide +kernel
theorem dX7_many_96 : decode cX7_many 96 = .ok (.invokespecial 75, 3) := by decide +kernel
theorem dX7_many_99 : decode cX7_many 99 = .ok (.athrow, 1) := by decide +kernel
set_option maxHeartbeats 4000000 in
set_option maxRecDepth 100000 in
theorem z_176_many (l : Launch) (hst : l.stackTraces = false) (D : va_G) (κ : K4) (E0 : Nat) (sz : Nat) (a : Nat → Nat) (x0 : Int32) (k_x0 : -2147483648 ≤ x0.toInt ∧ x0.toInt ≤ -1) : XM l yX7_many cX7_many 2 (some .int) 6 82 1 6 E0 D κ (xw κ a) sz [.ref (a 0), .int x0] "java/lang/IllegalArgumentException" (NI (xw κ a) sz) := by
  refine XM.of (by decide +kernel) (Nat.le_of_ble_eq_true rfl) ?_
  intro p e s m below meth c ls hC hk hno hsz hE hT H locs hG hl
  have hx := hC.1
  have hb := hC.2.1
  have hl : lv_has ls 2 [(0, .ref (a 0)), (1, .int x0)] := hl
  refine lv_iload_n hx hb dX7_many_0 rfl (lv_at hl 1 rfl) ?_
  refine lv_tableOut (tgt := 89) hx hb dX7_many_1 (Or.inl (by omega)) (by decide) ?_
  exact th_IAW hC hst hE hT hno hk hG hl.1 (List.mem_of_getElem? (i := 0) rfl) w150 w151 dX7_many_89 dX7_many_92 dX7_many_93 dX7_many_96 dX7_many_99 (Nat.le_of_ble_eq_true rfl) (Nat.le_of_ble_eq_true rfl) (Nat.le_of_ble_eq_true rfl) (Nat.le_of_ble_eq_true rfl) (Nat.le_of_ble_eq_true rfl) (Nat.le_of_ble_eq_true rfl)
theorem dL_many_0 : decode cL_many 0 = .ok (.aload_n 2, 1) := by decide +kernel
theorem dL_many_1 : decode cL_many 1 = .ok (.iconst 0, 1) := by decide +kernel
theorem dL_many_12 : decode cL_many 12 = .ok (.astore_n 3, 1) := by decide +kernel
theorem dL_many_13 : decode cL_many 13 = .ok (.iconst 1, 1) := by decide +kernel
theorem dL_many_14 : decode cL_many 14 = .ok (.ireturn, 1) := by decide +kernel
theorem dL_many_2 : decode cL_many 2 = .ok (.aload_n 0, 1) := by decide +kernel
theorem dL_many_3 : decode cL_many 3 = .ok (.iload_n 1, 1) := by decide +kernel
theorem dL_many_4 : decode cL_many 4 = .ok (.invokevirtual 81, 3) := by decide +kernel
set_option maxHeartbeats 4000000 in
set_option maxRecDepth 100000 in
theorem z_177_many (l : Launch) (hst : l.stackTraces = false) (D : va_G) (κ : K4) (E0 : Nat) (sz : Nat) (a : Nat → Nat) (x0 : Int32) (o : Nat) (k_x0 : -2147483648 ≤ x0.toInt ∧ x0.toInt ≤ -1) : NH l yL_many cL_many 4 (some .int) [(0, 9, 12, 13)] 7 103 1 6 E0 D κ (xw κ a ++ [(o, .inl (κ.2.1, 1, .inr (.inl (fun _ => 0))))]) sz [.ref (a 0), .int x0, .ref o] (QI D κ (xw κ a ++ [(o, .inl (κ.2.1, 1, .inr (.inl (fun _ => 0))))]) sz 1 (fun qs : W1 => [(o, .inl (κ.2.1, 1, .inr (.inl (fun _ => 0))))])) := by
  refine NH.of (by decide +kernel) (Nat.le_of_ble_eq_true rfl) ?_
  intro p e s m below meth c ls hC hr hk htab hsz hE hT H locs hG hl
  have hx := hC.1
  have hb := hC.2.1
  have hl : lv_has ls 4 [(0, .ref (a 0)), (1, .int x0), (2, .ref o)] := hl
  refine lv_aload_n hx hb dL_many_0 rfl (lv_at hl 2 rfl) ?_
  refine lv_iconst (v := 0) hx hb dL_many_1 (by decide) ?_
  refine lv_aload_n hx hb dL_many_2 rfl (lv_at hl 0 rfl) ?_
  refine lv_iload_n hx hb dL_many_3 rfl (lv_at hl 1 rfl) ?_
  have cut4 : Cut (xw κ a ++ [(o, .inl (κ.2.1, 1, .inr (.inl (fun _ => 0))))]) (xw κ a) ([(o, .inl (κ.2.1, 1, .inr (.inl (fun _ => 0))))]) := (Cut.one 45 rfl (by decide))
  refine zt_i hG cut4 (zx_V (k := 0) (ci := 7) (n := 1) (As := [.int x0]) (rest := [.int 0, .ref o]) hC hG hE hT cut4 (z_176_many l hst D κ E0 H.size a x0 ⟨by omega, by omega⟩) rfl rfl w1058 w2 w1061 w1059 w1060 (by decide +kernel) ⟨Nat.le_of_ble_eq_true rfl, Nat.le_of_ble_eq_true rfl⟩ rfl hl.1 rfl (Nat.le_of_ble_eq_true rfl) dL_many_4 ⟨Nat.le_of_ble_eq_true rfl, Nat.le_of_ble_eq_true rfl⟩) (fun ce q9 H locs hG hz1 hz2 hz3 => ?_)
  refine vx_catch (own := RL) (name := "java/lang/IllegalArgumentException") (E := "java/lang/IllegalArgumentException") hC.2.2.2.1 [] ⟨0, 9, 12, 13⟩ [] htab (fun z hz => by simp at hz) (by decide) (by decide) (hC.2.2.2.2 _ w145) (va_Nw.use rfl (hT.1 ("java/lang/IllegalArgumentException", "java/lang/IllegalArgumentException") (by decide))) hz1 hz2 hz3 ?_
  refine lv_astore_n (lv' := [(3, .ref q9), (0, .ref (a 0)), (1, .int x0), (2, .ref o)]) hx hb dL_many_12 rfl hl (by decide) rfl (fun ls hl => ?_)
  refine lv_iconst (v := 1) hx hb dL_many_13 (by decide) ?_
  exact ze_i (qs := fun _ => 0) hC hG rfl rfl hr rfl hk (Nat.le_of_ble_eq_true rfl) (Nat.le_of_ble_eq_true rfl) dL_many_14
set_option maxHeartbeats 4000000 in
set_option maxRecDepth 100000 in
theorem z_178_isIn (l : Launch) (hst : l.stackTraces = false) (D : va_G) (κ : K4) (E0 : Nat) (sz : Nat) (b : Nat → Nat) (x0 : Int32) (k_x0 : -2147483648 ≤ x0.toInt ∧ x0.toInt ≤ -1) : NM l yX14_isIn cX14_isIn 3 (some .boolean) 0 0 0 0 E0 D κ (mw κ b E0 0) sz [.int x0, .int 0, .int 5] (QI D κ (mw κ b E0 0) sz 0 (fun qs : W1 => mw κ b E0 0)) := by
  refine NM.of (by decide +kernel) (Nat.le_of_ble_eq_true rfl) ?_
  intro p e s m below meth c ls hC hr hk hin hsz hE hT H locs hG hl
  have hx := hC.1
  have hb := hC.2.1
  have hl : lv_has ls 3 [(0, .int x0), (1, .int 0), (2, .int 5)] := hl
  refine lv_iload_n hx hb dX14_isIn_0 rfl (lv_at hl 0 rfl) ?_
  refine lv_iload_n hx hb dX14_isIn_1 rfl (lv_at hl 1 rfl) ?_
  refine lv_icmp_lt (tgt := 14) hx hb dX14_isIn_2 (by decide) (fun _ => ?_) (fun h2 => absurd (Int32.lt_iff_toInt_lt.mpr (by have e1 : (0 : Int32).toInt = 0 := (by decide); omega)) h2)
  refine lv_iconst (v := 0) hx hb dX14_isIn_14 (by decide) ?_
  exact ze_i (qs := fun _ => 0) hC hG rfl rfl hr rfl hk (Nat.le_of_ble_eq_true rfl) (Nat.le_of_ble_eq_true rfl) dX14_isIn_15
theorem dX14_many_0 : decode cX14_many 0 = .ok (.aload_n 0, 1) := by decide +kernel
theorem dX14_many_1 : decode cX14_many 1 = .ok (.iload_n 1, 1) := by decide +kernel
theorem dX14_many_10 : decode cX14_many 10 = .ok (.iconst 1, 1) := by decide +kernel
theorem dX14_many_11 : decode cX14_many 11 = .ok (.goto 4, 3) := by decide +kernel
theorem dX14_many_15 : decode cX14_many 15 = .ok (.iconst 1, 1) := by decide +kernel
theorem dX14_many_16 : decode cX14_many 16 = .ok (.invokevirtual 61, 3) := by decide +kernel
theorem dX14_many_19 : decode cX14_many 19 = .ok (.ifCond .eq 7, 3) := by decide +kernel
theorem dX14_many_2 : decode cX14_many 2 = .ok (.iconst 0, 1) := by decide +kernel
theorem dX14_many_22 : decode cX14_many 22 = .ok (.iconst 0, 1) := by decide +kernel
theorem dX14_many_23 : decode cX14_many 23 = .ok (.goto 8, 3) := by decide +kernel
theorem dX14_many_3 : decode cX14_many 3 = .ok (.iconst 5, 1) := by decide +kernel
theorem dX14_many_31 : decode cX14_many 31 = .ok (.ireturn, 1) := by decide +kernel
theorem dX14_many_4 : decode cX14_many 4 = .ok (.invokestatic 53, 3) := by decide +kernel
theorem dX14_many_7 : decode cX14_many 7 = .ok (.ifCond .ne 7, 3) := by decide +kernel
set_option maxHeartbeats 4000000 in
set_option maxRecDepth 100000 in
theorem z_179_many (l : Launch) (hst : l.stackTraces = false) (D : va_G) (κ : K4) (E0 : Nat) (sz : Nat) (b : Nat → Nat) (x0 : Int32) (k_x0 : -2147483648 ≤ x0.toInt ∧ x0.toInt ≤ -1) : NM l yX14_many cX14_many 2 (some .int) 2 44 0 0 E0 D κ (mw κ b E0 0) sz [.ref (b 0), .int x0] (QI D κ (mw κ b E0 0) sz 0 (fun qs : W1 => mw κ b E0 1)) := by
  refine NM.of (by decide +kernel) (Nat.le_of_ble_eq_true rfl) ?_
  intro p e s m below meth c ls hC hr hk hin hsz hE hT H locs hG hl
  have hx := hC.1
  have hb := hC.2.1
  have hl : lv_has ls 2 [(0, .ref (b 0)), (1, .int x0)] := hl
  refine lv_aload_n hx hb dX14_many_0 rfl (lv_at hl 0 rfl) ?_
  refine lv_iload_n hx hb dX14_many_1 rfl (lv_at hl 1 rfl) ?_
  refine lv_iconst (v := 0) hx hb dX14_many_2 (by decide) ?_
  refine lv_iconst (v := 5) hx hb dX14_many_3 (by decide) ?_
  have cut4 : Cut (mw κ b E0 0) (mw κ b E0 0) ([]) := (Cut.all 9 rfl (by decide))
  refine zc_i hG cut4 (zr_S (n := 3) (As := [.int x0, .int 0, .int 5]) (rest := [.ref (b 0)]) hC hG hE hT cut4 (z_178_isIn l hst D κ E0 H.size b x0 ⟨by omega, by omega⟩) w167 w5 w169 w168 (by decide +kernel) ⟨Nat.le_of_ble_eq_true rfl, Nat.le_of_ble_eq_true rfl⟩ rfl hl.1 rfl (Nat.le_of_ble_eq_true rfl) dX14_many_4 ⟨Nat.le_of_ble_eq_true rfl, Nat.le_of_ble_eq_true rfl⟩) (fun z1 H locs hG => ?_)
  have hG : BW D κ (mw κ b E0 0) _ s H locs := hG
  refine lv_if_ne (tgt := 14) hx hb dX14_many_7 (by decide) (fun h7 => absurd (by decide) h7) (fun _ => ?_)
  refine lv_iconst (v := 1) hx hb dX14_many_10 (by decide) ?_
  refine lv_goto (tgt := 15) hx hb dX14_many_11 (by decide) ?_
  refine lv_iconst (v := 1) hx hb dX14_many_15 (by decide) ?_
  have cut16 : Cut (mw κ b E0 0) (mw κ b E0 0) ([]) := (Cut.all 9 rfl (by decide))
  refine zc_i hG cut16 (zr_V (k := 0) (ci := 9) (n := 2) (As := [.int 1, .int 1]) (rest := []) hC hG hE hT cut16 (z_4_start l hst D κ E0 H.size b) rfl rfl w170 w5 w173 w171 w172 (by decide +kernel) ⟨Nat.le_of_ble_eq_true rfl, Nat.le_of_ble_eq_true rfl⟩ rfl hl.1 rfl (Nat.le_of_ble_eq_true rfl) dX14_many_16 ⟨Nat.le_of_ble_eq_true rfl, Nat.le_of_ble_eq_true rfl⟩) (fun z2 H locs hG => ?_)
  have hG : BW D κ (mw κ b E0 1) _ s H locs := hG
  refine lv_if_eq (tgt := 26) hx hb dX14_many_19 (by decide) (fun h19 => absurd h19 (by decide)) (fun _ => ?_)
  refine lv_iconst (v := 0) hx hb dX14_many_22 (by decide) ?_
  refine lv_goto (tgt := 31) hx hb dX14_many_23 (by decide) ?_
  exact ze_i (qs := fun _ => 0) hC hG rfl rfl hr rfl hk (Nat.le_of_ble_eq_true rfl) (Nat.le_of_ble_eq_true rfl) dX14_many_31
set_option maxHeartbeats 4000000 in
set_option maxRecDepth 100000 in
theorem z_180_many (l : Launch) (hst : l.stackTraces = false) (D : va_G) (κ : K4) (E0 : Nat) (sz : Nat) (a : Nat → Nat) (x0 : Int32) (k_x0 : 6 ≤ x0.toInt ∧ x0.toInt ≤ 2147483647) : XM l yX7_many cX7_many 2 (some .int) 6 82 1 6 E0 D κ (xw κ a) sz [.ref (a 0), .int x0] "java/lang/IllegalArgumentException" (NI (xw κ a) sz) := by
  refine XM.of (by decide +kernel) (Nat.le_of_ble_eq_true rfl) ?_
  intro p e s m below meth c ls hC hk hno hsz hE hT H locs hG hl
  have hx := hC.1
  have hb := hC.2.1
  have hl : lv_has ls 2 [(0, .ref (a 0)), (1, .int x0)] := hl
  refine lv_iload_n hx hb dX7_many_0 rfl (lv_at hl 1 rfl) ?_
  refine lv_tableOut (tgt := 89) hx hb dX7_many_1 (Or.inr (by omega)) (by decide) ?_
  exact th_IAW hC hst hE hT hno hk hG hl.1 (List.mem_of_getElem? (i := 0) rfl) w150 w151 dX7_many_89 dX7_many_92 dX7_many_93 dX7_many_96 dX7_many_99 (Nat.le_of_ble_eq_true rfl) (Nat.le_of_ble_eq_true rfl) (Nat.le_of_ble_eq_true rfl) (Nat.le_of_ble_eq_true rfl) (Nat.le_of_ble_eq_true rfl) (Nat.le_of_ble_eq_true rfl)
set_option maxHeartbeats 4000000 in
set_option maxRecDepth 100000 in
theorem z_181_many (l : Launch) (hst : l.stackTraces = false) (D : va_G) (κ : K4) (E0 : Nat) (sz : Nat) (a : Nat → Nat) (x0 : Int32) (o : Nat) (k_x0 : 6 ≤ x0.toInt ∧ x0.toInt ≤ 2147483647) : NH l yL_many cL_many 4 (some .int) [(0, 9, 12, 13)] 7 103 1 6 E0 D κ (xw κ a ++ [(o, .inl (κ.2.1, 1, .inr (.inl (fun _ => 0))))]) sz [.ref (a 0), .int x0, .ref o] (QI D κ (xw κ a ++ [(o, .inl (κ.2.1, 1, .inr (.inl (fun _ => 0))))]) sz 1 (fun qs : W1 => [(o, .inl (κ.2.1, 1, .inr (.inl (fun _ => 0))))])) := by
  refine NH.of (by decide +kernel) (Nat.le_of_ble_eq_true rfl) ?_
  intro p e s m below meth c ls hC hr hk htab hsz hE hT H locs hG hl
  have hx := hC.1
  have hb := hC.2.1
  have hl : lv_has ls 4 [(0, .ref (a 0)), (1, .int x0), (2, .ref o)] := hl
  refine lv_aload_n hx hb dL_many_0 rfl (lv_at hl 2 rfl) ?_
  refine lv_iconst (v := 0) hx hb dL_many_1 (by decide) ?_
  refine lv_aload_n hx hb dL_many_2 rfl (lv_at hl 0 rfl) ?_
  refine lv_iload_n hx hb dL_many_3 rfl (lv_at hl 1 rfl) ?_
  have cut4 : Cut (xw κ a ++ [(o, .inl (κ.2.1, 1, .inr (.inl (fun _ => 0))))]) (xw κ a) ([(o, .inl (κ.2.1, 1, .inr (.inl (fun _ => 0))))]) := (Cut.one 45 rfl (by decide))
  refine zt_i hG cut4 (zx_V (k := 0) (ci := 7) (n := 1) (As := [.int x0]) (rest := [.int 0, .ref o]) hC hG hE hT cut4 (z_180_many l hst D κ E0 H.size a x0 ⟨by omega, by omega⟩) rfl rfl w1058 w2 w1061 w1059 w1060 (by decide +kernel) ⟨Nat.le_of_ble_eq_true rfl, Nat.le_of_ble_eq_true rfl⟩ rfl hl.1 rfl (Nat.le_of_ble_eq_true rfl) dL_many_4 ⟨Nat.le_of_ble_eq_true rfl, Nat.le_of_ble_eq_true rfl⟩) (fun ce q9 H locs hG hz1 hz2 hz3 => ?_)
  refine vx_catch (own := RL) (name := "java/lang/IllegalArgumentException") (E := "java/lang/IllegalArgumentException") hC.2.2.2.1 [] ⟨0, 9, 12, 13⟩ [] htab (fun z hz => by simp at hz) (by decide) (by decide) (hC.2.2.2.2 _ w145) (va_Nw.use rfl (hT.1 ("java/lang/IllegalArgumentException", "java/lang/IllegalArgumentException") (by decide))) hz1 hz2 hz3 ?_
  refine lv_astore_n (lv' := [(3, .ref q9), (0, .ref (a 0)), (1, .int x0), (2, .ref o)]) hx hb dL_many_12 rfl hl (by decide) rfl (fun ls hl => ?_)
  refine lv_iconst (v := 1) hx hb dL_many_13 (by decide) ?_
  exact ze_i (qs := fun _ => 0) hC hG rfl rfl hr rfl hk (Nat.le_of_ble_eq_true rfl) (Nat.le_of_ble_eq_true rfl) dL_many_14
set_option maxHeartbeats 4000000 in
set_option maxRecDepth 100000 in
theorem z_182_isIn (l : Launch) (hst : l.stackTraces = false) (D : va_G) (κ : K4) (E0 : Nat) (sz : Nat) (b : Nat → Nat) (x0 : Int32) (k_x0 : 6 ≤ x0.toInt ∧ x0.toInt ≤ 2147483647) : NM l yX14_isIn cX14_isIn 3 (some .boolean) 0 0 0 0 E0 D κ (mw κ b E0 0) sz [.int x0, .int 0, .int 5] (QI D κ (mw κ b E0 0) sz 0 (fun qs : W1 => mw κ b E0 0)) := by
  refine NM.of (by decide +kernel) (Nat.le_of_ble_eq_true rfl) ?_
  intro p e s m below meth c ls hC hr hk hin hsz hE hT H locs hG hl
  have hx := hC.1
  have hb := hC.2.1
  have hl : lv_has ls 3 [(0, .int x0), (1, .int 0), (2, .int 5)] := hl
  refine lv_iload_n hx hb dX14_isIn_0 rfl (lv_at hl 0 rfl) ?_
  refine lv_iload_n hx hb dX14_isIn_1 rfl (lv_at hl 1 rfl) ?_
  refine lv_icmp_lt (tgt := 14) hx hb dX14_isIn_2 (by decide) (fun h2 => absurd h2 (mt Int32.lt_iff_toInt_lt.mp (by have e1 : (0 : Int32).toInt = 0 := (by decide); omega))) (fun _ => ?_)
  refine lv_iload_n hx hb dX14_isIn_5 rfl (lv_at hl 0 rfl) ?_
  refine lv_iload_n hx hb dX14_isIn_6 rfl (lv_at hl 2 rfl) ?_
  refine lv_icmp_gt (tgt := 14) hx hb dX14_isIn_7 (by decide) (fun _ => ?_) (fun h7 => absurd (Int32.lt_iff_toInt_lt.mpr (by have e0 : (5 : Int32).toInt = 5 := (by decide); omega)) h7)
  refine lv_iconst (v := 0) hx hb dX14_isIn_14 (by decide) ?_
  exact ze_i (qs := fun _ => 0) hC hG rfl rfl hr rfl hk (Nat.le_of_ble_eq_true rfl) (Nat.le_of_ble_eq_true rfl) dX14_isIn_15
set_option maxHeartbeats 4000000 in
set_option maxRecDepth 100000 in
theorem z_183_many (l : Launch) (hst : l.stackTraces = false) (D : va_G) (κ : K4) (E0 : Nat) (sz : Nat) (b : Nat → Nat) (x0 : Int32) (k_x0 : 6 ≤ x0.toInt ∧ x0.toInt ≤ 2147483647) : NM l yX14_many cX14_many 2 (some .int) 2 44 0 0 E0 D κ (mw κ b E0 0) sz [.ref (b 0), .int x0] (QI D κ (mw κ b E0 0) sz 0 (fun qs : W1 => mw κ b E0 1)) := by
  refine NM.of (by decide +kernel) (Nat.le_of_ble_eq_true rfl) ?_
  intro p e s m below meth c ls hC hr hk hin hsz hE hT H locs hG hl
  have hx := hC.1
  have hb := hC.2.1
  have hl : lv_has ls 2 [(0, .ref (b 0)), (1, .int x0)] := hl
  refine lv_aload_n hx hb dX14_many_0 rfl (lv_at hl 0 rfl) ?_
  refine lv_iload_n hx hb dX14_many_1 rfl (lv_at hl 1 rfl) ?_
  refine lv_iconst (v := 0) hx hb dX14_many_2 (by decide) ?_
  refine lv_iconst (v := 5) hx hb dX14_many_3 (by decide) ?_
  have cut4 : Cut (mw κ b E0 0) (mw κ b E0 0) ([]) := (Cut.all 9 rfl (by decide))
  refine zc_i hG cut4 (zr_S (n := 3) (As := [.int x0, .int 0, .int 5]) (rest := [.ref (b 0)]) hC hG hE hT cut4 (z_182_isIn l hst D κ E0 H.size b x0 ⟨by omega, by omega⟩) w167 w5 w169 w168 (by decide +kernel) ⟨Nat.le_of_ble_eq_true rfl, Nat.le_of_ble_eq_true rfl⟩ rfl hl.1 rfl (Nat.le_of_ble_eq_true rfl) dX14_many_4 ⟨Nat.le_of_ble_eq_true rfl, Nat.le_of_ble_eq_true rfl⟩) (fun z1 H locs hG => ?_)
  have hG : BW D κ (mw κ b E0 0) _ s H locs := hG
  refine lv_if_ne (tgt := 14) hx hb dX14_many_7 (by decide) (fun h7 => absurd (by decide) h7) (fun _ => ?_)
  refine lv_iconst (v := 1) hx hb dX14_many_10 (by decide) ?_
  refine lv_goto (tgt := 15) hx hb dX14_many_11 (by decide) ?_
  refine lv_iconst (v := 1) hx hb dX14_many_15 (by decide) ?_
  have cut16 : Cut (mw κ b E0 0) (mw κ b E0 0) ([]) := (Cut.all 9 rfl (by decide))
  refine zc_i hG cut16 (zr_V (k := 0) (ci := 9) (n := 2) (As := [.int 1, .int 1]) (rest := []) hC hG hE hT cut16 (z_4_start l hst D κ E0 H.size b) rfl rfl w170 w5 w173 w171 w172 (by decide +kernel) ⟨Nat.le_of_ble_eq_true rfl, Nat.le_of_ble_eq_true rfl⟩ rfl hl.1 rfl (Nat.le_of_ble_eq_true rfl) dX14_many_16 ⟨Nat.le_of_ble_eq_true rfl, Nat.le_of_ble_eq_true rfl⟩) (fun z2 H locs hG => ?_)
  have hG : BW D κ (mw κ b E0 1) _ s H locs := hG
  refine lv_if_eq (tgt := 26) hx hb dX14_many_19 (by decide) (fun h19 => absurd h19 (by decide)) (fun _ => ?_)
  refine lv_iconst (v := 0) hx hb dX14_many_22 (by decide) ?_
  refine lv_goto (tgt := 31) hx hb dX14_many_23 (by decide) ?_
  exact ze_i (qs := fun _ => 0) hC hG rfl rfl hr rfl hk (Nat.le_of_ble_eq_true rfl) (Nat.le_of_ble_eq_true rfl) dX14_many_31
theorem dX7_many_40 : decode cX7_many 40 = .ok (.aload_n 0, 1) := by decide +kernel
theorem dX7_many_41 : decode cX7_many 41 = .ok (.getfield 12, 3) := by decide +kernel
theorem dX7_many_44 : decode cX7_many 44 = .ok (.getfield 93, 3) := by decide +kernel
theorem dX7_many_47 : decode cX7_many 47 = .ok (.ireturn, 1) := by decide +kernel
set_option maxHeartbeats 4000000 in
set_option maxRecDepth 100000 in
theorem z_184_many (l : Launch) (hst : l.stackTraces = false) (D : va_G) (κ : K4) (E0 : Nat) (sz : Nat) (a : Nat → Nat) : NM l yX7_many cX7_many 2 (some .int) 0 0 0 0 E0 D κ (xw κ a) sz [.ref (a 0), .int 0] (QI D κ (xw κ a) sz 0 (fun qs : W1 => xw κ a)) := by
  refine NM.of (by decide +kernel) (Nat.le_of_ble_eq_true rfl) ?_
  intro p e s m below meth c ls hC hr hk hin hsz hE hT H locs hG hl
  have hx := hC.1
  have hb := hC.2.1
  have hl : lv_has ls 2 [(0, .ref (a 0)), (1, .int 0)] := hl
  refine lv_iload_n hx hb dX7_many_0 rfl (lv_at hl 1 rfl) ?_
  refine lv_tableIn (off := 39) (tgt := 40) hx hb dX7_many_1 (by decide) (by decide) (by decide) (by decide) ?_
  refine lv_aload_n hx hb dX7_many_40 rfl (lv_at hl 0 rfl) ?_
  refine bw_get (C := RX7) (T := TX7) (N := 10) (ci := 7) (v := .ref (a 1)) 0 (by decide) 0 hC hG iwX7 (xw_0 κ a) rfl w16 rfl rfl dX7_many_41 ?_
  refine bw_get (C := RX0) (T := TX0) (N := 6) (ci := 0) (v := .int 0) 5 (by decide) 1 hC hG iwX0 (xw_1 κ a) rfl w211 rfl rfl dX7_many_44 ?_
  exact ze_i (qs := fun _ => 0) hC hG rfl rfl hr rfl hk (Nat.le_of_ble_eq_true rfl) (Nat.le_of_ble_eq_true rfl) dX7_many_47
theorem dL_many_15 : decode cL_many 15 = .ok (.iconst 0, 1) := by decide +kernel
theorem dL_many_16 : decode cL_many 16 = .ok (.ireturn, 1) := by decide +kernel
theorem dL_many_7 : decode cL_many 7 = .ok (.i2l, 1) := by decide +kernel
theorem dL_many_8 : decode cL_many 8 = .ok (.lastore, 1) := by decide +kernel
theorem dL_many_9 : decode cL_many 9 = .ok (.goto 6, 3) := by decide +kernel
set_option maxHeartbeats 4000000 in
set_option maxRecDepth 100000 in
theorem z_185_many (l : Launch) (hst : l.stackTraces = false) (D : va_G) (κ : K4) (E0 : Nat) (sz : Nat) (a : Nat → Nat) (o : Nat) : NH l yL_many cL_many 4 (some .int) [(0, 9, 12, 13)] 1 21 0 0 E0 D κ (xw κ a ++ [(o, .inl (κ.2.1, 1, .inr (.inl (fun _ => 0))))]) sz [.ref (a 0), .int 0, .ref o] (QI D κ (xw κ a ++ [(o, .inl (κ.2.1, 1, .inr (.inl (fun _ => 0))))]) sz 0 (fun qs : W1 => [(o, .inl (κ.2.1, 1, .inr (.inl (va_up (fun _ => 0) ((0 : Int32).toNatClampNeg) 0))))])) := by
  refine NH.of (by decide +kernel) (Nat.le_of_ble_eq_true rfl) ?_
  intro p e s m below meth c ls hC hr hk htab hsz hE hT H locs hG hl
  have hx := hC.1
  have hb := hC.2.1
  have hl : lv_has ls 4 [(0, .ref (a 0)), (1, .int 0), (2, .ref o)] := hl
  refine lv_aload_n hx hb dL_many_0 rfl (lv_at hl 2 rfl) ?_
  refine lv_iconst (v := 0) hx hb dL_many_1 (by decide) ?_
  refine lv_aload_n hx hb dL_many_2 rfl (lv_at hl 0 rfl) ?_
  refine lv_iload_n hx hb dL_many_3 rfl (lv_at hl 1 rfl) ?_
  have cut4 : Cut (xw κ a ++ [(o, .inl (κ.2.1, 1, .inr (.inl (fun _ => 0))))]) (xw κ a) ([(o, .inl (κ.2.1, 1, .inr (.inl (fun _ => 0))))]) := (Cut.one 45 rfl (by decide))
  refine zc_i hG cut4 (zr_V (k := 0) (ci := 7) (n := 1) (As := [.int 0]) (rest := [.int 0, .ref o]) hC hG hE hT cut4 (z_184_many l hst D κ E0 H.size a) rfl rfl w1058 w2 w1061 w1059 w1060 (by decide +kernel) ⟨Nat.le_of_ble_eq_true rfl, Nat.le_of_ble_eq_true rfl⟩ rfl hl.1 rfl (Nat.le_of_ble_eq_true rfl) dL_many_4 ⟨Nat.le_of_ble_eq_true rfl, Nat.le_of_ble_eq_true rfl⟩) (fun z1 H locs hG => ?_)
  have hG : BW D κ (([(o, .inl (κ.2.1, 1, .inr (.inl (fun _ => 0))))]) ++ (xw κ a)) _ s H locs := hG
  refine lv_i2l (v := 0) hx hb dL_many_7 (by decide) ?_
  refine zs_lst 0 hC hG rfl (vp_box (by have e0 : (0 : Int32).toInt = 0 := (by decide); omega) (by have e0 : (0 : Int32).toInt = 0 := (by decide); omega)) dL_many_8 (fun H locs hG => ?_)
  have hG : BW D κ ((([(o, .inl (κ.2.1, 1, .inr (.inl (fun _ => 0))))]) ++ (xw κ a) : va_W).set 0 (o, .inl (κ.2.1, 1, .inr (.inl (va_up (fun _ => 0) ((0 : Int32).toNatClampNeg) 0))))) _ s H locs := hG
  refine lv_goto (tgt := 15) hx hb dL_many_9 (by decide) ?_
  refine lv_iconst (v := 0) hx hb dL_many_15 (by decide) ?_
  have hG := hG.at (ws' := [(o, .inl (κ.2.1, 1, .inr (.inl (va_up (fun _ => 0) ((0 : Int32).toNatClampNeg) 0))))]) [0] (by decide) rfl
  exact ze_i (qs := fun _ => 0) hC hG rfl rfl hr rfl hk (Nat.le_of_ble_eq_true rfl) (Nat.le_of_ble_eq_true rfl) dL_many_16
set_option maxHeartbeats 4000000 in
set_option maxRecDepth 100000 in
theorem z_186_isIn (l : Launch) (hst : l.stackTraces = false) (D : va_G) (κ : K4) (E0 : Nat) (sz : Nat) (b : Nat → Nat) : NM l yX14_isIn cX14_isIn 3 (some .boolean) 0 0 0 0 E0 D κ (mw κ b E0 0) sz [.int 0, .int 0, .int 5] (QI D κ (mw κ b E0 0) sz 1 (fun qs : W1 => mw κ b E0 0)) := by
  refine NM.of (by decide +kernel) (Nat.le_of_ble_eq_true rfl) ?_
  intro p e s m below meth c ls hC hr hk hin hsz hE hT H locs hG hl
  have hx := hC.1
  have hb := hC.2.1
  have hl : lv_has ls 3 [(0, .int 0), (1, .int 0), (2, .int 5)] := hl
  refine lv_iload_n hx hb dX14_isIn_0 rfl (lv_at hl 0 rfl) ?_
  refine lv_iload_n hx hb dX14_isIn_1 rfl (lv_at hl 1 rfl) ?_
  refine lv_icmp_lt (tgt := 14) hx hb dX14_isIn_2 (by decide) (fun h2 => absurd h2 (by decide)) (fun _ => ?_)
  refine lv_iload_n hx hb dX14_isIn_5 rfl (lv_at hl 0 rfl) ?_
  refine lv_iload_n hx hb dX14_isIn_6 rfl (lv_at hl 2 rfl) ?_
  refine lv_icmp_gt (tgt := 14) hx hb dX14_isIn_7 (by decide) (fun h7 => absurd h7 (by decide)) (fun _ => ?_)
  refine lv_iconst (v := 1) hx hb dX14_isIn_10 (by decide) ?_
  refine lv_goto (tgt := 15) hx hb dX14_isIn_11 (by decide) ?_
  exact ze_i (qs := fun _ => 0) hC hG rfl rfl hr rfl hk (Nat.le_of_ble_eq_true rfl) (Nat.le_of_ble_eq_true rfl) dX14_isIn_15
theorem dX14_count_0 : decode cX14_count 0 = .ok (.iconst 0, 1) := by decide +kernel
theorem dX14_count_1 : decode cX14_count 1 = .ok (.istore_n 2, 1) := by decide +kernel
theorem dX14_count_10 : decode cX14_count 10 = .ok (.getfield 20, 3) := by decide +kernel
theorem dX14_count_102 : decode cX14_count 102 = .ok (.bipush 6, 2) := by decide +kernel
theorem dX14_count_104 : decode cX14_count 104 = .ok (.newarray .int, 2) := by decide +kernel
theorem dX14_count_106 : decode cX14_count 106 = .ok (.dup, 1) := by decide +kernel
theorem dX14_count_107 : decode cX14_count 107 = .ok (.iconst 0, 1) := by decide +kernel
theorem dX14_count_108 : decode cX14_count 108 = .ok (.aload_n 0, 1) := by decide +kernel
theorem dX14_count_109 : decode cX14_count 109 = .ok (.getfield 16, 3) := by decide +kernel
theorem dX14_count_112 : decode cX14_count 112 = .ok (.invokevirtual 49, 3) := by decide +kernel
theorem dX14_count_115 : decode cX14_count 115 = .ok (.iastore, 1) := by decide +kernel
theorem dX14_count_116 : decode cX14_count 116 = .ok (.dup, 1) := by decide +kernel
theorem dX14_count_117 : decode cX14_count 117 = .ok (.iconst 1, 1) := by decide +kernel
theorem dX14_count_118 : decode cX14_count 118 = .ok (.iload_n 2, 1) := by decide +kernel
theorem dX14_count_119 : decode cX14_count 119 = .ok (.iastore, 1) := by decide +kernel
theorem dX14_count_120 : decode cX14_count 120 = .ok (.dup, 1) := by decide +kernel
theorem dX14_count_121 : decode cX14_count 121 = .ok (.iconst 2, 1) := by decide +kernel
theorem dX14_count_122 : decode cX14_count 122 = .ok (.iload_n 3, 1) := by decide +kernel
theorem dX14_count_123 : decode cX14_count 123 = .ok (.iastore, 1) := by decide +kernel
theorem dX14_count_124 : decode cX14_count 124 = .ok (.dup, 1) := by decide +kernel
theorem dX14_count_125 : decode cX14_count 125 = .ok (.iconst 3, 1) := by decide +kernel
theorem dX14_count_126 : decode cX14_count 126 = .ok (.aload_n 0, 1) := by decide +kernel
theorem dX14_count_127 : decode cX14_count 127 = .ok (.getfield 26, 3) := by decide +kernel
theorem dX14_count_13 : decode cX14_count 13 = .ok (.invokevirtual 49, 3) := by decide +kernel
theorem dX14_count_130 : decode cX14_count 130 = .ok (.invokevirtual 49, 3) := by decide +kernel
theorem dX14_count_133 : decode cX14_count 133 = .ok (.iastore, 1) := by decide +kernel
theorem dX14_count_134 : decode cX14_count 134 = .ok (.dup, 1) := by decide +kernel
theorem dX14_count_135 : decode cX14_count 135 = .ok (.iconst 4, 1) := by decide +kernel
theorem dX14_count_136 : decode cX14_count 136 = .ok (.aload_n 0, 1) := by decide +kernel
theorem dX14_count_137 : decode cX14_count 137 = .ok (.getfield 143, 3) := by decide +kernel
theorem dX14_count_140 : decode cX14_count 140 = .ok (.iastore, 1) := by decide +kernel
theorem dX14_count_141 : decode cX14_count 141 = .ok (.dup, 1) := by decide +kernel
theorem dX14_count_142 : decode cX14_count 142 = .ok (.iconst 5, 1) := by decide +kernel
theorem dX14_count_143 : decode cX14_count 143 = .ok (.aload_n 0, 1) := by decide +kernel
theorem dX14_count_144 : decode cX14_count 144 = .ok (.getfield 35, 3) := by decide +kernel
theorem dX14_count_147 : decode cX14_count 147 = .ok (.iastore, 1) := by decide +kernel
theorem dX14_count_148 : decode cX14_count 148 = .ok (.astore 4, 2) := by decide +kernel
theorem dX14_count_150 : decode cX14_count 150 = .ok (.aload 4, 2) := by decide +kernel
theorem dX14_count_152 : decode cX14_count 152 = .ok (.iload_n 1, 1) := by decide +kernel
theorem dX14_count_153 : decode cX14_count 153 = .ok (.iaload, 1) := by decide +kernel
theorem dX14_count_154 : decode cX14_count 154 = .ok (.ireturn, 1) := by decide +kernel
theorem dX14_count_16 : decode cX14_count 16 = .ok (.if_icmp .ge 35, 3) := by decide +kernel
theorem dX14_count_2 : decode cX14_count 2 = .ok (.iconst 0, 1) := by decide +kernel
theorem dX14_count_3 : decode cX14_count 3 = .ok (.istore_n 3, 1) := by decide +kernel
theorem dX14_count_4 : decode cX14_count 4 = .ok (.iconst 0, 1) := by decide +kernel
theorem dX14_count_5 : decode cX14_count 5 = .ok (.istore 4, 2) := by decide +kernel
theorem dX14_count_51 : decode cX14_count 51 = .ok (.iconst 0, 1) := by decide +kernel
theorem dX14_count_52 : decode cX14_count 52 = .ok (.istore 4, 2) := by decide +kernel
theorem dX14_count_54 : decode cX14_count 54 = .ok (.iload 4, 2) := by decide +kernel
theorem dX14_count_56 : decode cX14_count 56 = .ok (.aload_n 0, 1) := by decide +kernel
theorem dX14_count_57 : decode cX14_count 57 = .ok (.getfield 23, 3) := by decide +kernel
theorem dX14_count_60 : decode cX14_count 60 = .ok (.invokevirtual 49, 3) := by decide +kernel
theorem dX14_count_63 : decode cX14_count 63 = .ok (.if_icmp .ge 39, 3) := by decide +kernel
theorem dX14_count_7 : decode cX14_count 7 = .ok (.iload 4, 2) := by decide +kernel
theorem dX14_count_9 : decode cX14_count 9 = .ok (.aload_n 0, 1) := by decide +kernel
set_option maxHeartbeats 4000000 in
set_option maxRecDepth 100000 in
theorem z_187_count (l : Launch) (hst : l.stackTraces = false) (D : va_G) (κ : K4) (E0 : Nat) (sz : Nat) (b : Nat → Nat) : NM l yX14_count cX14_count 5 (some .int) 1 20 1 6 E0 D κ (mw κ b E0 0) sz [.ref (b 0), .int 0] (QI D κ (mw κ b E0 0) sz 0 (fun qs : W1 => mw κ b E0 0)) := by
  refine NM.of (by decide +kernel) (Nat.le_of_ble_eq_true rfl) ?_
  intro p e s m below meth c ls hC hr hk hin hsz hE hT H locs hG hl
  have hx := hC.1
  have hb := hC.2.1
  have hl : lv_has ls 5 [(0, .ref (b 0)), (1, .int 0)] := hl
  refine lv_iconst (v := 0) hx hb dX14_count_0 (by decide) ?_
  refine lv_istore_n (lv' := [(2, .int 0), (0, .ref (b 0)), (1, .int 0)]) hx hb dX14_count_1 rfl hl (by decide) rfl (fun ls hl => ?_)
  refine lv_iconst (v := 0) hx hb dX14_count_2 (by decide) ?_
  refine lv_istore_n (lv' := [(3, .int 0), (2, .int 0), (0, .ref (b 0)), (1, .int 0)]) hx hb dX14_count_3 rfl hl (by decide) rfl (fun ls hl => ?_)
  refine lv_iconst (v := 0) hx hb dX14_count_4 (by decide) ?_
  refine lv_istore (lv' := [(4, .int 0), (3, .int 0), (2, .int 0), (0, .ref (b 0)), (1, .int 0)]) hx hb dX14_count_5 hl (by decide) rfl (fun ls hl => ?_)
  refine lv_iload hx hb dX14_count_7 (lv_at hl 0 rfl) ?_
  refine lv_aload_n hx hb dX14_count_9 rfl (lv_at hl 3 rfl) ?_
  refine bw_get (C := RX14) (T := TX14) (N := 15) (ci := 9) (v := .ref (b 3)) 3 (by decide) 0 hC hG iwX14 rfl rfl w119 rfl rfl dX14_count_10 ?_
  have cut13 : Cut (mw κ b E0 0) (mw κ b E0 0) ([]) := (Cut.all 9 rfl (by decide))
  refine zc_i hG cut13 (zr_V (k := 3) (ci := 10) (n := 0) (As := []) (rest := [.int 0]) hC hG hE hT cut13 (z_74_size l hst D κ E0 H.size (b 3) (b 0) (b 1) (b 2) (b 4) (b 5) (b 6) (b 7) (b 8)) rfl rfl w179 w117 w182 w180 w181 (by decide +kernel) ⟨Nat.le_of_ble_eq_true rfl, Nat.le_of_ble_eq_true rfl⟩ rfl hl.1 rfl (Nat.le_of_ble_eq_true rfl) dX14_count_13 ⟨Nat.le_of_ble_eq_true rfl, Nat.le_of_ble_eq_true rfl⟩) (fun z1 H locs hG => ?_)
  have hG : BW D κ (mw κ b E0 0) _ s H locs := hG
  refine lv_icmp_ge (tgt := 51) hx hb dX14_count_16 (by decide) (fun _ => ?_) (fun h16 => absurd (by decide) h16)
  refine lv_iconst (v := 0) hx hb dX14_count_51 (by decide) ?_
  refine lv_istore (lv' := [(4, .int 0), (3, .int 0), (2, .int 0), (0, .ref (b 0)), (1, .int 0)]) hx hb dX14_count_52 hl (by decide) rfl (fun ls hl => ?_)
  refine lv_iload hx hb dX14_count_54 (lv_at hl 0 rfl) ?_
  refine lv_aload_n hx hb dX14_count_56 rfl (lv_at hl 3 rfl) ?_
  refine bw_get (C := RX14) (T := TX14) (N := 15) (ci := 9) (v := .ref (b 4)) 4 (by decide) 0 hC hG iwX14 rfl rfl w120 rfl rfl dX14_count_57 ?_
  have cut60 : Cut (mw κ b E0 0) (mw κ b E0 0) ([]) := (Cut.all 9 rfl (by decide))
  refine zc_i hG cut60 (zr_V (k := 4) (ci := 10) (n := 0) (As := []) (rest := [.int 0]) hC hG hE hT cut60 (z_90_size l hst D κ E0 H.size (b 4) (b 0) (b 1) (b 2) (b 3) (b 5) (b 6) (b 7) (b 8)) rfl rfl w179 w117 w182 w180 w181 (by decide +kernel) ⟨Nat.le_of_ble_eq_true rfl, Nat.le_of_ble_eq_true rfl⟩ rfl hl.1 rfl (Nat.le_of_ble_eq_true rfl) dX14_count_60 ⟨Nat.le_of_ble_eq_true rfl, Nat.le_of_ble_eq_true rfl⟩) (fun z2 H locs hG => ?_)
  have hG : BW D κ (mw κ b E0 0) _ s H locs := hG
  refine lv_icmp_ge (tgt := 102) hx hb dX14_count_63 (by decide) (fun _ => ?_) (fun h63 => absurd (by decide) h63)
  refine lv_bipush (v := 6) hx hb dX14_count_102 (by decide) ?_
  refine W.eq (g2 := F0 m 104 ls [.int (nI 6)]) rfl ?_
  refine bw_nI hC hG (by decide) w47 (Nat.le_of_ble_eq_true rfl) (Nat.le_of_ble_eq_true rfl) dX14_count_104 (fun q1 H hG => ?_)
  have hG : BW D κ ((mw κ b E0 0) ++ [(q1, .inl (κ.1, 6, .inl (fun _ => 0)))]) _ s H locs := hG
  refine lv_dup hx hb dX14_count_106 rfl ?_
  refine lv_iconst (v := 0) hx hb dX14_count_107 (by decide) ?_
  refine lv_aload_n hx hb dX14_count_108 rfl (lv_at hl 3 rfl) ?_
  refine bw_get (C := RX14) (T := TX14) (N := 15) (ci := 9) (v := .ref (b 2)) 2 (by decide) 0 hC hG iwX14 rfl rfl w118 rfl rfl dX14_count_109 ?_
  have cut112 : Cut ((mw κ b E0 0) ++ [(q1, .inl (κ.1, 6, .inl (fun _ => 0)))]) (mw κ b E0 0) ([(q1, .inl (κ.1, 6, .inl (fun _ => 0)))]) := (Cut.idx [0, 1, 2, 3, 4, 5, 6, 7, 8] [9] rfl rfl (by decide) (by decide) (by decide))
  refine zc_i hG cut112 (zr_V (k := 2) (ci := 10) (n := 0) (As := []) (rest := [.int 0, .ref q1, .ref q1]) hC hG hE hT cut112 (z_26_size l hst D κ E0 H.size (b 2) (b 0) (b 1) (b 3) (b 4) (b 5) (b 6) (b 7) (b 8)) rfl rfl w179 w117 w182 w180 w181 (by decide +kernel) ⟨Nat.le_of_ble_eq_true rfl, Nat.le_of_ble_eq_true rfl⟩ rfl hl.1 rfl (Nat.le_of_ble_eq_true rfl) dX14_count_112 ⟨Nat.le_of_ble_eq_true rfl, Nat.le_of_ble_eq_true rfl⟩) (fun z3 H locs hG => ?_)
  have hG : BW D κ (([(q1, .inl (κ.1, 6, .inl (fun _ => 0)))]) ++ (mw κ b E0 0)) _ s H locs := hG
  refine zs_ast 0 hC hG rfl (vp_box (by have e0 : (0 : Int32).toInt = 0 := (by decide); omega) (by have e0 : (0 : Int32).toInt = 0 := (by decide); omega)) dX14_count_115 (fun H locs hG => ?_)
  have hG : BW D κ ((([(q1, .inl (κ.1, 6, .inl (fun _ => 0)))]) ++ (mw κ b E0 0) : va_W).set 0 (q1, .inl (κ.1, 6, .inl (va_up (fun _ => 0) ((0 : Int32).toNatClampNeg) 0)))) _ s H locs := hG
  refine lv_dup hx hb dX14_count_116 rfl ?_
  refine lv_iconst (v := 1) hx hb dX14_count_117 (by decide) ?_
  refine lv_iload_n hx hb dX14_count_118 rfl (lv_at hl 2 rfl) ?_
  refine zs_ast 0 hC hG rfl (vp_box (by have e0 : (1 : Int32).toInt = 1 := (by decide); omega) (by have e0 : (1 : Int32).toInt = 1 := (by decide); omega)) dX14_count_119 (fun H locs hG => ?_)
  have hG : BW D κ (((([(q1, .inl (κ.1, 6, .inl (fun _ => 0)))]) ++ (mw κ b E0 0) : va_W).set 0 (q1, .inl (κ.1, 6, .inl (va_up (fun _ => 0) ((0 : Int32).toNatClampNeg) 0))) : va_W).set 0 (q1, .inl (κ.1, 6, .inl (va_up (va_up (fun _ => 0) ((0 : Int32).toNatClampNeg) 0) ((1 : Int32).toNatClampNeg) 0)))) _ s H locs := hG
  refine lv_dup hx hb dX14_count_120 rfl ?_
  refine lv_iconst (v := 2) hx hb dX14_count_121 (by decide) ?_
  refine lv_iload_n hx hb dX14_count_122 rfl (lv_at hl 1 rfl) ?_
  refine zs_ast 0 hC hG rfl (vp_box (by have e0 : (2 : Int32).toInt = 2 := (by decide); omega) (by have e0 : (2 : Int32).toInt = 2 := (by decide); omega)) dX14_count_123 (fun H locs hG => ?_)
  have hG : BW D κ ((((([(q1, .inl (κ.1, 6, .inl (fun _ => 0)))]) ++ (mw κ b E0 0) : va_W).set 0 (q1, .inl (κ.1, 6, .inl (va_up (fun _ => 0) ((0 : Int32).toNatClampNeg) 0))) : va_W).set 0 (q1, .inl (κ.1, 6, .inl (va_up (va_up (fun _ => 0) ((0 : Int32).toNatClampNeg) 0) ((1 : Int32).toNatClampNeg) 0))) : va_W).set 0 (q1, .inl (κ.1, 6, .inl (va_up (va_up (va_up (fun _ => 0) ((0 : Int32).toNatClampNeg) 0) ((1 : Int32).toNatClampNeg) 0) ((2 : Int32).toNatClampNeg) 0)))) _ s H locs := hG
  refine lv_dup hx hb dX14_count_124 rfl ?_
  refine lv_iconst (v := 3) hx hb dX14_count_125 (by decide) ?_
  refine lv_aload_n hx hb dX14_count_126 rfl (lv_at hl 3 rfl) ?_
  refine bw_get (C := RX14) (T := TX14) (N := 15) (ci := 9) (v := .ref (b 5)) 5 (by decide) 1 hC hG iwX14 rfl rfl w121 rfl rfl dX14_count_127 ?_
  have cut130 : Cut ((((([(q1, .inl (κ.1, 6, .inl (fun _ => 0)))]) ++ (mw κ b E0 0) : va_W).set 0 (q1, .inl (κ.1, 6, .inl (va_up (fun _ => 0) ((0 : Int32).toNatClampNeg) 0))) : va_W).set 0 (q1, .inl (κ.1, 6, .inl (va_up (va_up (fun _ => 0) ((0 : Int32).toNatClampNeg) 0) ((1 : Int32).toNatClampNeg) 0))) : va_W).set 0 (q1, .inl (κ.1, 6, .inl (va_up (va_up (va_up (fun _ => 0) ((0 : Int32).toNatClampNeg) 0) ((1 : Int32).toNatClampNeg) 0) ((2 : Int32).toNatClampNeg) 0)))) (mw κ b E0 0) ([(q1, .inl (κ.1, 6, .inl (va_up (va_up (va_up (fun _ => 0) ((0 : Int32).toNatClampNeg) 0) ((1 : Int32).toNatClampNeg) 0) ((2 : Int32).toNatClampNeg) 0)))]) := (Cut.idx [1, 2, 3, 4, 5, 6, 7, 8, 9] [0] rfl rfl (by decide) (by decide) (by decide))
  refine zc_i hG cut130 (zr_V (k := 6) (ci := 10) (n := 0) (As := []) (rest := [.int 3, .ref q1, .ref q1]) hC hG hE hT cut130 (z_110_size l hst D κ E0 H.size (b 5) (b 0) (b 1) (b 2) (b 3) (b 4) (b 6) (b 7) (b 8)) rfl rfl w179 w117 w182 w180 w181 (by decide +kernel) ⟨Nat.le_of_ble_eq_true rfl, Nat.le_of_ble_eq_true rfl⟩ rfl hl.1 rfl (Nat.le_of_ble_eq_true rfl) dX14_count_130 ⟨Nat.le_of_ble_eq_true rfl, Nat.le_of_ble_eq_true rfl⟩) (fun z4 H locs hG => ?_)
  have hG : BW D κ (([(q1, .inl (κ.1, 6, .inl (va_up (va_up (va_up (fun _ => 0) ((0 : Int32).toNatClampNeg) 0) ((1 : Int32).toNatClampNeg) 0) ((2 : Int32).toNatClampNeg) 0)))]) ++ (mw κ b E0 0)) _ s H locs := hG
  refine zs_ast 0 hC hG rfl (vp_box (by have e0 : (3 : Int32).toInt = 3 := (by decide); omega) (by have e0 : (3 : Int32).toInt = 3 := (by decide); omega)) dX14_count_133 (fun H locs hG => ?_)
  have hG : BW D κ ((([(q1, .inl (κ.1, 6, .inl (va_up (va_up (va_up (fun _ => 0) ((0 : Int32).toNatClampNeg) 0) ((1 : Int32).toNatClampNeg) 0) ((2 : Int32).toNatClampNeg) 0)))]) ++ (mw κ b E0 0) : va_W).set 0 (q1, .inl (κ.1, 6, .inl (va_up (va_up (va_up (va_up (fun _ => 0) ((0 : Int32).toNatClampNeg) 0) ((1 : Int32).toNatClampNeg) 0) ((2 : Int32).toNatClampNeg) 0) ((3 : Int32).toNatClampNeg) 0)))) _ s H locs := hG
  refine lv_dup hx hb dX14_count_134 rfl ?_
  refine lv_iconst (v := 4) hx hb dX14_count_135 (by decide) ?_
  refine lv_aload_n hx hb dX14_count_136 rfl (lv_at hl 3 rfl) ?_
  refine bw_get (C := RX14) (T := TX14) (N := 15) (ci := 9) (v := .int 0) 9 (by decide) 1 hC hG iwX14 rfl rfl w332 rfl rfl dX14_count_137 ?_
  refine zs_ast 0 hC hG rfl (vp_box (by have e0 : (4 : Int32).toInt = 4 := (by decide); omega) (by have e0 : (4 : Int32).toInt = 4 := (by decide); omega)) dX14_count_140 (fun H locs hG => ?_)
  have hG : BW D κ (((([(q1, .inl (κ.1, 6, .inl (va_up (va_up (va_up (fun _ => 0) ((0 : Int32).toNatClampNeg) 0) ((1 : Int32).toNatClampNeg) 0) ((2 : Int32).toNatClampNeg) 0)))]) ++ (mw κ b E0 0) : va_W).set 0 (q1, .inl (κ.1, 6, .inl (va_up (va_up (va_up (va_up (fun _ => 0) ((0 : Int32).toNatClampNeg) 0) ((1 : Int32).toNatClampNeg) 0) ((2 : Int32).toNatClampNeg) 0) ((3 : Int32).toNatClampNeg) 0))) : va_W).set 0 (q1, .inl (κ.1, 6, .inl (va_up (va_up (va_up (va_up (va_up (fun _ => 0) ((0 : Int32).toNatClampNeg) 0) ((1 : Int32).toNatClampNeg) 0) ((2 : Int32).toNatClampNeg) 0) ((3 : Int32).toNatClampNeg) 0) ((4 : Int32).toNatClampNeg) 0)))) _ s H locs := hG
  refine lv_dup hx hb dX14_count_141 rfl ?_
  refine lv_iconst (v := 5) hx hb dX14_count_142 (by decide) ?_
  refine lv_aload_n hx hb dX14_count_143 rfl (lv_at hl 3 rfl) ?_
  refine bw_get (C := RX14) (T := TX14) (N := 15) (ci := 9) (v := .int (-1)) 10 (by decide) 1 hC hG iwX14 rfl rfl w124 rfl rfl dX14_count_144 ?_
  refine zs_ast 0 hC hG rfl (vp_box (by have e0 : (5 : Int32).toInt = 5 := (by decide); omega) (by have e0 : (5 : Int32).toInt = 5 := (by decide); omega)) dX14_count_147 (fun H locs hG => ?_)
  have hG : BW D κ ((((([(q1, .inl (κ.1, 6, .inl (va_up (va_up (va_up (fun _ => 0) ((0 : Int32).toNatClampNeg) 0) ((1 : Int32).toNatClampNeg) 0) ((2 : Int32).toNatClampNeg) 0)))]) ++ (mw κ b E0 0) : va_W).set 0 (q1, .inl (κ.1, 6, .inl (va_up (va_up (va_up (va_up (fun _ => 0) ((0 : Int32).toNatClampNeg) 0) ((1 : Int32).toNatClampNeg) 0) ((2 : Int32).toNatClampNeg) 0) ((3 : Int32).toNatClampNeg) 0))) : va_W).set 0 (q1, .inl (κ.1, 6, .inl (va_up (va_up (va_up (va_up (va_up (fun _ => 0) ((0 : Int32).toNatClampNeg) 0) ((1 : Int32).toNatClampNeg) 0) ((2 : Int32).toNatClampNeg) 0) ((3 : Int32).toNatClampNeg) 0) ((4 : Int32).toNatClampNeg) 0))) : va_W).set 0 (q1, .inl (κ.1, 6, .inl (va_up (va_up (va_up (va_up (va_up (va_up (fun _ => 0) ((0 : Int32).toNatClampNeg) 0) ((1 : Int32).toNatClampNeg) 0) ((2 : Int32).toNatClampNeg) 0) ((3 : Int32).toNatClampNeg) 0) ((4 : Int32).toNatClampNeg) 0) ((5 : Int32).toNatClampNeg) (-1))))) _ s H locs := hG
  refine lv_astore (lv' := [(4, .ref q1), (3, .int 0), (2, .int 0), (0, .ref (b 0)), (1, .int 0)]) hx hb dX14_count_148 hl (by decide) rfl (fun ls hl => ?_)
  refine lv_aload hx hb dX14_count_150 (lv_at hl 0 rfl) ?_
  refine lv_iload_n hx hb dX14_count_152 rfl (lv_at hl 4 rfl) ?_
  refine zs_ald 0 (v := 0) hC hG rfl (vp_box (by have e0 : (0 : Int32).toInt = 0 := (by decide); omega) (by have e0 : (0 : Int32).toInt = 0 := (by decide); omega)) rfl dX14_count_153 ?_
  have hG := hG.at (ws' := mw κ b E0 0) [1, 2, 3, 4, 5, 6, 7, 8, 9] (by decide) rfl
  exact ze_i (qs := fun _ => 0) hC hG rfl rfl hr rfl hk (Nat.le_of_ble_eq_true rfl) (Nat.le_of_ble_eq_true rfl) dX14_count_154
theorem dX14_many_14 : decode cX14_many 14 = .ok (.iconst 0, 1) := by decide +kernel
theorem dX14_many_26 : decode cX14_many 26 = .ok (.aload_n 0, 1) := by decide +kernel
theorem dX14_many_27 : decode cX14_many 27 = .ok (.iload_n 1, 1) := by decide +kernel
theorem dX14_many_28 : decode cX14_many 28 = .ok (.invokevirtual 333, 3) := by decide +kernel
set_option maxHeartbeats 4000000 in
set_option maxRecDepth 100000 in
theorem z_188_many (l : Launch) (hst : l.stackTraces = false) (D : va_G) (κ : K4) (E0 : Nat) (sz : Nat) (b : Nat → Nat) : NM l yX14_many cX14_many 2 (some .int) 2 44 1 6 E0 D κ (mw κ b E0 0) sz [.ref (b 0), .int 0] (QI D κ (mw κ b E0 0) sz 0 (fun qs : W1 => mw κ b E0 0)) := by
  refine NM.of (by decide +kernel) (Nat.le_of_ble_eq_true rfl) ?_
  intro p e s m below meth c ls hC hr hk hin hsz hE hT H locs hG hl
  have hx := hC.1
  have hb := hC.2.1
  have hl : lv_has ls 2 [(0, .ref (b 0)), (1, .int 0)] := hl
  refine lv_aload_n hx hb dX14_many_0 rfl (lv_at hl 0 rfl) ?_
  refine lv_iload_n hx hb dX14_many_1 rfl (lv_at hl 1 rfl) ?_
  refine lv_iconst (v := 0) hx hb dX14_many_2 (by decide) ?_
  refine lv_iconst (v := 5) hx hb dX14_many_3 (by decide) ?_
  have cut4 : Cut (mw κ b E0 0) (mw κ b E0 0) ([]) := (Cut.all 9 rfl (by decide))
  refine zc_i hG cut4 (zr_S (n := 3) (As := [.int 0, .int 0, .int 5]) (rest := [.ref (b 0)]) hC hG hE hT cut4 (z_186_isIn l hst D κ E0 H.size b) w167 w5 w169 w168 (by decide +kernel) ⟨Nat.le_of_ble_eq_true rfl, Nat.le_of_ble_eq_true rfl⟩ rfl hl.1 rfl (Nat.le_of_ble_eq_true rfl) dX14_many_4 ⟨Nat.le_of_ble_eq_true rfl, Nat.le_of_ble_eq_true rfl⟩) (fun z1 H locs hG => ?_)
  have hG : BW D κ (mw κ b E0 0) _ s H locs := hG
  refine lv_if_ne (tgt := 14) hx hb dX14_many_7 (by decide) (fun _ => ?_) (fun h7 => absurd h7 (by decide))
  refine lv_iconst (v := 0) hx hb dX14_many_14 (by decide) ?_
  refine lv_iconst (v := 1) hx hb dX14_many_15 (by decide) ?_
  have cut16 : Cut (mw κ b E0 0) (mw κ b E0 0) ([]) := (Cut.all 9 rfl (by decide))
  refine zc_i hG cut16 (zr_V (k := 0) (ci := 9) (n := 2) (As := [.int 0, .int 1]) (rest := []) hC hG hE hT cut16 (z_25_start l hst D κ E0 H.size b) rfl rfl w170 w5 w173 w171 w172 (by decide +kernel) ⟨Nat.le_of_ble_eq_true rfl, Nat.le_of_ble_eq_true rfl⟩ rfl hl.1 rfl (Nat.le_of_ble_eq_true rfl) dX14_many_16 ⟨Nat.le_of_ble_eq_true rfl, Nat.le_of_ble_eq_true rfl⟩) (fun z2 H locs hG => ?_)
  have hG : BW D κ (mw κ b E0 0) _ s H locs := hG
  refine lv_if_eq (tgt := 26) hx hb dX14_many_19 (by decide) (fun _ => ?_) (fun h19 => absurd (by decide) h19)
  refine lv_aload_n hx hb dX14_many_26 rfl (lv_at hl 0 rfl) ?_
  refine lv_iload_n hx hb dX14_many_27 rfl (lv_at hl 1 rfl) ?_
  have cut28 : Cut (mw κ b E0 0) (mw κ b E0 0) ([]) := (Cut.all 9 rfl (by decide))
  refine zc_i hG cut28 (zr_V (k := 0) (ci := 9) (n := 1) (As := [.int 0]) (rest := []) hC hG hE hT cut28 (z_187_count l hst D κ E0 H.size b) rfl rfl w1074 w5 w1077 w1075 w1076 (by decide +kernel) ⟨Nat.le_of_ble_eq_true rfl, Nat.le_of_ble_eq_true rfl⟩ rfl hl.1 rfl (Nat.le_of_ble_eq_true rfl) dX14_many_28 ⟨Nat.le_of_ble_eq_true rfl, Nat.le_of_ble_eq_true rfl⟩) (fun z3 H locs hG => ?_)
  have hG : BW D κ (mw κ b E0 0) _ s H locs := hG
  exact ze_i (qs := fun _ => 0) hC hG rfl rfl hr rfl hk (Nat.le_of_ble_eq_true rfl) (Nat.le_of_ble_eq_true rfl) dX14_many_31
theorem dX3_countStanding_0 : decode cX3_countStanding 0 = .ok (.iconst 0, 1) := by decide +kernel
theorem dX3_countStanding_1 : decode cX3_countStanding 1 = .ok (.istore_n 1, 1) := by decide +kernel
theorem dX3_countStanding_2 : decode cX3_countStanding 2 = .ok (.iconst 0, 1) := by decide +kernel
theorem dX3_countStanding_3 : decode cX3_countStanding 3 = .ok (.istore_n 2, 1) := by decide +kernel
theorem dX3_countStanding_30 : decode cX3_countStanding 30 = .ok (.iload_n 1, 1) := by decide +kernel
theorem dX3_countStanding_31 : decode cX3_countStanding 31 = .ok (.ireturn, 1) := by decide +kernel
theorem dX3_countStanding_4 : decode cX3_countStanding 4 = .ok (.iload_n 2, 1) := by decide +kernel
theorem dX3_countStanding_5 : decode cX3_countStanding 5 = .ok (.aload_n 0, 1) := by decide +kernel
theorem dX3_countStanding_6 : decode cX3_countStanding 6 = .ok (.getfield 31, 3) := by decide +kernel
theorem dX3_countStanding_9 : decode cX3_countStanding 9 = .ok (.if_icmp .ge 21, 3) := by decide +kernel
set_option maxHeartbeats 4000000 in
set_option maxRecDepth 100000 in
theorem z_189_countStanding (l : Launch) (hst : l.stackTraces = false) (D : va_G) (κ : K4) (E0 : Nat) (sz : Nat) (a : Nat → Nat) : NM l yX3_countStanding cX3_countStanding 3 (some .int) 0 0 0 0 E0 D κ (xw κ a) sz [.ref (a 12)] (QI D κ (xw κ a) sz 0 (fun qs : W1 => xw κ a)) := by
  refine NM.of (by decide +kernel) (Nat.le_of_ble_eq_true rfl) ?_
  intro p e s m below meth c ls hC hr hk hin hsz hE hT H locs hG hl
  have hx := hC.1
  have hb := hC.2.1
  have hl : lv_has ls 3 [(0, .ref (a 12))] := hl
  refine lv_iconst (v := 0) hx hb dX3_countStanding_0 (by decide) ?_
  refine lv_istore_n (lv' := [(1, .int 0), (0, .ref (a 12))]) hx hb dX3_countStanding_1 rfl hl (by decide) rfl (fun ls hl => ?_)
  refine lv_iconst (v := 0) hx hb dX3_countStanding_2 (by decide) ?_
  refine lv_istore_n (lv' := [(2, .int 0), (1, .int 0), (0, .ref (a 12))]) hx hb dX3_countStanding_3 rfl hl (by decide) rfl (fun ls hl => ?_)
  refine lv_iload_n hx hb dX3_countStanding_4 rfl (lv_at hl 0 rfl) ?_
  refine lv_aload_n hx hb dX3_countStanding_5 rfl (lv_at hl 2 rfl) ?_
  refine bw_get (C := RX3) (T := TX3) (N := 12) (ci := 3) (v := .int 0) 6 (by decide) 12 hC hG iwX3 (xw_12 κ a) rfl w79 rfl rfl dX3_countStanding_6 ?_
  refine lv_icmp_ge (tgt := 30) hx hb dX3_countStanding_9 (by decide) (fun _ => ?_) (fun h9 => absurd (by decide) h9)
  refine lv_iload_n hx hb dX3_countStanding_30 rfl (lv_at hl 1 rfl) ?_
  exact ze_i (qs := fun _ => 0) hC hG rfl rfl hr rfl hk (Nat.le_of_ble_eq_true rfl) (Nat.le_of_ble_eq_true rfl) dX3_countStanding_31
theorem dX7_many_48 : decode cX7_many 48 = .ok (.aload_n 0, 1) := by decide +kernel
theorem dX7_many_49 : decode cX7_many 49 = .ok (.getfield 26, 3) := by decide +kernel
theorem dX7_many_52 : decode cX7_many 52 = .ok (.invokevirtual 337, 3) := by decide +kernel
theorem dX7_many_55 : decode cX7_many 55 = .ok (.ireturn, 1) := by decide +kernel
set_option maxHeartbeats 4000000 in
set_option maxRecDepth 100000 in
theorem z_190_many (l : Launch) (hst : l.stackTraces = false) (D : va_G) (κ : K4) (E0 : Nat) (sz : Nat) (a : Nat → Nat) : NM l yX7_many cX7_many 2 (some .int) 1 22 0 0 E0 D κ (xw κ a) sz [.ref (a 0), .int 1] (QI D κ (xw κ a) sz 0 (fun qs : W1 => xw κ a)) := by
  refine NM.of (by decide +kernel) (Nat.le_of_ble_eq_true rfl) ?_
  intro p e s m below meth c ls hC hr hk hin hsz hE hT H locs hG hl
  have hx := hC.1
  have hb := hC.2.1
  have hl : lv_has ls 2 [(0, .ref (a 0)), (1, .int 1)] := hl
  refine lv_iload_n hx hb dX7_many_0 rfl (lv_at hl 1 rfl) ?_
  refine lv_tableIn (off := 47) (tgt := 48) hx hb dX7_many_1 (by decide) (by decide) (by decide) (by decide) ?_
  refine lv_aload_n hx hb dX7_many_48 rfl (lv_at hl 0 rfl) ?_
  refine bw_get (C := RX7) (T := TX7) (N := 10) (ci := 7) (v := .ref (a 12)) 2 (by decide) 0 hC hG iwX7 (xw_0 κ a) rfl w24 rfl rfl dX7_many_49 ?_
  have cut52 : Cut (xw κ a) (xw κ a) ([]) := (Cut.all 45 rfl (by decide))
  refine zc_i hG cut52 (zr_V (k := 12) (ci := 3) (n := 0) (As := []) (rest := []) hC hG hE hT cut52 (z_189_countStanding l hst D κ E0 H.size a) rfl rfl w1062 w23 w1065 w1063 w1064 (by decide +kernel) ⟨Nat.le_of_ble_eq_true rfl, Nat.le_of_ble_eq_true rfl⟩ rfl hl.1 rfl (Nat.le_of_ble_eq_true rfl) dX7_many_52 ⟨Nat.le_of_ble_eq_true rfl, Nat.le_of_ble_eq_true rfl⟩) (fun z1 H locs hG => ?_)
  have hG : BW D κ (xw κ a) _ s H locs := hG
  exact ze_i (qs := fun _ => 0) hC hG rfl rfl hr rfl hk (Nat.le_of_ble_eq_true rfl) (Nat.le_of_ble_eq_true rfl) dX7_many_55
set_option maxHeartbeats 4000000 in
set_option maxRecDepth 100000 in
theorem z_191_many (l : Launch) (hst : l.stackTraces = false) (D : va_G) (κ : K4) (E0 : Nat) (sz : Nat) (a : Nat → Nat) (o : Nat) : NH l yL_many cL_many 4 (some .int) [(0, 9, 12, 13)] 2 43 0 0 E0 D κ (xw κ a ++ [(o, .inl (κ.2.1, 1, .inr (.inl (fun _ => 0))))]) sz [.ref (a 0), .int 1, .ref o] (QI D κ (xw κ a ++ [(o, .inl (κ.2.1, 1, .inr (.inl (fun _ => 0))))]) sz 0 (fun qs : W1 => [(o, .inl (κ.2.1, 1, .inr (.inl (va_up (fun _ => 0) ((0 : Int32).toNatClampNeg) 0))))])) := by
  refine NH.of (by decide +kernel) (Nat.le_of_ble_eq_true rfl) ?_
  intro p e s m below meth c ls hC hr hk htab hsz hE hT H locs hG hl
  have hx := hC.1
  have hb := hC.2.1
  have hl : lv_has ls 4 [(0, .ref (a 0)), (1, .int 1), (2, .ref o)] := hl
  refine lv_aload_n hx hb dL_many_0 rfl (lv_at hl 2 rfl) ?_
  refine lv_iconst (v := 0) hx hb dL_many_1 (by decide) ?_
  refine lv_aload_n hx hb dL_many_2 rfl (lv_at hl 0 rfl) ?_
  refine lv_iload_n hx hb dL_many_3 rfl (lv_at hl 1 rfl) ?_
  have cut4 : Cut (xw κ a ++ [(o, .inl (κ.2.1, 1, .inr (.inl (fun _ => 0))))]) (xw κ a) ([(o, .inl (κ.2.1, 1, .inr (.inl (fun _ => 0))))]) := (Cut.one 45 rfl (by decide))
  refine zc_i hG cut4 (zr_V (k := 0) (ci := 7) (n := 1) (As := [.int 1]) (rest := [.int 0, .ref o]) hC hG hE hT cut4 (z_190_many l hst D κ E0 H.size a) rfl rfl w1058 w2 w1061 w1059 w1060 (by decide +kernel) ⟨Nat.le_of_ble_eq_true rfl, Nat.le_of_ble_eq_true rfl⟩ rfl hl.1 rfl (Nat.le_of_ble_eq_true rfl) dL_many_4 ⟨Nat.le_of_ble_eq_true rfl, Nat.le_of_ble_eq_true rfl⟩) (fun z1 H locs hG => ?_)
  have hG : BW D κ (([(o, .inl (κ.2.1, 1, .inr (.inl (fun _ => 0))))]) ++ (xw κ a)) _ s H locs := hG
  refine lv_i2l (v := 0) hx hb dL_many_7 (by decide) ?_
  refine zs_lst 0 hC hG rfl (vp_box (by have e0 : (0 : Int32).toInt = 0 := (by decide); omega) (by have e0 : (0 : Int32).toInt = 0 := (by decide); omega)) dL_many_8 (fun H locs hG => ?_)
  have hG : BW D κ ((([(o, .inl (κ.2.1, 1, .inr (.inl (fun _ => 0))))]) ++ (xw κ a) : va_W).set 0 (o, .inl (κ.2.1, 1, .inr (.inl (va_up (fun _ => 0) ((0 : Int32).toNatClampNeg) 0))))) _ s H locs := hG
  refine lv_goto (tgt := 15) hx hb dL_many_9 (by decide) ?_
  refine lv_iconst (v := 0) hx hb dL_many_15 (by decide) ?_
  have hG := hG.at (ws' := [(o, .inl (κ.2.1, 1, .inr (.inl (va_up (fun _ => 0) ((0 : Int32).toNatClampNeg) 0))))]) [0] (by decide) rfl
  exact ze_i (qs := fun _ => 0) hC hG rfl rfl hr rfl hk (Nat.le_of_ble_eq_true rfl) (Nat.le_of_ble_eq_true rfl) dL_many_16
