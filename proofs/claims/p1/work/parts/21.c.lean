set_option maxHeartbeats 4000000 in
set_option maxRecDepth 100000 in
theorem z_264_mix (l : Launch) (hst : l.stackTraces = false) (D : va_G) (κ : K4) (E0 : Nat) (sz : Nat) (a : Nat → Nat) (y0 : Int64) : NM l yX7_mix cX7_mix 4 (some .long) 0 0 0 0 E0 D κ (xw κ a) sz [.long y0, .long 1] (QL D κ (xw κ a) sz ((y0 * 31) + 1) (fun qs : W1 => xw κ a)) := by
  refine NM.of (by decide +kernel) (Nat.le_of_ble_eq_true rfl) ?_
  intro p e s m below meth c ls hC hr hk hin hsz hE hT H locs hG hl
  have hx := hC.1
  have hb := hC.2.1
  have hl : lv_has ls 4 [(0, .long y0), (2, .long 1)] := hl
  refine lv_lload_n hx hb dX7_mix_0 rfl (lv_at hl 0 rfl) ?_
  refine lv_ldc2 hx hb hC.2.2.2.1 (hC.2.2.2.2 _ w1204) dX7_mix_1 ?_
  refine lv_lmul hx hb dX7_mix_4 ?_
  refine lv_lload_n hx hb dX7_mix_5 rfl (lv_at hl 1 rfl) ?_
  refine lv_ladd hx hb dX7_mix_6 ?_
  exact ze_l (qs := fun _ => 0) hC hG rfl rfl hr hk (Nat.le_of_ble_eq_true rfl) (Nat.le_of_ble_eq_true rfl) dX7_mix_7
set_option maxHeartbeats 4000000 in
set_option maxRecDepth 100000 in
theorem z_265_ofKind (l : Launch) (hst : l.stackTraces = false) (D : va_G) (κ : K4) (E0 : Nat) (sz : Nat) (a : Nat → Nat) : NM l yX7_ofKind cX7_ofKind 5 (some .long) 0 0 0 0 E0 D κ (xw κ a) sz [.ref (a 0), .int 0] (QL D κ (xw κ a) sz 0 (fun qs : W1 => xw κ a)) := by
  refine NM.of (by decide +kernel) (Nat.le_of_ble_eq_true rfl) ?_
  intro p e s m below meth c ls hC hr hk hin hsz hE hT H locs hG hl
  have hx := hC.1
  have hb := hC.2.1
  have hl : lv_has ls 5 [(0, .ref (a 0)), (1, .int 0)] := hl
  refine lv_iload_n hx hb dX7_ofKind_0 rfl (lv_at hl 1 rfl) ?_
  refine lv_if_lt (tgt := 9) hx hb dX7_ofKind_1 (by decide) (fun h1 => absurd h1 (by decide)) (fun _ => ?_)
  refine lv_iload_n hx hb dX7_ofKind_4 rfl (lv_at hl 1 rfl) ?_
  refine lv_iconst (v := 4) hx hb dX7_ofKind_5 (by decide) ?_
  refine lv_icmp_le (tgt := 20) hx hb dX7_ofKind_6 (by decide) (fun _ => ?_) (fun h6 => absurd (by decide) h6)
  refine lv_lconst (v := 0) hx hb dX7_ofKind_20 (by decide) ?_
  refine lv_lstore_n (lv' := [(2, .long 0), (0, .ref (a 0)), (1, .int 0)]) hx hb dX7_ofKind_21 rfl hl (by decide) rfl (fun ls hl => ?_)
  refine lv_iconst (v := 0) hx hb dX7_ofKind_22 (by decide) ?_
  refine lv_istore (lv' := [(4, .int 0), (2, .long 0), (0, .ref (a 0)), (1, .int 0)]) hx hb dX7_ofKind_23 hl (by decide) rfl (fun ls hl => ?_)
  refine lv_iload hx hb dX7_ofKind_25 (lv_at hl 0 rfl) ?_
  refine lv_aload_n hx hb dX7_ofKind_27 rfl (lv_at hl 2 rfl) ?_
  refine bw_get (C := RX7) (T := TX7) (N := 10) (ci := 7) (v := .ref (a 1)) 0 (by decide) 0 hC hG iwX7 (xw_0 κ a) rfl w16 rfl rfl dX7_ofKind_28 ?_
  refine bw_get (C := RX0) (T := TX0) (N := 6) (ci := 0) (v := .int 0) 5 (by decide) 1 hC hG iwX0 (xw_1 κ a) rfl w211 rfl rfl dX7_ofKind_31 ?_
  refine lv_icmp_ge (tgt := 69) hx hb dX7_ofKind_34 (by decide) (fun _ => ?_) (fun h34 => absurd (by decide) h34)
  refine lv_lload_n hx hb dX7_ofKind_69 rfl (lv_at hl 1 rfl) ?_
  exact ze_l (qs := fun _ => 0) hC hG rfl rfl hr hk (Nat.le_of_ble_eq_true rfl) (Nat.le_of_ble_eq_true rfl) dX7_ofKind_70
set_option maxHeartbeats 4000000 in
set_option maxRecDepth 100000 in
theorem z_266_ofKind (l : Launch) (hst : l.stackTraces = false) (D : va_G) (κ : K4) (E0 : Nat) (sz : Nat) (a : Nat → Nat) : NM l yX7_ofKind cX7_ofKind 5 (some .long) 0 0 0 0 E0 D κ (xw κ a) sz [.ref (a 0), .int 1] (QL D κ (xw κ a) sz 0 (fun qs : W1 => xw κ a)) := by
  refine NM.of (by decide +kernel) (Nat.le_of_ble_eq_true rfl) ?_
  intro p e s m below meth c ls hC hr hk hin hsz hE hT H locs hG hl
  have hx := hC.1
  have hb := hC.2.1
  have hl : lv_has ls 5 [(0, .ref (a 0)), (1, .int 1)] := hl
  refine lv_iload_n hx hb dX7_ofKind_0 rfl (lv_at hl 1 rfl) ?_
  refine lv_if_lt (tgt := 9) hx hb dX7_ofKind_1 (by decide) (fun h1 => absurd h1 (by decide)) (fun _ => ?_)
  refine lv_iload_n hx hb dX7_ofKind_4 rfl (lv_at hl 1 rfl) ?_
  refine lv_iconst (v := 4) hx hb dX7_ofKind_5 (by decide) ?_
  refine lv_icmp_le (tgt := 20) hx hb dX7_ofKind_6 (by decide) (fun _ => ?_) (fun h6 => absurd (by decide) h6)
  refine lv_lconst (v := 0) hx hb dX7_ofKind_20 (by decide) ?_
  refine lv_lstore_n (lv' := [(2, .long 0), (0, .ref (a 0)), (1, .int 1)]) hx hb dX7_ofKind_21 rfl hl (by decide) rfl (fun ls hl => ?_)
  refine lv_iconst (v := 0) hx hb dX7_ofKind_22 (by decide) ?_
  refine lv_istore (lv' := [(4, .int 0), (2, .long 0), (0, .ref (a 0)), (1, .int 1)]) hx hb dX7_ofKind_23 hl (by decide) rfl (fun ls hl => ?_)
  refine lv_iload hx hb dX7_ofKind_25 (lv_at hl 0 rfl) ?_
  refine lv_aload_n hx hb dX7_ofKind_27 rfl (lv_at hl 2 rfl) ?_
  refine bw_get (C := RX7) (T := TX7) (N := 10) (ci := 7) (v := .ref (a 1)) 0 (by decide) 0 hC hG iwX7 (xw_0 κ a) rfl w16 rfl rfl dX7_ofKind_28 ?_
  refine bw_get (C := RX0) (T := TX0) (N := 6) (ci := 0) (v := .int 0) 5 (by decide) 1 hC hG iwX0 (xw_1 κ a) rfl w211 rfl rfl dX7_ofKind_31 ?_
  refine lv_icmp_ge (tgt := 69) hx hb dX7_ofKind_34 (by decide) (fun _ => ?_) (fun h34 => absurd (by decide) h34)
  refine lv_lload_n hx hb dX7_ofKind_69 rfl (lv_at hl 1 rfl) ?_
  exact ze_l (qs := fun _ => 0) hC hG rfl rfl hr hk (Nat.le_of_ble_eq_true rfl) (Nat.le_of_ble_eq_true rfl) dX7_ofKind_70
set_option maxHeartbeats 4000000 in
set_option maxRecDepth 100000 in
theorem z_267_ofKind (l : Launch) (hst : l.stackTraces = false) (D : va_G) (κ : K4) (E0 : Nat) (sz : Nat) (a : Nat → Nat) : NM l yX7_ofKind cX7_ofKind 5 (some .long) 0 0 0 0 E0 D κ (xw κ a) sz [.ref (a 0), .int 2] (QL D κ (xw κ a) sz 0 (fun qs : W1 => xw κ a)) := by
  refine NM.of (by decide +kernel) (Nat.le_of_ble_eq_true rfl) ?_
  intro p e s m below meth c ls hC hr hk hin hsz hE hT H locs hG hl
  have hx := hC.1
  have hb := hC.2.1
  have hl : lv_has ls 5 [(0, .ref (a 0)), (1, .int 2)] := hl
  refine lv_iload_n hx hb dX7_ofKind_0 rfl (lv_at hl 1 rfl) ?_
  refine lv_if_lt (tgt := 9) hx hb dX7_ofKind_1 (by decide) (fun h1 => absurd h1 (by decide)) (fun _ => ?_)
  refine lv_iload_n hx hb dX7_ofKind_4 rfl (lv_at hl 1 rfl) ?_
  refine lv_iconst (v := 4) hx hb dX7_ofKind_5 (by decide) ?_
  refine lv_icmp_le (tgt := 20) hx hb dX7_ofKind_6 (by decide) (fun _ => ?_) (fun h6 => absurd (by decide) h6)
  refine lv_lconst (v := 0) hx hb dX7_ofKind_20 (by decide) ?_
  refine lv_lstore_n (lv' := [(2, .long 0), (0, .ref (a 0)), (1, .int 2)]) hx hb dX7_ofKind_21 rfl hl (by decide) rfl (fun ls hl => ?_)
  refine lv_iconst (v := 0) hx hb dX7_ofKind_22 (by decide) ?_
  refine lv_istore (lv' := [(4, .int 0), (2, .long 0), (0, .ref (a 0)), (1, .int 2)]) hx hb dX7_ofKind_23 hl (by decide) rfl (fun ls hl => ?_)
  refine lv_iload hx hb dX7_ofKind_25 (lv_at hl 0 rfl) ?_
  refine lv_aload_n hx hb dX7_ofKind_27 rfl (lv_at hl 2 rfl) ?_
  refine bw_get (C := RX7) (T := TX7) (N := 10) (ci := 7) (v := .ref (a 1)) 0 (by decide) 0 hC hG iwX7 (xw_0 κ a) rfl w16 rfl rfl dX7_ofKind_28 ?_
  refine bw_get (C := RX0) (T := TX0) (N := 6) (ci := 0) (v := .int 0) 5 (by decide) 1 hC hG iwX0 (xw_1 κ a) rfl w211 rfl rfl dX7_ofKind_31 ?_
  refine lv_icmp_ge (tgt := 69) hx hb dX7_ofKind_34 (by decide) (fun _ => ?_) (fun h34 => absurd (by decide) h34)
  refine lv_lload_n hx hb dX7_ofKind_69 rfl (lv_at hl 1 rfl) ?_
  exact ze_l (qs := fun _ => 0) hC hG rfl rfl hr hk (Nat.le_of_ble_eq_true rfl) (Nat.le_of_ble_eq_true rfl) dX7_ofKind_70
set_option maxHeartbeats 4000000 in
set_option maxRecDepth 100000 in
theorem z_268_ofKind (l : Launch) (hst : l.stackTraces = false) (D : va_G) (κ : K4) (E0 : Nat) (sz : Nat) (a : Nat → Nat) : NM l yX7_ofKind cX7_ofKind 5 (some .long) 0 0 0 0 E0 D κ (xw κ a) sz [.ref (a 0), .int 3] (QL D κ (xw κ a) sz 0 (fun qs : W1 => xw κ a)) := by
  refine NM.of (by decide +kernel) (Nat.le_of_ble_eq_true rfl) ?_
  intro p e s m below meth c ls hC hr hk hin hsz hE hT H locs hG hl
  have hx := hC.1
  have hb := hC.2.1
  have hl : lv_has ls 5 [(0, .ref (a 0)), (1, .int 3)] := hl
  refine lv_iload_n hx hb dX7_ofKind_0 rfl (lv_at hl 1 rfl) ?_
  refine lv_if_lt (tgt := 9) hx hb dX7_ofKind_1 (by decide) (fun h1 => absurd h1 (by decide)) (fun _ => ?_)
  refine lv_iload_n hx hb dX7_ofKind_4 rfl (lv_at hl 1 rfl) ?_
  refine lv_iconst (v := 4) hx hb dX7_ofKind_5 (by decide) ?_
  refine lv_icmp_le (tgt := 20) hx hb dX7_ofKind_6 (by decide) (fun _ => ?_) (fun h6 => absurd (by decide) h6)
  refine lv_lconst (v := 0) hx hb dX7_ofKind_20 (by decide) ?_
  refine lv_lstore_n (lv' := [(2, .long 0), (0, .ref (a 0)), (1, .int 3)]) hx hb dX7_ofKind_21 rfl hl (by decide) rfl (fun ls hl => ?_)
  refine lv_iconst (v := 0) hx hb dX7_ofKind_22 (by decide) ?_
  refine lv_istore (lv' := [(4, .int 0), (2, .long 0), (0, .ref (a 0)), (1, .int 3)]) hx hb dX7_ofKind_23 hl (by decide) rfl (fun ls hl => ?_)
  refine lv_iload hx hb dX7_ofKind_25 (lv_at hl 0 rfl) ?_
  refine lv_aload_n hx hb dX7_ofKind_27 rfl (lv_at hl 2 rfl) ?_
  refine bw_get (C := RX7) (T := TX7) (N := 10) (ci := 7) (v := .ref (a 1)) 0 (by decide) 0 hC hG iwX7 (xw_0 κ a) rfl w16 rfl rfl dX7_ofKind_28 ?_
  refine bw_get (C := RX0) (T := TX0) (N := 6) (ci := 0) (v := .int 0) 5 (by decide) 1 hC hG iwX0 (xw_1 κ a) rfl w211 rfl rfl dX7_ofKind_31 ?_
  refine lv_icmp_ge (tgt := 69) hx hb dX7_ofKind_34 (by decide) (fun _ => ?_) (fun h34 => absurd (by decide) h34)
  refine lv_lload_n hx hb dX7_ofKind_69 rfl (lv_at hl 1 rfl) ?_
  exact ze_l (qs := fun _ => 0) hC hG rfl rfl hr hk (Nat.le_of_ble_eq_true rfl) (Nat.le_of_ble_eq_true rfl) dX7_ofKind_70
set_option maxHeartbeats 4000000 in
set_option maxRecDepth 100000 in
theorem z_269_ofKind (l : Launch) (hst : l.stackTraces = false) (D : va_G) (κ : K4) (E0 : Nat) (sz : Nat) (a : Nat → Nat) : NM l yX7_ofKind cX7_ofKind 5 (some .long) 0 0 0 0 E0 D κ (xw κ a) sz [.ref (a 0), .int 4] (QL D κ (xw κ a) sz 0 (fun qs : W1 => xw κ a)) := by
  refine NM.of (by decide +kernel) (Nat.le_of_ble_eq_true rfl) ?_
  intro p e s m below meth c ls hC hr hk hin hsz hE hT H locs hG hl
  have hx := hC.1
  have hb := hC.2.1
  have hl : lv_has ls 5 [(0, .ref (a 0)), (1, .int 4)] := hl
  refine lv_iload_n hx hb dX7_ofKind_0 rfl (lv_at hl 1 rfl) ?_
  refine lv_if_lt (tgt := 9) hx hb dX7_ofKind_1 (by decide) (fun h1 => absurd h1 (by decide)) (fun _ => ?_)
  refine lv_iload_n hx hb dX7_ofKind_4 rfl (lv_at hl 1 rfl) ?_
  refine lv_iconst (v := 4) hx hb dX7_ofKind_5 (by decide) ?_
  refine lv_icmp_le (tgt := 20) hx hb dX7_ofKind_6 (by decide) (fun _ => ?_) (fun h6 => absurd (by decide) h6)
  refine lv_lconst (v := 0) hx hb dX7_ofKind_20 (by decide) ?_
  refine lv_lstore_n (lv' := [(2, .long 0), (0, .ref (a 0)), (1, .int 4)]) hx hb dX7_ofKind_21 rfl hl (by decide) rfl (fun ls hl => ?_)
  refine lv_iconst (v := 0) hx hb dX7_ofKind_22 (by decide) ?_
  refine lv_istore (lv' := [(4, .int 0), (2, .long 0), (0, .ref (a 0)), (1, .int 4)]) hx hb dX7_ofKind_23 hl (by decide) rfl (fun ls hl => ?_)
  refine lv_iload hx hb dX7_ofKind_25 (lv_at hl 0 rfl) ?_
  refine lv_aload_n hx hb dX7_ofKind_27 rfl (lv_at hl 2 rfl) ?_
  refine bw_get (C := RX7) (T := TX7) (N := 10) (ci := 7) (v := .ref (a 1)) 0 (by decide) 0 hC hG iwX7 (xw_0 κ a) rfl w16 rfl rfl dX7_ofKind_28 ?_
  refine bw_get (C := RX0) (T := TX0) (N := 6) (ci := 0) (v := .int 0) 5 (by decide) 1 hC hG iwX0 (xw_1 κ a) rfl w211 rfl rfl dX7_ofKind_31 ?_
  refine lv_icmp_ge (tgt := 69) hx hb dX7_ofKind_34 (by decide) (fun _ => ?_) (fun h34 => absurd (by decide) h34)
  refine lv_lload_n hx hb dX7_ofKind_69 rfl (lv_at hl 1 rfl) ?_
  exact ze_l (qs := fun _ => 0) hC hG rfl rfl hr hk (Nat.le_of_ble_eq_true rfl) (Nat.le_of_ble_eq_true rfl) dX7_ofKind_70
set_option maxHeartbeats 4000000 in
set_option maxRecDepth 100000 in
theorem z_270_needDay (l : Launch) (hst : l.stackTraces = false) (D : va_G) (κ : K4) (E0 : Nat) (sz : Nat) (a : Nat → Nat) : NM l yX7_needDay cX7_needDay 1 none 0 0 0 0 E0 D κ (xw κ a) sz [.int 0] (QV D κ (xw κ a) sz (fun qs : W1 => xw κ a)) := by
  refine NM.of (by decide +kernel) (Nat.le_of_ble_eq_true rfl) ?_
  intro p e s m below meth c ls hC hr hk hin hsz hE hT H locs hG hl
  have hx := hC.1
  have hb := hC.2.1
  have hl : lv_has ls 1 [(0, .int 0)] := hl
  refine lv_iload_n hx hb dX7_needDay_0 rfl (lv_at hl 0 rfl) ?_
  refine lv_if_lt (tgt := 11) hx hb dX7_needDay_1 (by decide) (fun h1 => absurd h1 (by decide)) (fun _ => ?_)
  refine lv_iload_n hx hb dX7_needDay_4 rfl (lv_at hl 0 rfl) ?_
  refine lv_sipush (v := 364) hx hb dX7_needDay_5 (by decide) ?_
  refine lv_icmp_le (tgt := 21) hx hb dX7_needDay_8 (by decide) (fun _ => ?_) (fun h8 => absurd (by decide) h8)
  exact ze_v (qs := fun _ => 0) hC hG rfl hr hk (Nat.le_of_ble_eq_true rfl) (Nat.le_of_ble_eq_true rfl) dX7_needDay_21
set_option maxHeartbeats 4000000 in
set_option maxRecDepth 100000 in
theorem z_271_planClosing (l : Launch) (hst : l.stackTraces = false) (D : va_G) (κ : K4) (E0 : Nat) (sz : Nat) (a : Nat → Nat) : NM l yX7_planClosing cX7_planClosing 5 none 0 0 0 0 E0 D κ (xw κ a) sz [.ref (a 0), .int 0] (QV D κ (xw κ a) sz (fun qs : W1 => xw κ a)) := by
  refine NM.of (by decide +kernel) (Nat.le_of_ble_eq_true rfl) ?_
  intro p e s m below meth c ls hC hr hk hin hsz hE hT H locs hG hl
  have hx := hC.1
  have hb := hC.2.1
  have hl : lv_has ls 5 [(0, .ref (a 0)), (1, .int 0)] := hl
  refine lv_aload_n hx hb dX7_planClosing_0 rfl (lv_at hl 0 rfl) ?_
  refine bw_get (C := RX7) (T := TX7) (N := 10) (ci := 7) (v := .ref (a 41)) 7 (by decide) 0 hC hG iwX7 (xw_0 κ a) rfl w41 rfl rfl dX7_planClosing_1 ?_
  refine lv_iconst (v := 0) hx hb dX7_planClosing_4 (by decide) ?_
  refine bw_put (C := RX4) (T := TX4) (N := 4) (ci := 4) (ty0 := tyX4) (ty := .int) (v := .int 0) 3 (by decide) 41 hC hG iwX4 tyX4_ok nmX4 rfl rfl w412 rfl (Or.inl rfl) (by decide +kernel) rfl rfl (Nat.le_of_ble_eq_true rfl) dX7_planClosing_5 (fun H locs hG => ?_)
  have hG : BW D κ (xw κ a) _ s H locs := hG
  refine lv_iconst (v := 0) hx hb dX7_planClosing_8 (by decide) ?_
  refine lv_istore_n (lv' := [(2, .int 0), (0, .ref (a 0)), (1, .int 0)]) hx hb dX7_planClosing_9 rfl hl (by decide) rfl (fun ls hl => ?_)
  refine lv_iload_n hx hb dX7_planClosing_10 rfl (lv_at hl 0 rfl) ?_
  refine lv_aload_n hx hb dX7_planClosing_11 rfl (lv_at hl 1 rfl) ?_
  refine bw_get (C := RX7) (T := TX7) (N := 10) (ci := 7) (v := .ref (a 1)) 0 (by decide) 0 hC hG iwX7 (xw_0 κ a) rfl w16 rfl rfl dX7_planClosing_12 ?_
  refine bw_get (C := RX0) (T := TX0) (N := 6) (ci := 0) (v := .int 0) 5 (by decide) 1 hC hG iwX0 (xw_1 κ a) rfl w211 rfl rfl dX7_planClosing_15 ?_
  refine lv_icmp_ge (tgt := 61) hx hb dX7_planClosing_18 (by decide) (fun _ => ?_) (fun h18 => absurd (by decide) h18)
  exact ze_v (qs := fun _ => 0) hC hG rfl hr hk (Nat.le_of_ble_eq_true rfl) (Nat.le_of_ble_eq_true rfl) dX7_planClosing_61
set_option maxHeartbeats 4000000 in
set_option maxRecDepth 100000 in
theorem z_272_wouldClose (l : Launch) (hst : l.stackTraces = false) (D : va_G) (κ : K4) (E0 : Nat) (sz : Nat) (a : Nat → Nat) : NM l yX7_wouldClose cX7_wouldClose 2 (some .long) 1 24 0 0 E0 D κ (xw κ a) sz [.ref (a 0), .int 0] (QL D κ (xw κ a) sz (-0) (fun qs : W1 => xw κ a)) := by
  refine NM.of (by decide +kernel) (Nat.le_of_ble_eq_true rfl) ?_
  intro p e s m below meth c ls hC hr hk hin hsz hE hT H locs hG hl
  have hx := hC.1
  have hb := hC.2.1
  have hl : lv_has ls 2 [(0, .ref (a 0)), (1, .int 0)] := hl
  refine lv_iload_n hx hb dX7_wouldClose_0 rfl (lv_at hl 1 rfl) ?_
  have cut1 : Cut (xw κ a) (xw κ a) ([]) := (Cut.all 45 rfl (by decide))
  refine zc_v hG cut1 (zr_S (n := 1) (As := [.int 0]) (rest := []) hC hG hE hT cut1 (z_270_needDay l hst D κ E0 H.size a) w413 w2 w415 w414 (by decide +kernel) ⟨Nat.le_of_ble_eq_true rfl, Nat.le_of_ble_eq_true rfl⟩ rfl hl.1 rfl (Nat.le_of_ble_eq_true rfl) dX7_wouldClose_1 ⟨Nat.le_of_ble_eq_true rfl, Nat.le_of_ble_eq_true rfl⟩) (fun z1 H locs hG => ?_)
  have hG : BW D κ (xw κ a) _ s H locs := hG
  refine lv_aload_n hx hb dX7_wouldClose_4 rfl (lv_at hl 0 rfl) ?_
  refine lv_iload_n hx hb dX7_wouldClose_5 rfl (lv_at hl 1 rfl) ?_
  have cut6 : Cut (xw κ a) (xw κ a) ([]) := (Cut.all 45 rfl (by decide))
  refine zc_v hG cut6 (zr_V (k := 0) (ci := 7) (n := 1) (As := [.int 0]) (rest := []) hC hG hE hT cut6 (z_271_planClosing l hst D κ E0 H.size a) rfl rfl w775 w2 w778 w776 w777 (by decide +kernel) ⟨Nat.le_of_ble_eq_true rfl, Nat.le_of_ble_eq_true rfl⟩ rfl hl.1 rfl (Nat.le_of_ble_eq_true rfl) dX7_wouldClose_6 ⟨Nat.le_of_ble_eq_true rfl, Nat.le_of_ble_eq_true rfl⟩) (fun z2 H locs hG => ?_)
  have hG : BW D κ (xw κ a) _ s H locs := hG
  refine lv_aload_n hx hb dX7_wouldClose_9 rfl (lv_at hl 0 rfl) ?_
  refine bw_get (C := RX7) (T := TX7) (N := 10) (ci := 7) (v := .ref (a 41)) 7 (by decide) 0 hC hG iwX7 (xw_0 κ a) rfl w41 rfl rfl dX7_wouldClose_10 ?_
  have cut13 : Cut (xw κ a) (xw κ a) ([]) := (Cut.all 45 rfl (by decide))
  refine zc_l hG cut13 (zr_V (k := 41) (ci := 4) (n := 0) (As := []) (rest := []) hC hG hE hT cut13 (z_252_worthSum l hst D κ E0 H.size a) rfl rfl w452 w40 w455 w453 w454 (by decide +kernel) ⟨Nat.le_of_ble_eq_true rfl, Nat.le_of_ble_eq_true rfl⟩ rfl hl.1 rfl (Nat.le_of_ble_eq_true rfl) dX7_wouldClose_13 ⟨Nat.le_of_ble_eq_true rfl, Nat.le_of_ble_eq_true rfl⟩) (fun z3 H locs hG => ?_)
  have hG : BW D κ (xw κ a) _ s H locs := hG
  refine lv_lneg hx hb dX7_wouldClose_16 ?_
  exact ze_l (qs := fun _ => 0) hC hG rfl rfl hr hk (Nat.le_of_ble_eq_true rfl) (Nat.le_of_ble_eq_true rfl) dX7_wouldClose_17
set_option maxHeartbeats 4000000 in
set_option maxRecDepth 100000 in
theorem z_273_mix (l : Launch) (hst : l.stackTraces = false) (D : va_G) (κ : K4) (E0 : Nat) (sz : Nat) (a : Nat → Nat) (y0 : Int64) (y1 : Int64) : NM l yX7_mix cX7_mix 4 (some .long) 0 0 0 0 E0 D κ (xw κ a) sz [.long y0, .long y1] (QL D κ (xw κ a) sz ((y0 * 31) + y1) (fun qs : W1 => xw κ a)) := by
  refine NM.of (by decide +kernel) (Nat.le_of_ble_eq_true rfl) ?_
  intro p e s m below meth c ls hC hr hk hin hsz hE hT H locs hG hl
  have hx := hC.1
  have hb := hC.2.1
  have hl : lv_has ls 4 [(0, .long y0), (2, .long y1)] := hl
  refine lv_lload_n hx hb dX7_mix_0 rfl (lv_at hl 0 rfl) ?_
  refine lv_ldc2 hx hb hC.2.2.2.1 (hC.2.2.2.2 _ w1204) dX7_mix_1 ?_
  refine lv_lmul hx hb dX7_mix_4 ?_
  refine lv_lload_n hx hb dX7_mix_5 rfl (lv_at hl 1 rfl) ?_
  refine lv_ladd hx hb dX7_mix_6 ?_
  exact ze_l (qs := fun _ => 0) hC hG rfl rfl hr hk (Nat.le_of_ble_eq_true rfl) (Nat.le_of_ble_eq_true rfl) dX7_mix_7
theorem dX7_digest_0 : decode cX7_digest 0 = .ok (.ldc2_w 364, 3) := by decide +kernel
theorem dX7_digest_100 : decode cX7_digest 100 = .ok (.if_icmp .ge 20, 3) := by decide +kernel
theorem dX7_digest_11 : decode cX7_digest 11 = .ok (.lload_n 1, 1) := by decide +kernel
theorem dX7_digest_12 : decode cX7_digest 12 = .ok (.aload_n 0, 1) := by decide +kernel
theorem dX7_digest_120 : decode cX7_digest 120 = .ok (.iconst 0, 1) := by decide +kernel
theorem dX7_digest_121 : decode cX7_digest 121 = .ok (.istore_n 3, 1) := by decide +kernel
theorem dX7_digest_122 : decode cX7_digest 122 = .ok (.iload_n 3, 1) := by decide +kernel
theorem dX7_digest_123 : decode cX7_digest 123 = .ok (.iconst 4, 1) := by decide +kernel
theorem dX7_digest_124 : decode cX7_digest 124 = .ok (.if_icmp .gt 19, 3) := by decide +kernel
theorem dX7_digest_127 : decode cX7_digest 127 = .ok (.lload_n 1, 1) := by decide +kernel
theorem dX7_digest_128 : decode cX7_digest 128 = .ok (.aload_n 0, 1) := by decide +kernel
theorem dX7_digest_129 : decode cX7_digest 129 = .ok (.iload_n 3, 1) := by decide +kernel
theorem dX7_digest_13 : decode cX7_digest 13 = .ok (.iload_n 3, 1) := by decide +kernel
theorem dX7_digest_130 : decode cX7_digest 130 = .ok (.invokevirtual 384, 3) := by decide +kernel
theorem dX7_digest_133 : decode cX7_digest 133 = .ok (.invokestatic 369, 3) := by decide +kernel
theorem dX7_digest_136 : decode cX7_digest 136 = .ok (.lstore_n 1, 1) := by decide +kernel
theorem dX7_digest_137 : decode cX7_digest 137 = .ok (.iinc 3 1, 3) := by decide +kernel
theorem dX7_digest_14 : decode cX7_digest 14 = .ok (.invokevirtual 366, 3) := by decide +kernel
theorem dX7_digest_140 : decode cX7_digest 140 = .ok (.goto (-18), 3) := by decide +kernel
theorem dX7_digest_143 : decode cX7_digest 143 = .ok (.lload_n 1, 1) := by decide +kernel
theorem dX7_digest_144 : decode cX7_digest 144 = .ok (.aload_n 0, 1) := by decide +kernel
theorem dX7_digest_145 : decode cX7_digest 145 = .ok (.aload_n 0, 1) := by decide +kernel
theorem dX7_digest_146 : decode cX7_digest 146 = .ok (.getfield 67, 3) := by decide +kernel
theorem dX7_digest_149 : decode cX7_digest 149 = .ok (.invokevirtual 387, 3) := by decide +kernel
theorem dX7_digest_152 : decode cX7_digest 152 = .ok (.invokestatic 369, 3) := by decide +kernel
theorem dX7_digest_155 : decode cX7_digest 155 = .ok (.lreturn, 1) := by decide +kernel
theorem dX7_digest_17 : decode cX7_digest 17 = .ok (.i2l, 1) := by decide +kernel
theorem dX7_digest_18 : decode cX7_digest 18 = .ok (.invokestatic 369, 3) := by decide +kernel
theorem dX7_digest_21 : decode cX7_digest 21 = .ok (.lstore_n 1, 1) := by decide +kernel
theorem dX7_digest_22 : decode cX7_digest 22 = .ok (.iinc 3 1, 3) := by decide +kernel
theorem dX7_digest_25 : decode cX7_digest 25 = .ok (.goto (-19), 3) := by decide +kernel
theorem dX7_digest_28 : decode cX7_digest 28 = .ok (.lload_n 1, 1) := by decide +kernel
theorem dX7_digest_29 : decode cX7_digest 29 = .ok (.aload_n 0, 1) := by decide +kernel
theorem dX7_digest_3 : decode cX7_digest 3 = .ok (.lstore_n 1, 1) := by decide +kernel
theorem dX7_digest_30 : decode cX7_digest 30 = .ok (.invokevirtual 166, 3) := by decide +kernel
theorem dX7_digest_33 : decode cX7_digest 33 = .ok (.i2l, 1) := by decide +kernel
theorem dX7_digest_34 : decode cX7_digest 34 = .ok (.invokestatic 369, 3) := by decide +kernel
theorem dX7_digest_37 : decode cX7_digest 37 = .ok (.lstore_n 1, 1) := by decide +kernel
theorem dX7_digest_38 : decode cX7_digest 38 = .ok (.iconst 0, 1) := by decide +kernel
theorem dX7_digest_39 : decode cX7_digest 39 = .ok (.istore_n 3, 1) := by decide +kernel
theorem dX7_digest_4 : decode cX7_digest 4 = .ok (.iconst 0, 1) := by decide +kernel
theorem dX7_digest_40 : decode cX7_digest 40 = .ok (.iload_n 3, 1) := by decide +kernel
theorem dX7_digest_41 : decode cX7_digest 41 = .ok (.aload_n 0, 1) := by decide +kernel
theorem dX7_digest_42 : decode cX7_digest 42 = .ok (.getfield 12, 3) := by decide +kernel
theorem dX7_digest_45 : decode cX7_digest 45 = .ok (.getfield 93, 3) := by decide +kernel
theorem dX7_digest_48 : decode cX7_digest 48 = .ok (.if_icmp .ge 16, 3) := by decide +kernel
theorem dX7_digest_5 : decode cX7_digest 5 = .ok (.istore_n 3, 1) := by decide +kernel
theorem dX7_digest_6 : decode cX7_digest 6 = .ok (.iload_n 3, 1) := by decide +kernel
theorem dX7_digest_64 : decode cX7_digest 64 = .ok (.iconst 0, 1) := by decide +kernel
theorem dX7_digest_65 : decode cX7_digest 65 = .ok (.istore_n 3, 1) := by decide +kernel
theorem dX7_digest_66 : decode cX7_digest 66 = .ok (.iload_n 3, 1) := by decide +kernel
theorem dX7_digest_67 : decode cX7_digest 67 = .ok (.aload_n 0, 1) := by decide +kernel
theorem dX7_digest_68 : decode cX7_digest 68 = .ok (.getfield 26, 3) := by decide +kernel
theorem dX7_digest_7 : decode cX7_digest 7 = .ok (.iconst 5, 1) := by decide +kernel
theorem dX7_digest_71 : decode cX7_digest 71 = .ok (.getfield 377, 3) := by decide +kernel
theorem dX7_digest_74 : decode cX7_digest 74 = .ok (.if_icmp .ge 16, 3) := by decide +kernel
theorem dX7_digest_8 : decode cX7_digest 8 = .ok (.if_icmp .gt 20, 3) := by decide +kernel
theorem dX7_digest_90 : decode cX7_digest 90 = .ok (.iconst 0, 1) := by decide +kernel
theorem dX7_digest_91 : decode cX7_digest 91 = .ok (.istore_n 3, 1) := by decide +kernel
theorem dX7_digest_92 : decode cX7_digest 92 = .ok (.iload_n 3, 1) := by decide +kernel
theorem dX7_digest_93 : decode cX7_digest 93 = .ok (.aload_n 0, 1) := by decide +kernel
theorem dX7_digest_94 : decode cX7_digest 94 = .ok (.getfield 40, 3) := by decide +kernel
theorem dX7_digest_97 : decode cX7_digest 97 = .ok (.getfield 301, 3) := by decide +kernel
set_option maxHeartbeats 4000000 in
set_option maxRecDepth 100000 in
theorem z_274_digest (l : Launch) (hst : l.stackTraces = false) (D : va_G) (κ : K4) (E0 : Nat) (sz : Nat) (a : Nat → Nat) : NM l yX7_digest cX7_digest 4 (some .long) 3 63 0 0 E0 D κ (xw κ a) sz [.ref (a 0)] (QL D κ (xw κ a) sz ((((((((((((((((((((((((((58089 * 31) + 0) * 31) + 0) * 31) + 0) * 31) + 0) * 31) + 0) * 31) + (-1)) * 31) + 1) * 31) + 0) * 31) + 0) * 31) + 0) * 31) + 0) * 31) + 0) * 31) + (-0)) (fun qs : W1 => xw κ a)) := by
  refine NM.of (by decide +kernel) (Nat.le_of_ble_eq_true rfl) ?_
  intro p e s m below meth c ls hC hr hk hin hsz hE hT H locs hG hl
  have hx := hC.1
  have hb := hC.2.1
  have hl : lv_has ls 4 [(0, .ref (a 0))] := hl
  refine lv_ldc2 hx hb hC.2.2.2.1 (hC.2.2.2.2 _ w1198) dX7_digest_0 ?_
  refine lv_lstore_n (lv' := [(1, .long 58089), (0, .ref (a 0))]) hx hb dX7_digest_3 rfl hl (by decide) rfl (fun ls hl => ?_)
  refine lv_iconst (v := 0) hx hb dX7_digest_4 (by decide) ?_
  refine lv_istore_n (lv' := [(3, .int 0), (1, .long 58089), (0, .ref (a 0))]) hx hb dX7_digest_5 rfl hl (by decide) rfl (fun ls hl => ?_)
  refine lv_iload_n hx hb dX7_digest_6 rfl (lv_at hl 0 rfl) ?_
  refine lv_iconst (v := 5) hx hb dX7_digest_7 (by decide) ?_
  refine lv_icmp_gt (tgt := 28) hx hb dX7_digest_8 (by decide) (fun h8 => absurd h8 (by decide)) (fun _ => ?_)
  refine lv_lload_n hx hb dX7_digest_11 rfl (lv_at hl 1 rfl) ?_
  refine lv_aload_n hx hb dX7_digest_12 rfl (lv_at hl 2 rfl) ?_
  refine lv_iload_n hx hb dX7_digest_13 rfl (lv_at hl 0 rfl) ?_
  have cut14 : Cut (xw κ a) (xw κ a) ([]) := (Cut.all 45 rfl (by decide))
  refine zc_i hG cut14 (zr_V (k := 0) (ci := 7) (n := 1) (As := [.int 0]) (rest := [.long 58089]) hC hG hE hT cut14 (z_184_many l hst D κ E0 H.size a) rfl rfl w1200 w2 w1061 w1059 w1060 (by decide +kernel) ⟨Nat.le_of_ble_eq_true rfl, Nat.le_of_ble_eq_true rfl⟩ rfl hl.1 rfl (Nat.le_of_ble_eq_true rfl) dX7_digest_14 ⟨Nat.le_of_ble_eq_true rfl, Nat.le_of_ble_eq_true rfl⟩) (fun z1 H locs hG => ?_)
  have hG : BW D κ (xw κ a) _ s H locs := hG
  refine lv_i2l (v := 0) hx hb dX7_digest_17 (by decide) ?_
  have cut18 : Cut (xw κ a) (xw κ a) ([]) := (Cut.all 45 rfl (by decide))
  refine zc_l hG cut18 (zr_S (n := 2) (As := [.long 58089, .long 0]) (rest := []) hC hG hE hT cut18 (z_261_mix l hst D κ E0 H.size a) w1201 w2 w1203 w1202 (by decide +kernel) ⟨Nat.le_of_ble_eq_true rfl, Nat.le_of_ble_eq_true rfl⟩ rfl hl.1 rfl (Nat.le_of_ble_eq_true rfl) dX7_digest_18 ⟨Nat.le_of_ble_eq_true rfl, Nat.le_of_ble_eq_true rfl⟩) (fun z2 H locs hG => ?_)
  have hG : BW D κ (xw κ a) _ s H locs := hG
  refine lv_lstore_n (lv' := [(1, .long ((58089 * 31) + 0)), (3, .int 0), (0, .ref (a 0))]) hx hb dX7_digest_21 rfl hl (by decide) rfl (fun ls hl => ?_)
  refine lv_iinc (v := 1) (lv' := [(3, .int 1), (1, .long ((58089 * 31) + 0)), (0, .ref (a 0))]) hx hb dX7_digest_22 hl (k := 1) rfl (by decide) (by decide) rfl (fun ls hl => ?_)
  refine lv_goto (tgt := 6) hx hb dX7_digest_25 (by decide) ?_
  refine lv_iload_n hx hb dX7_digest_6 rfl (lv_at hl 0 rfl) ?_
  refine lv_iconst (v := 5) hx hb dX7_digest_7 (by decide) ?_
  refine lv_icmp_gt (tgt := 28) hx hb dX7_digest_8 (by decide) (fun h8 => absurd h8 (by decide)) (fun _ => ?_)
  refine lv_lload_n hx hb dX7_digest_11 rfl (lv_at hl 1 rfl) ?_
  refine lv_aload_n hx hb dX7_digest_12 rfl (lv_at hl 2 rfl) ?_
  refine lv_iload_n hx hb dX7_digest_13 rfl (lv_at hl 0 rfl) ?_
  have cut14 : Cut (xw κ a) (xw κ a) ([]) := (Cut.all 45 rfl (by decide))
  refine zc_i hG cut14 (zr_V (k := 0) (ci := 7) (n := 1) (As := [.int 1]) (rest := [.long ((58089 * 31) + 0)]) hC hG hE hT cut14 (z_190_many l hst D κ E0 H.size a) rfl rfl w1200 w2 w1061 w1059 w1060 (by decide +kernel) ⟨Nat.le_of_ble_eq_true rfl, Nat.le_of_ble_eq_true rfl⟩ rfl hl.1 rfl (Nat.le_of_ble_eq_true rfl) dX7_digest_14 ⟨Nat.le_of_ble_eq_true rfl, Nat.le_of_ble_eq_true rfl⟩) (fun z3 H locs hG => ?_)
  have hG : BW D κ (xw κ a) _ s H locs := hG
  refine lv_i2l (v := 0) hx hb dX7_digest_17 (by decide) ?_
  have cut18 : Cut (xw κ a) (xw κ a) ([]) := (Cut.all 45 rfl (by decide))
  refine zc_l hG cut18 (zr_S (n := 2) (As := [.long ((58089 * 31) + 0), .long 0]) (rest := []) hC hG hE hT cut18 (z_262_mix l hst D κ E0 H.size a ((58089 * 31) + 0)) w1201 w2 w1203 w1202 (by decide +kernel) ⟨Nat.le_of_ble_eq_true rfl, Nat.le_of_ble_eq_true rfl⟩ rfl hl.1 rfl (Nat.le_of_ble_eq_true rfl) dX7_digest_18 ⟨Nat.le_of_ble_eq_true rfl, Nat.le_of_ble_eq_true rfl⟩) (fun z4 H locs hG => ?_)
  have hG : BW D κ (xw κ a) _ s H locs := hG
  refine lv_lstore_n (lv' := [(1, .long ((((58089 * 31) + 0) * 31) + 0)), (3, .int 1), (0, .ref (a 0))]) hx hb dX7_digest_21 rfl hl (by decide) rfl (fun ls hl => ?_)
  refine lv_iinc (v := 2) (lv' := [(3, .int 2), (1, .long ((((58089 * 31) + 0) * 31) + 0)), (0, .ref (a 0))]) hx hb dX7_digest_22 hl (k := 1) rfl (by decide) (by decide) rfl (fun ls hl => ?_)
  refine lv_goto (tgt := 6) hx hb dX7_digest_25 (by decide) ?_
  refine lv_iload_n hx hb dX7_digest_6 rfl (lv_at hl 0 rfl) ?_
  refine lv_iconst (v := 5) hx hb dX7_digest_7 (by decide) ?_
  refine lv_icmp_gt (tgt := 28) hx hb dX7_digest_8 (by decide) (fun h8 => absurd h8 (by decide)) (fun _ => ?_)
  refine lv_lload_n hx hb dX7_digest_11 rfl (lv_at hl 1 rfl) ?_
  refine lv_aload_n hx hb dX7_digest_12 rfl (lv_at hl 2 rfl) ?_
  refine lv_iload_n hx hb dX7_digest_13 rfl (lv_at hl 0 rfl) ?_
  have cut14 : Cut (xw κ a) (xw κ a) ([]) := (Cut.all 45 rfl (by decide))
  refine zc_i hG cut14 (zr_V (k := 0) (ci := 7) (n := 1) (As := [.int 2]) (rest := [.long ((((58089 * 31) + 0) * 31) + 0)]) hC hG hE hT cut14 (z_196_many l hst D κ E0 H.size a) rfl rfl w1200 w2 w1061 w1059 w1060 (by decide +kernel) ⟨Nat.le_of_ble_eq_true rfl, Nat.le_of_ble_eq_true rfl⟩ rfl hl.1 rfl (Nat.le_of_ble_eq_true rfl) dX7_digest_14 ⟨Nat.le_of_ble_eq_true rfl, Nat.le_of_ble_eq_true rfl⟩) (fun z5 H locs hG => ?_)
  have hG : BW D κ (xw κ a) _ s H locs := hG
  refine lv_i2l (v := 0) hx hb dX7_digest_17 (by decide) ?_
  have cut18 : Cut (xw κ a) (xw κ a) ([]) := (Cut.all 45 rfl (by decide))
  refine zc_l hG cut18 (zr_S (n := 2) (As := [.long ((((58089 * 31) + 0) * 31) + 0), .long 0]) (rest := []) hC hG hE hT cut18 (z_262_mix l hst D κ E0 H.size a ((((58089 * 31) + 0) * 31) + 0)) w1201 w2 w1203 w1202 (by decide +kernel) ⟨Nat.le_of_ble_eq_true rfl, Nat.le_of_ble_eq_true rfl⟩ rfl hl.1 rfl (Nat.le_of_ble_eq_true rfl) dX7_digest_18 ⟨Nat.le_of_ble_eq_true rfl, Nat.le_of_ble_eq_true rfl⟩) (fun z6 H locs hG => ?_)
  have hG : BW D κ (xw κ a) _ s H locs := hG
  refine lv_lstore_n (lv' := [(1, .long ((((((58089 * 31) + 0) * 31) + 0) * 31) + 0)), (3, .int 2), (0, .ref (a 0))]) hx hb dX7_digest_21 rfl hl (by decide) rfl (fun ls hl => ?_)
  refine lv_iinc (v := 3) (lv' := [(3, .int 3), (1, .long ((((((58089 * 31) + 0) * 31) + 0) * 31) + 0)), (0, .ref (a 0))]) hx hb dX7_digest_22 hl (k := 1) rfl (by decide) (by decide) rfl (fun ls hl => ?_)
  refine lv_goto (tgt := 6) hx hb dX7_digest_25 (by decide) ?_
  refine lv_iload_n hx hb dX7_digest_6 rfl (lv_at hl 0 rfl) ?_
  refine lv_iconst (v := 5) hx hb dX7_digest_7 (by decide) ?_
  refine lv_icmp_gt (tgt := 28) hx hb dX7_digest_8 (by decide) (fun h8 => absurd h8 (by decide)) (fun _ => ?_)
  refine lv_lload_n hx hb dX7_digest_11 rfl (lv_at hl 1 rfl) ?_
  refine lv_aload_n hx hb dX7_digest_12 rfl (lv_at hl 2 rfl) ?_
  refine lv_iload_n hx hb dX7_digest_13 rfl (lv_at hl 0 rfl) ?_
  have cut14 : Cut (xw κ a) (xw κ a) ([]) := (Cut.all 45 rfl (by decide))
  refine zc_i hG cut14 (zr_V (k := 0) (ci := 7) (n := 1) (As := [.int 3]) (rest := [.long ((((((58089 * 31) + 0) * 31) + 0) * 31) + 0)]) hC hG hE hT cut14 (z_201_many l hst D κ E0 H.size a) rfl rfl w1200 w2 w1061 w1059 w1060 (by decide +kernel) ⟨Nat.le_of_ble_eq_true rfl, Nat.le_of_ble_eq_true rfl⟩ rfl hl.1 rfl (Nat.le_of_ble_eq_true rfl) dX7_digest_14 ⟨Nat.le_of_ble_eq_true rfl, Nat.le_of_ble_eq_true rfl⟩) (fun z7 H locs hG => ?_)
  have hG : BW D κ (xw κ a) _ s H locs := hG
  refine lv_i2l (v := 0) hx hb dX7_digest_17 (by decide) ?_
  have cut18 : Cut (xw κ a) (xw κ a) ([]) := (Cut.all 45 rfl (by decide))
  refine zc_l hG cut18 (zr_S (n := 2) (As := [.long ((((((58089 * 31) + 0) * 31) + 0) * 31) + 0), .long 0]) (rest := []) hC hG hE hT cut18 (z_262_mix l hst D κ E0 H.size a ((((((58089 * 31) + 0) * 31) + 0) * 31) + 0)) w1201 w2 w1203 w1202 (by decide +kernel) ⟨Nat.le_of_ble_eq_true rfl, Nat.le_of_ble_eq_true rfl⟩ rfl hl.1 rfl (Nat.le_of_ble_eq_true rfl) dX7_digest_18 ⟨Nat.le_of_ble_eq_true rfl, Nat.le_of_ble_eq_true rfl⟩) (fun z8 H locs hG => ?_)
  have hG : BW D κ (xw κ a) _ s H locs := hG
  refine lv_lstore_n (lv' := [(1, .long ((((((((58089 * 31) + 0) * 31) + 0) * 31) + 0) * 31) + 0)), (3, .int 3), (0, .ref (a 0))]) hx hb dX7_digest_21 rfl hl (by decide) rfl (fun ls hl => ?_)
  refine lv_iinc (v := 4) (lv' := [(3, .int 4), (1, .long ((((((((58089 * 31) + 0) * 31) + 0) * 31) + 0) * 31) + 0)), (0, .ref (a 0))]) hx hb dX7_digest_22 hl (k := 1) rfl (by decide) (by decide) rfl (fun ls hl => ?_)
  refine lv_goto (tgt := 6) hx hb dX7_digest_25 (by decide) ?_
  refine lv_iload_n hx hb dX7_digest_6 rfl (lv_at hl 0 rfl) ?_
  refine lv_iconst (v := 5) hx hb dX7_digest_7 (by decide) ?_
  refine lv_icmp_gt (tgt := 28) hx hb dX7_digest_8 (by decide) (fun h8 => absurd h8 (by decide)) (fun _ => ?_)
  refine lv_lload_n hx hb dX7_digest_11 rfl (lv_at hl 1 rfl) ?_
  refine lv_aload_n hx hb dX7_digest_12 rfl (lv_at hl 2 rfl) ?_
  refine lv_iload_n hx hb dX7_digest_13 rfl (lv_at hl 0 rfl) ?_
  have cut14 : Cut (xw κ a) (xw κ a) ([]) := (Cut.all 45 rfl (by decide))
  refine zc_i hG cut14 (zr_V (k := 0) (ci := 7) (n := 1) (As := [.int 4]) (rest := [.long ((((((((58089 * 31) + 0) * 31) + 0) * 31) + 0) * 31) + 0)]) hC hG hE hT cut14 (z_206_many l hst D κ E0 H.size a) rfl rfl w1200 w2 w1061 w1059 w1060 (by decide +kernel) ⟨Nat.le_of_ble_eq_true rfl, Nat.le_of_ble_eq_true rfl⟩ rfl hl.1 rfl (Nat.le_of_ble_eq_true rfl) dX7_digest_14 ⟨Nat.le_of_ble_eq_true rfl, Nat.le_of_ble_eq_true rfl⟩) (fun z9 H locs hG => ?_)
  have hG : BW D κ (xw κ a) _ s H locs := hG
  refine lv_i2l (v := 0) hx hb dX7_digest_17 (by decide) ?_
  have cut18 : Cut (xw κ a) (xw κ a) ([]) := (Cut.all 45 rfl (by decide))
  refine zc_l hG cut18 (zr_S (n := 2) (As := [.long ((((((((58089 * 31) + 0) * 31) + 0) * 31) + 0) * 31) + 0), .long 0]) (rest := []) hC hG hE hT cut18 (z_262_mix l hst D κ E0 H.size a ((((((((58089 * 31) + 0) * 31) + 0) * 31) + 0) * 31) + 0)) w1201 w2 w1203 w1202 (by decide +kernel) ⟨Nat.le_of_ble_eq_true rfl, Nat.le_of_ble_eq_true rfl⟩ rfl hl.1 rfl (Nat.le_of_ble_eq_true rfl) dX7_digest_18 ⟨Nat.le_of_ble_eq_true rfl, Nat.le_of_ble_eq_true rfl⟩) (fun z10 H locs hG => ?_)
  have hG : BW D κ (xw κ a) _ s H locs := hG
  refine lv_lstore_n (lv' := [(1, .long ((((((((((58089 * 31) + 0) * 31) + 0) * 31) + 0) * 31) + 0) * 31) + 0)), (3, .int 4), (0, .ref (a 0))]) hx hb dX7_digest_21 rfl hl (by decide) rfl (fun ls hl => ?_)
  refine lv_iinc (v := 5) (lv' := [(3, .int 5), (1, .long ((((((((((58089 * 31) + 0) * 31) + 0) * 31) + 0) * 31) + 0) * 31) + 0)), (0, .ref (a 0))]) hx hb dX7_digest_22 hl (k := 1) rfl (by decide) (by decide) rfl (fun ls hl => ?_)
  refine lv_goto (tgt := 6) hx hb dX7_digest_25 (by decide) ?_
  refine lv_iload_n hx hb dX7_digest_6 rfl (lv_at hl 0 rfl) ?_
  refine lv_iconst (v := 5) hx hb dX7_digest_7 (by decide) ?_
  refine lv_icmp_gt (tgt := 28) hx hb dX7_digest_8 (by decide) (fun h8 => absurd h8 (by decide)) (fun _ => ?_)
  refine lv_lload_n hx hb dX7_digest_11 rfl (lv_at hl 1 rfl) ?_
  refine lv_aload_n hx hb dX7_digest_12 rfl (lv_at hl 2 rfl) ?_
  refine lv_iload_n hx hb dX7_digest_13 rfl (lv_at hl 0 rfl) ?_
  have cut14 : Cut (xw κ a) (xw κ a) ([]) := (Cut.all 45 rfl (by decide))
  refine zc_i hG cut14 (zr_V (k := 0) (ci := 7) (n := 1) (As := [.int 5]) (rest := [.long ((((((((((58089 * 31) + 0) * 31) + 0) * 31) + 0) * 31) + 0) * 31) + 0)]) hC hG hE hT cut14 (z_212_many l hst D κ E0 H.size a) rfl rfl w1200 w2 w1061 w1059 w1060 (by decide +kernel) ⟨Nat.le_of_ble_eq_true rfl, Nat.le_of_ble_eq_true rfl⟩ rfl hl.1 rfl (Nat.le_of_ble_eq_true rfl) dX7_digest_14 ⟨Nat.le_of_ble_eq_true rfl, Nat.le_of_ble_eq_true rfl⟩) (fun z11 H locs hG => ?_)
  have hG : BW D κ (xw κ a) _ s H locs := hG
  refine lv_i2l (v := (-1)) hx hb dX7_digest_17 (by decide) ?_
  have cut18 : Cut (xw κ a) (xw κ a) ([]) := (Cut.all 45 rfl (by decide))
  refine zc_l hG cut18 (zr_S (n := 2) (As := [.long ((((((((((58089 * 31) + 0) * 31) + 0) * 31) + 0) * 31) + 0) * 31) + 0), .long (-1)]) (rest := []) hC hG hE hT cut18 (z_263_mix l hst D κ E0 H.size a ((((((((((58089 * 31) + 0) * 31) + 0) * 31) + 0) * 31) + 0) * 31) + 0)) w1201 w2 w1203 w1202 (by decide +kernel) ⟨Nat.le_of_ble_eq_true rfl, Nat.le_of_ble_eq_true rfl⟩ rfl hl.1 rfl (Nat.le_of_ble_eq_true rfl) dX7_digest_18 ⟨Nat.le_of_ble_eq_true rfl, Nat.le_of_ble_eq_true rfl⟩) (fun z12 H locs hG => ?_)
  have hG : BW D κ (xw κ a) _ s H locs := hG
  refine lv_lstore_n (lv' := [(1, .long ((((((((((((58089 * 31) + 0) * 31) + 0) * 31) + 0) * 31) + 0) * 31) + 0) * 31) + (-1))), (3, .int 5), (0, .ref (a 0))]) hx hb dX7_digest_21 rfl hl (by decide) rfl (fun ls hl => ?_)
  refine lv_iinc (v := 6) (lv' := [(3, .int 6), (1, .long ((((((((((((58089 * 31) + 0) * 31) + 0) * 31) + 0) * 31) + 0) * 31) + 0) * 31) + (-1))), (0, .ref (a 0))]) hx hb dX7_digest_22 hl (k := 1) rfl (by decide) (by decide) rfl (fun ls hl => ?_)
  refine lv_goto (tgt := 6) hx hb dX7_digest_25 (by decide) ?_
  refine lv_iload_n hx hb dX7_digest_6 rfl (lv_at hl 0 rfl) ?_
  refine lv_iconst (v := 5) hx hb dX7_digest_7 (by decide) ?_
  refine lv_icmp_gt (tgt := 28) hx hb dX7_digest_8 (by decide) (fun _ => ?_) (fun h8 => absurd (by decide) h8)
  refine lv_lload_n hx hb dX7_digest_28 rfl (lv_at hl 1 rfl) ?_
  refine lv_aload_n hx hb dX7_digest_29 rfl (lv_at hl 2 rfl) ?_
  have cut30 : Cut (xw κ a) (xw κ a) ([]) := (Cut.all 45 rfl (by decide))
  refine zc_i hG cut30 (zr_V (k := 0) (ci := 7) (n := 0) (As := []) (rest := [.long ((((((((((((58089 * 31) + 0) * 31) + 0) * 31) + 0) * 31) + 0) * 31) + 0) * 31) + (-1))]) hC hG hE hT cut30 (z_164_whyNotPosted l hst D κ E0 H.size a) rfl rfl w501 w2 w504 w502 w503 (by decide +kernel) ⟨Nat.le_of_ble_eq_true rfl, Nat.le_of_ble_eq_true rfl⟩ rfl hl.1 rfl (Nat.le_of_ble_eq_true rfl) dX7_digest_30 ⟨Nat.le_of_ble_eq_true rfl, Nat.le_of_ble_eq_true rfl⟩) (fun z13 H locs hG => ?_)
  have hG : BW D κ (xw κ a) _ s H locs := hG
  refine lv_i2l (v := 1) hx hb dX7_digest_33 (by decide) ?_
  have cut34 : Cut (xw κ a) (xw κ a) ([]) := (Cut.all 45 rfl (by decide))
  refine zc_l hG cut34 (zr_S (n := 2) (As := [.long ((((((((((((58089 * 31) + 0) * 31) + 0) * 31) + 0) * 31) + 0) * 31) + 0) * 31) + (-1)), .long 1]) (rest := []) hC hG hE hT cut34 (z_264_mix l hst D κ E0 H.size a ((((((((((((58089 * 31) + 0) * 31) + 0) * 31) + 0) * 31) + 0) * 31) + 0) * 31) + (-1))) w1201 w2 w1203 w1202 (by decide +kernel) ⟨Nat.le_of_ble_eq_true rfl, Nat.le_of_ble_eq_true rfl⟩ rfl hl.1 rfl (Nat.le_of_ble_eq_true rfl) dX7_digest_34 ⟨Nat.le_of_ble_eq_true rfl, Nat.le_of_ble_eq_true rfl⟩) (fun z14 H locs hG => ?_)
  have hG : BW D κ (xw κ a) _ s H locs := hG
  refine lv_lstore_n (lv' := [(1, .long ((((((((((((((58089 * 31) + 0) * 31) + 0) * 31) + 0) * 31) + 0) * 31) + 0) * 31) + (-1)) * 31) + 1)), (3, .int 6), (0, .ref (a 0))]) hx hb dX7_digest_37 rfl hl (by decide) rfl (fun ls hl => ?_)
  refine lv_iconst (v := 0) hx hb dX7_digest_38 (by decide) ?_
  refine lv_istore_n (lv' := [(3, .int 0), (1, .long ((((((((((((((58089 * 31) + 0) * 31) + 0) * 31) + 0) * 31) + 0) * 31) + 0) * 31) + (-1)) * 31) + 1)), (0, .ref (a 0))]) hx hb dX7_digest_39 rfl hl (by decide) rfl (fun ls hl => ?_)
  refine lv_iload_n hx hb dX7_digest_40 rfl (lv_at hl 0 rfl) ?_
  refine lv_aload_n hx hb dX7_digest_41 rfl (lv_at hl 2 rfl) ?_
  refine bw_get (C := RX7) (T := TX7) (N := 10) (ci := 7) (v := .ref (a 1)) 0 (by decide) 0 hC hG iwX7 (xw_0 κ a) rfl w16 rfl rfl dX7_digest_42 ?_
  refine bw_get (C := RX0) (T := TX0) (N := 6) (ci := 0) (v := .int 0) 5 (by decide) 1 hC hG iwX0 (xw_1 κ a) rfl w211 rfl rfl dX7_digest_45 ?_
  refine lv_icmp_ge (tgt := 64) hx hb dX7_digest_48 (by decide) (fun _ => ?_) (fun h48 => absurd (by decide) h48)
  refine lv_iconst (v := 0) hx hb dX7_digest_64 (by decide) ?_
  refine lv_istore_n (lv' := [(3, .int 0), (1, .long ((((((((((((((58089 * 31) + 0) * 31) + 0) * 31) + 0) * 31) + 0) * 31) + 0) * 31) + (-1)) * 31) + 1)), (0, .ref (a 0))]) hx hb dX7_digest_65 rfl hl (by decide) rfl (fun ls hl => ?_)
  refine lv_iload_n hx hb dX7_digest_66 rfl (lv_at hl 0 rfl) ?_
  refine lv_aload_n hx hb dX7_digest_67 rfl (lv_at hl 2 rfl) ?_
  refine bw_get (C := RX7) (T := TX7) (N := 10) (ci := 7) (v := .ref (a 12)) 2 (by decide) 0 hC hG iwX7 (xw_0 κ a) rfl w24 rfl rfl dX7_digest_68 ?_
  refine bw_get (C := RX3) (T := TX3) (N := 12) (ci := 3) (v := .int 0) 6 (by decide) 12 hC hG iwX3 (xw_12 κ a) rfl w1199 rfl rfl dX7_digest_71 ?_
  refine lv_icmp_ge (tgt := 90) hx hb dX7_digest_74 (by decide) (fun _ => ?_) (fun h74 => absurd (by decide) h74)
  refine lv_iconst (v := 0) hx hb dX7_digest_90 (by decide) ?_
  refine lv_istore_n (lv' := [(3, .int 0), (1, .long ((((((((((((((58089 * 31) + 0) * 31) + 0) * 31) + 0) * 31) + 0) * 31) + 0) * 31) + (-1)) * 31) + 1)), (0, .ref (a 0))]) hx hb dX7_digest_91 rfl hl (by decide) rfl (fun ls hl => ?_)
  refine lv_iload_n hx hb dX7_digest_92 rfl (lv_at hl 0 rfl) ?_
  refine lv_aload_n hx hb dX7_digest_93 rfl (lv_at hl 2 rfl) ?_
  refine bw_get (C := RX7) (T := TX7) (N := 10) (ci := 7) (v := .ref (a 28)) 4 (by decide) 0 hC hG iwX7 (xw_0 κ a) rfl w32 rfl rfl dX7_digest_94 ?_
  refine bw_get (C := RX5) (T := TX5) (N := 5) (ci := 5) (v := .int 0) 4 (by decide) 28 hC hG iwX5 (xw_28 κ a) rfl w863 rfl rfl dX7_digest_97 ?_
  refine lv_icmp_ge (tgt := 120) hx hb dX7_digest_100 (by decide) (fun _ => ?_) (fun h100 => absurd (by decide) h100)
  refine lv_iconst (v := 0) hx hb dX7_digest_120 (by decide) ?_
  refine lv_istore_n (lv' := [(3, .int 0), (1, .long ((((((((((((((58089 * 31) + 0) * 31) + 0) * 31) + 0) * 31) + 0) * 31) + 0) * 31) + (-1)) * 31) + 1)), (0, .ref (a 0))]) hx hb dX7_digest_121 rfl hl (by decide) rfl (fun ls hl => ?_)
  refine lv_iload_n hx hb dX7_digest_122 rfl (lv_at hl 0 rfl) ?_
  refine lv_iconst (v := 4) hx hb dX7_digest_123 (by decide) ?_
  refine lv_icmp_gt (tgt := 143) hx hb dX7_digest_124 (by decide) (fun h124 => absurd h124 (by decide)) (fun _ => ?_)
  refine lv_lload_n hx hb dX7_digest_127 rfl (lv_at hl 1 rfl) ?_
  refine lv_aload_n hx hb dX7_digest_128 rfl (lv_at hl 2 rfl) ?_
  refine lv_iload_n hx hb dX7_digest_129 rfl (lv_at hl 0 rfl) ?_
  have cut130 : Cut (xw κ a) (xw κ a) ([]) := (Cut.all 45 rfl (by decide))
  refine zc_l hG cut130 (zr_V (k := 0) (ci := 7) (n := 1) (As := [.int 0]) (rest := [.long ((((((((((((((58089 * 31) + 0) * 31) + 0) * 31) + 0) * 31) + 0) * 31) + 0) * 31) + (-1)) * 31) + 1)]) hC hG hE hT cut130 (z_265_ofKind l hst D κ E0 H.size a) rfl rfl w1218 w2 w1121 w1119 w1120 (by decide +kernel) ⟨Nat.le_of_ble_eq_true rfl, Nat.le_of_ble_eq_true rfl⟩ rfl hl.1 rfl (Nat.le_of_ble_eq_true rfl) dX7_digest_130 ⟨Nat.le_of_ble_eq_true rfl, Nat.le_of_ble_eq_true rfl⟩) (fun z15 H locs hG => ?_)
  have hG : BW D κ (xw κ a) _ s H locs := hG
  have cut133 : Cut (xw κ a) (xw κ a) ([]) := (Cut.all 45 rfl (by decide))
  refine zc_l hG cut133 (zr_S (n := 2) (As := [.long ((((((((((((((58089 * 31) + 0) * 31) + 0) * 31) + 0) * 31) + 0) * 31) + 0) * 31) + (-1)) * 31) + 1), .long 0]) (rest := []) hC hG hE hT cut133 (z_262_mix l hst D κ E0 H.size a ((((((((((((((58089 * 31) + 0) * 31) + 0) * 31) + 0) * 31) + 0) * 31) + 0) * 31) + (-1)) * 31) + 1)) w1201 w2 w1203 w1202 (by decide +kernel) ⟨Nat.le_of_ble_eq_true rfl, Nat.le_of_ble_eq_true rfl⟩ rfl hl.1 rfl (Nat.le_of_ble_eq_true rfl) dX7_digest_133 ⟨Nat.le_of_ble_eq_true rfl, Nat.le_of_ble_eq_true rfl⟩) (fun z16 H locs hG => ?_)
  have hG : BW D κ (xw κ a) _ s H locs := hG
  refine lv_lstore_n (lv' := [(1, .long ((((((((((((((((58089 * 31) + 0) * 31) + 0) * 31) + 0) * 31) + 0) * 31) + 0) * 31) + (-1)) * 31) + 1) * 31) + 0)), (3, .int 0), (0, .ref (a 0))]) hx hb dX7_digest_136 rfl hl (by decide) rfl (fun ls hl => ?_)
  refine lv_iinc (v := 1) (lv' := [(3, .int 1), (1, .long ((((((((((((((((58089 * 31) + 0) * 31) + 0) * 31) + 0) * 31) + 0) * 31) + 0) * 31) + (-1)) * 31) + 1) * 31) + 0)), (0, .ref (a 0))]) hx hb dX7_digest_137 hl (k := 1) rfl (by decide) (by decide) rfl (fun ls hl => ?_)
  refine lv_goto (tgt := 122) hx hb dX7_digest_140 (by decide) ?_
  refine lv_iload_n hx hb dX7_digest_122 rfl (lv_at hl 0 rfl) ?_
  refine lv_iconst (v := 4) hx hb dX7_digest_123 (by decide) ?_
  refine lv_icmp_gt (tgt := 143) hx hb dX7_digest_124 (by decide) (fun h124 => absurd h124 (by decide)) (fun _ => ?_)
  refine lv_lload_n hx hb dX7_digest_127 rfl (lv_at hl 1 rfl) ?_
  refine lv_aload_n hx hb dX7_digest_128 rfl (lv_at hl 2 rfl) ?_
  refine lv_iload_n hx hb dX7_digest_129 rfl (lv_at hl 0 rfl) ?_
  have cut130 : Cut (xw κ a) (xw κ a) ([]) := (Cut.all 45 rfl (by decide))
  refine zc_l hG cut130 (zr_V (k := 0) (ci := 7) (n := 1) (As := [.int 1]) (rest := [.long ((((((((((((((((58089 * 31) + 0) * 31) + 0) * 31) + 0) * 31) + 0) * 31) + 0) * 31) + (-1)) * 31) + 1) * 31) + 0)]) hC hG hE hT cut130 (z_266_ofKind l hst D κ E0 H.size a) rfl rfl w1218 w2 w1121 w1119 w1120 (by decide +kernel) ⟨Nat.le_of_ble_eq_true rfl, Nat.le_of_ble_eq_true rfl⟩ rfl hl.1 rfl (Nat.le_of_ble_eq_true rfl) dX7_digest_130 ⟨Nat.le_of_ble_eq_true rfl, Nat.le_of_ble_eq_true rfl⟩) (fun z17 H locs hG => ?_)
  have hG : BW D κ (xw κ a) _ s H locs := hG
  have cut133 : Cut (xw κ a) (xw κ a) ([]) := (Cut.all 45 rfl (by decide))
  refine zc_l hG cut133 (zr_S (n := 2) (As := [.long ((((((((((((((((58089 * 31) + 0) * 31) + 0) * 31) + 0) * 31) + 0) * 31) + 0) * 31) + (-1)) * 31) + 1) * 31) + 0), .long 0]) (rest := []) hC hG hE hT cut133 (z_262_mix l hst D κ E0 H.size a ((((((((((((((((58089 * 31) + 0) * 31) + 0) * 31) + 0) * 31) + 0) * 31) + 0) * 31) + (-1)) * 31) + 1) * 31) + 0)) w1201 w2 w1203 w1202 (by decide +kernel) ⟨Nat.le_of_ble_eq_true rfl, Nat.le_of_ble_eq_true rfl⟩ rfl hl.1 rfl (Nat.le_of_ble_eq_true rfl) dX7_digest_133 ⟨Nat.le_of_ble_eq_true rfl, Nat.le_of_ble_eq_true rfl⟩) (fun z18 H locs hG => ?_)
  have hG : BW D κ (xw κ a) _ s H locs := hG
  refine lv_lstore_n (lv' := [(1, .long ((((((((((((((((((58089 * 31) + 0) * 31) + 0) * 31) + 0) * 31) + 0) * 31) + 0) * 31) + (-1)) * 31) + 1) * 31) + 0) * 31) + 0)), (3, .int 1), (0, .ref (a 0))]) hx hb dX7_digest_136 rfl hl (by decide) rfl (fun ls hl => ?_)
  refine lv_iinc (v := 2) (lv' := [(3, .int 2), (1, .long ((((((((((((((((((58089 * 31) + 0) * 31) + 0) * 31) + 0) * 31) + 0) * 31) + 0) * 31) + (-1)) * 31) + 1) * 31) + 0) * 31) + 0)), (0, .ref (a 0))]) hx hb dX7_digest_137 hl (k := 1) rfl (by decide) (by decide) rfl (fun ls hl => ?_)
  refine lv_goto (tgt := 122) hx hb dX7_digest_140 (by decide) ?_
  refine lv_iload_n hx hb dX7_digest_122 rfl (lv_at hl 0 rfl) ?_
  refine lv_iconst (v := 4) hx hb dX7_digest_123 (by decide) ?_
  refine lv_icmp_gt (tgt := 143) hx hb dX7_digest_124 (by decide) (fun h124 => absurd h124 (by decide)) (fun _ => ?_)
  refine lv_lload_n hx hb dX7_digest_127 rfl (lv_at hl 1 rfl) ?_
  refine lv_aload_n hx hb dX7_digest_128 rfl (lv_at hl 2 rfl) ?_
  refine lv_iload_n hx hb dX7_digest_129 rfl (lv_at hl 0 rfl) ?_
  have cut130 : Cut (xw κ a) (xw κ a) ([]) := (Cut.all 45 rfl (by decide))
  refine zc_l hG cut130 (zr_V (k := 0) (ci := 7) (n := 1) (As := [.int 2]) (rest := [.long ((((((((((((((((((58089 * 31) + 0) * 31) + 0) * 31) + 0) * 31) + 0) * 31) + 0) * 31) + (-1)) * 31) + 1) * 31) + 0) * 31) + 0)]) hC hG hE hT cut130 (z_267_ofKind l hst D κ E0 H.size a) rfl rfl w1218 w2 w1121 w1119 w1120 (by decide +kernel) ⟨Nat.le_of_ble_eq_true rfl, Nat.le_of_ble_eq_true rfl⟩ rfl hl.1 rfl (Nat.le_of_ble_eq_true rfl) dX7_digest_130 ⟨Nat.le_of_ble_eq_true rfl, Nat.le_of_ble_eq_true rfl⟩) (fun z19 H locs hG => ?_)
  have hG : BW D κ (xw κ a) _ s H locs := hG
  have cut133 : Cut (xw κ a) (xw κ a) ([]) := (Cut.all 45 rfl (by decide))
  refine zc_l hG cut133 (zr_S (n := 2) (As := [.long ((((((((((((((((((58089 * 31) + 0) * 31) + 0) * 31) + 0) * 31) + 0) * 31) + 0) * 31) + (-1)) * 31) + 1) * 31) + 0) * 31) + 0), .long 0]) (rest := []) hC hG hE hT cut133 (z_262_mix l hst D κ E0 H.size a ((((((((((((((((((58089 * 31) + 0) * 31) + 0) * 31) + 0) * 31) + 0) * 31) + 0) * 31) + (-1)) * 31) + 1) * 31) + 0) * 31) + 0)) w1201 w2 w1203 w1202 (by decide +kernel) ⟨Nat.le_of_ble_eq_true rfl, Nat.le_of_ble_eq_true rfl⟩ rfl hl.1 rfl (Nat.le_of_ble_eq_true rfl) dX7_digest_133 ⟨Nat.le_of_ble_eq_true rfl, Nat.le_of_ble_eq_true rfl⟩) (fun z20 H locs hG => ?_)
  have hG : BW D κ (xw κ a) _ s H locs := hG
  refine lv_lstore_n (lv' := [(1, .long ((((((((((((((((((((58089 * 31) + 0) * 31) + 0) * 31) + 0) * 31) + 0) * 31) + 0) * 31) + (-1)) * 31) + 1) * 31) + 0) * 31) + 0) * 31) + 0)), (3, .int 2), (0, .ref (a 0))]) hx hb dX7_digest_136 rfl hl (by decide) rfl (fun ls hl => ?_)
  refine lv_iinc (v := 3) (lv' := [(3, .int 3), (1, .long ((((((((((((((((((((58089 * 31) + 0) * 31) + 0) * 31) + 0) * 31) + 0) * 31) + 0) * 31) + (-1)) * 31) + 1) * 31) + 0) * 31) + 0) * 31) + 0)), (0, .ref (a 0))]) hx hb dX7_digest_137 hl (k := 1) rfl (by decide) (by decide) rfl (fun ls hl => ?_)
  refine lv_goto (tgt := 122) hx hb dX7_digest_140 (by decide) ?_
  refine lv_iload_n hx hb dX7_digest_122 rfl (lv_at hl 0 rfl) ?_
  refine lv_iconst (v := 4) hx hb dX7_digest_123 (by decide) ?_
  refine lv_icmp_gt (tgt := 143) hx hb dX7_digest_124 (by decide) (fun h124 => absurd h124 (by decide)) (fun _ => ?_)
  refine lv_lload_n hx hb dX7_digest_127 rfl (lv_at hl 1 rfl) ?_
  refine lv_aload_n hx hb dX7_digest_128 rfl (lv_at hl 2 rfl) ?_
  refine lv_iload_n hx hb dX7_digest_129 rfl (lv_at hl 0 rfl) ?_
  have cut130 : Cut (xw κ a) (xw κ a) ([]) := (Cut.all 45 rfl (by decide))
  refine zc_l hG cut130 (zr_V (k := 0) (ci := 7) (n := 1) (As := [.int 3]) (rest := [.long ((((((((((((((((((((58089 * 31) + 0) * 31) + 0) * 31) + 0) * 31) + 0) * 31) + 0) * 31) + (-1)) * 31) + 1) * 31) + 0) * 31) + 0) * 31) + 0)]) hC hG hE hT cut130 (z_268_ofKind l hst D κ E0 H.size a) rfl rfl w1218 w2 w1121 w1119 w1120 (by decide +kernel) ⟨Nat.le_of_ble_eq_true rfl, Nat.le_of_ble_eq_true rfl⟩ rfl hl.1 rfl (Nat.le_of_ble_eq_true rfl) dX7_digest_130 ⟨Nat.le_of_ble_eq_true rfl, Nat.le_of_ble_eq_true rfl⟩) (fun z21 H locs hG => ?_)
  have hG : BW D κ (xw κ a) _ s H locs := hG
  have cut133 : Cut (xw κ a) (xw κ a) ([]) := (Cut.all 45 rfl (by decide))
  refine zc_l hG cut133 (zr_S (n := 2) (As := [.long ((((((((((((((((((((58089 * 31) + 0) * 31) + 0) * 31) + 0) * 31) + 0) * 31) + 0) * 31) + (-1)) * 31) + 1) * 31) + 0) * 31) + 0) * 31) + 0), .long 0]) (rest := []) hC hG hE hT cut133 (z_262_mix l hst D κ E0 H.size a ((((((((((((((((((((58089 * 31) + 0) * 31) + 0) * 31) + 0) * 31) + 0) * 31) + 0) * 31) + (-1)) * 31) + 1) * 31) + 0) * 31) + 0) * 31) + 0)) w1201 w2 w1203 w1202 (by decide +kernel) ⟨Nat.le_of_ble_eq_true rfl, Nat.le_of_ble_eq_true rfl⟩ rfl hl.1 rfl (Nat.le_of_ble_eq_true rfl) dX7_digest_133 ⟨Nat.le_of_ble_eq_true rfl, Nat.le_of_ble_eq_true rfl⟩) (fun z22 H locs hG => ?_)
  have hG : BW D κ (xw κ a) _ s H locs := hG
  refine lv_lstore_n (lv' := [(1, .long ((((((((((((((((((((((58089 * 31) + 0) * 31) + 0) * 31) + 0) * 31) + 0) * 31) + 0) * 31) + (-1)) * 31) + 1) * 31) + 0) * 31) + 0) * 31) + 0) * 31) + 0)), (3, .int 3), (0, .ref (a 0))]) hx hb dX7_digest_136 rfl hl (by decide) rfl (fun ls hl => ?_)
  refine lv_iinc (v := 4) (lv' := [(3, .int 4), (1, .long ((((((((((((((((((((((58089 * 31) + 0) * 31) + 0) * 31) + 0) * 31) + 0) * 31) + 0) * 31) + (-1)) * 31) + 1) * 31) + 0) * 31) + 0) * 31) + 0) * 31) + 0)), (0, .ref (a 0))]) hx hb dX7_digest_137 hl (k := 1) rfl (by decide) (by decide) rfl (fun ls hl => ?_)
  refine lv_goto (tgt := 122) hx hb dX7_digest_140 (by decide) ?_
  refine lv_iload_n hx hb dX7_digest_122 rfl (lv_at hl 0 rfl) ?_
  refine lv_iconst (v := 4) hx hb dX7_digest_123 (by decide) ?_
  refine lv_icmp_gt (tgt := 143) hx hb dX7_digest_124 (by decide) (fun h124 => absurd h124 (by decide)) (fun _ => ?_)
  refine lv_lload_n hx hb dX7_digest_127 rfl (lv_at hl 1 rfl) ?_
  refine lv_aload_n hx hb dX7_digest_128 rfl (lv_at hl 2 rfl) ?_
  refine lv_iload_n hx hb dX7_digest_129 rfl (lv_at hl 0 rfl) ?_
  have cut130 : Cut (xw κ a) (xw κ a) ([]) := (Cut.all 45 rfl (by decide))
  refine zc_l hG cut130 (zr_V (k := 0) (ci := 7) (n := 1) (As := [.int 4]) (rest := [.long ((((((((((((((((((((((58089 * 31) + 0) * 31) + 0) * 31) + 0) * 31) + 0) * 31) + 0) * 31) + (-1)) * 31) + 1) * 31) + 0) * 31) + 0) * 31) + 0) * 31) + 0)]) hC hG hE hT cut130 (z_269_ofKind l hst D κ E0 H.size a) rfl rfl w1218 w2 w1121 w1119 w1120 (by decide +kernel) ⟨Nat.le_of_ble_eq_true rfl, Nat.le_of_ble_eq_true rfl⟩ rfl hl.1 rfl (Nat.le_of_ble_eq_true rfl) dX7_digest_130 ⟨Nat.le_of_ble_eq_true rfl, Nat.le_of_ble_eq_true rfl⟩) (fun z23 H locs hG => ?_)
  have hG : BW D κ (xw κ a) _ s H locs := hG
  have cut133 : Cut (xw κ a) (xw κ a) ([]) := (Cut.all 45 rfl (by decide))
  refine zc_l hG cut133 (zr_S (n := 2) (As := [.long ((((((((((((((((((((((58089 * 31) + 0) * 31) + 0) * 31) + 0) * 31) + 0) * 31) + 0) * 31) + (-1)) * 31) + 1) * 31) + 0) * 31) + 0) * 31) + 0) * 31) + 0), .long 0]) (rest := []) hC hG hE hT cut133 (z_262_mix l hst D κ E0 H.size a ((((((((((((((((((((((58089 * 31) + 0) * 31) + 0) * 31) + 0) * 31) + 0) * 31) + 0) * 31) + (-1)) * 31) + 1) * 31) + 0) * 31) + 0) * 31) + 0) * 31) + 0)) w1201 w2 w1203 w1202 (by decide +kernel) ⟨Nat.le_of_ble_eq_true rfl, Nat.le_of_ble_eq_true rfl⟩ rfl hl.1 rfl (Nat.le_of_ble_eq_true rfl) dX7_digest_133 ⟨Nat.le_of_ble_eq_true rfl, Nat.le_of_ble_eq_true rfl⟩) (fun z24 H locs hG => ?_)
  have hG : BW D κ (xw κ a) _ s H locs := hG
  refine lv_lstore_n (lv' := [(1, .long ((((((((((((((((((((((((58089 * 31) + 0) * 31) + 0) * 31) + 0) * 31) + 0) * 31) + 0) * 31) + (-1)) * 31) + 1) * 31) + 0) * 31) + 0) * 31) + 0) * 31) + 0) * 31) + 0)), (3, .int 4), (0, .ref (a 0))]) hx hb dX7_digest_136 rfl hl (by decide) rfl (fun ls hl => ?_)
  refine lv_iinc (v := 5) (lv' := [(3, .int 5), (1, .long ((((((((((((((((((((((((58089 * 31) + 0) * 31) + 0) * 31) + 0) * 31) + 0) * 31) + 0) * 31) + (-1)) * 31) + 1) * 31) + 0) * 31) + 0) * 31) + 0) * 31) + 0) * 31) + 0)), (0, .ref (a 0))]) hx hb dX7_digest_137 hl (k := 1) rfl (by decide) (by decide) rfl (fun ls hl => ?_)
  refine lv_goto (tgt := 122) hx hb dX7_digest_140 (by decide) ?_
  refine lv_iload_n hx hb dX7_digest_122 rfl (lv_at hl 0 rfl) ?_
  refine lv_iconst (v := 4) hx hb dX7_digest_123 (by decide) ?_
  refine lv_icmp_gt (tgt := 143) hx hb dX7_digest_124 (by decide) (fun _ => ?_) (fun h124 => absurd (by decide) h124)
  refine lv_lload_n hx hb dX7_digest_143 rfl (lv_at hl 1 rfl) ?_
  refine lv_aload_n hx hb dX7_digest_144 rfl (lv_at hl 2 rfl) ?_
  refine lv_aload_n hx hb dX7_digest_145 rfl (lv_at hl 2 rfl) ?_
  refine bw_get (C := RX7) (T := TX7) (N := 10) (ci := 7) (v := .int 0) 9 (by decide) 0 hC hG iwX7 (xw_0 κ a) rfl w43 rfl rfl dX7_digest_146 ?_
  have cut149 : Cut (xw κ a) (xw κ a) ([]) := (Cut.all 45 rfl (by decide))
  refine zc_l hG cut149 (zr_V (k := 0) (ci := 7) (n := 1) (As := [.int 0]) (rest := [.long ((((((((((((((((((((((((58089 * 31) + 0) * 31) + 0) * 31) + 0) * 31) + 0) * 31) + 0) * 31) + (-1)) * 31) + 1) * 31) + 0) * 31) + 0) * 31) + 0) * 31) + 0) * 31) + 0)]) hC hG hE hT cut149 (z_272_wouldClose l hst D κ E0 H.size a) rfl rfl w1219 w2 w1177 w1175 w1176 (by decide +kernel) ⟨Nat.le_of_ble_eq_true rfl, Nat.le_of_ble_eq_true rfl⟩ rfl hl.1 rfl (Nat.le_of_ble_eq_true rfl) dX7_digest_149 ⟨Nat.le_of_ble_eq_true rfl, Nat.le_of_ble_eq_true rfl⟩) (fun z25 H locs hG => ?_)
  have hG : BW D κ (xw κ a) _ s H locs := hG
  have cut152 : Cut (xw κ a) (xw κ a) ([]) := (Cut.all 45 rfl (by decide))
  refine zc_l hG cut152 (zr_S (n := 2) (As := [.long ((((((((((((((((((((((((58089 * 31) + 0) * 31) + 0) * 31) + 0) * 31) + 0) * 31) + 0) * 31) + (-1)) * 31) + 1) * 31) + 0) * 31) + 0) * 31) + 0) * 31) + 0) * 31) + 0), .long (-0)]) (rest := []) hC hG hE hT cut152 (z_273_mix l hst D κ E0 H.size a ((((((((((((((((((((((((58089 * 31) + 0) * 31) + 0) * 31) + 0) * 31) + 0) * 31) + 0) * 31) + (-1)) * 31) + 1) * 31) + 0) * 31) + 0) * 31) + 0) * 31) + 0) * 31) + 0) (-0)) w1201 w2 w1203 w1202 (by decide +kernel) ⟨Nat.le_of_ble_eq_true rfl, Nat.le_of_ble_eq_true rfl⟩ rfl hl.1 rfl (Nat.le_of_ble_eq_true rfl) dX7_digest_152 ⟨Nat.le_of_ble_eq_true rfl, Nat.le_of_ble_eq_true rfl⟩) (fun z26 H locs hG => ?_)
  have hG : BW D κ (xw κ a) _ s H locs := hG
  exact ze_l (qs := fun _ => 0) hC hG rfl rfl hr hk (Nat.le_of_ble_eq_true rfl) (Nat.le_of_ble_eq_true rfl) dX7_digest_155
theorem dX14_add_0 : decode cX14_add 0 = .ok (.lload_n 0, 1) := by decide +kernel
theorem dX14_add_1 : decode cX14_add 1 = .ok (.ldc2_w 353, 3) := by decide +kernel
theorem dX14_add_4 : decode cX14_add 4 = .ok (.lmul, 1) := by decide +kernel
theorem dX14_add_5 : decode cX14_add 5 = .ok (.lload_n 2, 1) := by decide +kernel
theorem dX14_add_6 : decode cX14_add 6 = .ok (.ladd, 1) := by decide +kernel
theorem dX14_add_7 : decode cX14_add 7 = .ok (.lreturn, 1) := by decide +kernel
set_option maxHeartbeats 4000000 in
set_option maxRecDepth 100000 in
theorem z_275_add (l : Launch) (hst : l.stackTraces = false) (D : va_G) (κ : K4) (E0 : Nat) (sz : Nat) (b : Nat → Nat) : NM l yX14_add cX14_add 4 (some .long) 0 0 0 0 E0 D κ (mw κ b E0 0) sz [.long 58089, .long 0] (QL D κ (mw κ b E0 0) sz ((58089 * 31) + 0) (fun qs : W1 => mw κ b E0 0)) := by
  refine NM.of (by decide +kernel) (Nat.le_of_ble_eq_true rfl) ?_
  intro p e s m below meth c ls hC hr hk hin hsz hE hT H locs hG hl
  have hx := hC.1
  have hb := hC.2.1
  have hl : lv_has ls 4 [(0, .long 58089), (2, .long 0)] := hl
  refine lv_lload_n hx hb dX14_add_0 rfl (lv_at hl 0 rfl) ?_
  refine lv_ldc2 hx hb hC.2.2.2.1 (hC.2.2.2.2 _ w1228) dX14_add_1 ?_
  refine lv_lmul hx hb dX14_add_4 ?_
  refine lv_lload_n hx hb dX14_add_5 rfl (lv_at hl 1 rfl) ?_
  refine lv_ladd hx hb dX14_add_6 ?_
  exact ze_l (qs := fun _ => 0) hC hG rfl rfl hr hk (Nat.le_of_ble_eq_true rfl) (Nat.le_of_ble_eq_true rfl) dX14_add_7
set_option maxHeartbeats 4000000 in
set_option maxRecDepth 100000 in
theorem z_276_add (l : Launch) (hst : l.stackTraces = false) (D : va_G) (κ : K4) (E0 : Nat) (sz : Nat) (b : Nat → Nat) (y0 : Int64) : NM l yX14_add cX14_add 4 (some .long) 0 0 0 0 E0 D κ (mw κ b E0 0) sz [.long y0, .long 0] (QL D κ (mw κ b E0 0) sz ((y0 * 31) + 0) (fun qs : W1 => mw κ b E0 0)) := by
  refine NM.of (by decide +kernel) (Nat.le_of_ble_eq_true rfl) ?_
  intro p e s m below meth c ls hC hr hk hin hsz hE hT H locs hG hl
  have hx := hC.1
  have hb := hC.2.1
  have hl : lv_has ls 4 [(0, .long y0), (2, .long 0)] := hl
  refine lv_lload_n hx hb dX14_add_0 rfl (lv_at hl 0 rfl) ?_
  refine lv_ldc2 hx hb hC.2.2.2.1 (hC.2.2.2.2 _ w1228) dX14_add_1 ?_
  refine lv_lmul hx hb dX14_add_4 ?_
  refine lv_lload_n hx hb dX14_add_5 rfl (lv_at hl 1 rfl) ?_
  refine lv_ladd hx hb dX14_add_6 ?_
  exact ze_l (qs := fun _ => 0) hC hG rfl rfl hr hk (Nat.le_of_ble_eq_true rfl) (Nat.le_of_ble_eq_true rfl) dX14_add_7
set_option maxHeartbeats 4000000 in
set_option maxRecDepth 100000 in
theorem z_277_add (l : Launch) (hst : l.stackTraces = false) (D : va_G) (κ : K4) (E0 : Nat) (sz : Nat) (b : Nat → Nat) (y0 : Int64) : NM l yX14_add cX14_add 4 (some .long) 0 0 0 0 E0 D κ (mw κ b E0 0) sz [.long y0, .long (-1)] (QL D κ (mw κ b E0 0) sz ((y0 * 31) + (-1)) (fun qs : W1 => mw κ b E0 0)) := by
  refine NM.of (by decide +kernel) (Nat.le_of_ble_eq_true rfl) ?_
  intro p e s m below meth c ls hC hr hk hin hsz hE hT H locs hG hl
  have hx := hC.1
  have hb := hC.2.1
  have hl : lv_has ls 4 [(0, .long y0), (2, .long (-1))] := hl
  refine lv_lload_n hx hb dX14_add_0 rfl (lv_at hl 0 rfl) ?_
  refine lv_ldc2 hx hb hC.2.2.2.1 (hC.2.2.2.2 _ w1228) dX14_add_1 ?_
  refine lv_lmul hx hb dX14_add_4 ?_
  refine lv_lload_n hx hb dX14_add_5 rfl (lv_at hl 1 rfl) ?_
  refine lv_ladd hx hb dX14_add_6 ?_
  exact ze_l (qs := fun _ => 0) hC hG rfl rfl hr hk (Nat.le_of_ble_eq_true rfl) (Nat.le_of_ble_eq_true rfl) dX14_add_7
set_option maxHeartbeats 4000000 in
set_option maxRecDepth 100000 in
theorem z_278_add (l : Launch) (hst : l.stackTraces = false) (D : va_G) (κ : K4) (E0 : Nat) (sz : Nat) (b : Nat → Nat) (y0 : Int64) : NM l yX14_add cX14_add 4 (some .long) 0 0 0 0 E0 D κ (mw κ b E0 0) sz [.long y0, .long 1] (QL D κ (mw κ b E0 0) sz ((y0 * 31) + 1) (fun qs : W1 => mw κ b E0 0)) := by
  refine NM.of (by decide +kernel) (Nat.le_of_ble_eq_true rfl) ?_
  intro p e s m below meth c ls hC hr hk hin hsz hE hT H locs hG hl
  have hx := hC.1
  have hb := hC.2.1
  have hl : lv_has ls 4 [(0, .long y0), (2, .long 1)] := hl
  refine lv_lload_n hx hb dX14_add_0 rfl (lv_at hl 0 rfl) ?_
  refine lv_ldc2 hx hb hC.2.2.2.1 (hC.2.2.2.2 _ w1228) dX14_add_1 ?_
  refine lv_lmul hx hb dX14_add_4 ?_
  refine lv_lload_n hx hb dX14_add_5 rfl (lv_at hl 1 rfl) ?_
  refine lv_ladd hx hb dX14_add_6 ?_
  exact ze_l (qs := fun _ => 0) hC hG rfl rfl hr hk (Nat.le_of_ble_eq_true rfl) (Nat.le_of_ble_eq_true rfl) dX14_add_7
set_option maxHeartbeats 4000000 in
set_option maxRecDepth 100000 in
theorem z_279_ofKindNow (l : Launch) (hst : l.stackTraces = false) (D : va_G) (κ : K4) (E0 : Nat) (sz : Nat) (b : Nat → Nat) : NM l yX14_ofKindNow cX14_ofKindNow 5 (some .long) 1 20 0 0 E0 D κ (mw κ b E0 0) sz [.ref (b 0), .int 0] (QL D κ (mw κ b E0 0) sz 0 (fun qs : W1 => mw κ b E0 0)) := by
  refine NM.of (by decide +kernel) (Nat.le_of_ble_eq_true rfl) ?_
  intro p e s m below meth c ls hC hr hk hin hsz hE hT H locs hG hl
  have hx := hC.1
  have hb := hC.2.1
  have hl : lv_has ls 5 [(0, .ref (b 0)), (1, .int 0)] := hl
  refine lv_lconst (v := 0) hx hb dX14_ofKindNow_0 (by decide) ?_
  refine lv_lstore_n (lv' := [(2, .long 0), (0, .ref (b 0)), (1, .int 0)]) hx hb dX14_ofKindNow_1 rfl hl (by decide) rfl (fun ls hl => ?_)
  refine lv_iconst (v := 0) hx hb dX14_ofKindNow_2 (by decide) ?_
  refine lv_istore (lv' := [(4, .int 0), (2, .long 0), (0, .ref (b 0)), (1, .int 0)]) hx hb dX14_ofKindNow_3 hl (by decide) rfl (fun ls hl => ?_)
  refine lv_iload hx hb dX14_ofKindNow_5 (lv_at hl 0 rfl) ?_
  refine lv_aload_n hx hb dX14_ofKindNow_7 rfl (lv_at hl 2 rfl) ?_
  refine bw_get (C := RX14) (T := TX14) (N := 15) (ci := 9) (v := .ref (b 2)) 2 (by decide) 0 hC hG iwX14 rfl rfl w118 rfl rfl dX14_ofKindNow_8 ?_
  have cut11 : Cut (mw κ b E0 0) (mw κ b E0 0) ([]) := (Cut.all 9 rfl (by decide))
  refine zc_i hG cut11 (zr_V (k := 2) (ci := 10) (n := 0) (As := []) (rest := [.int 0]) hC hG hE hT cut11 (z_26_size l hst D κ E0 H.size (b 2) (b 0) (b 1) (b 3) (b 4) (b 5) (b 6) (b 7) (b 8)) rfl rfl w179 w117 w182 w180 w181 (by decide +kernel) ⟨Nat.le_of_ble_eq_true rfl, Nat.le_of_ble_eq_true rfl⟩ rfl hl.1 rfl (Nat.le_of_ble_eq_true rfl) dX14_ofKindNow_11 ⟨Nat.le_of_ble_eq_true rfl, Nat.le_of_ble_eq_true rfl⟩) (fun z1 H locs hG => ?_)
  have hG : BW D κ (mw κ b E0 0) _ s H locs := hG
  refine lv_icmp_ge (tgt := 65) hx hb dX14_ofKindNow_14 (by decide) (fun _ => ?_) (fun h14 => absurd (by decide) h14)
  refine lv_lload_n hx hb dX14_ofKindNow_65 rfl (lv_at hl 1 rfl) ?_
  exact ze_l (qs := fun _ => 0) hC hG rfl rfl hr hk (Nat.le_of_ble_eq_true rfl) (Nat.le_of_ble_eq_true rfl) dX14_ofKindNow_66
set_option maxHeartbeats 4000000 in
set_option maxRecDepth 100000 in
theorem z_280_ofKindNow (l : Launch) (hst : l.stackTraces = false) (D : va_G) (κ : K4) (E0 : Nat) (sz : Nat) (b : Nat → Nat) : NM l yX14_ofKindNow cX14_ofKindNow 5 (some .long) 1 20 0 0 E0 D κ (mw κ b E0 0) sz [.ref (b 0), .int 1] (QL D κ (mw κ b E0 0) sz 0 (fun qs : W1 => mw κ b E0 0)) := by
  refine NM.of (by decide +kernel) (Nat.le_of_ble_eq_true rfl) ?_
  intro p e s m below meth c ls hC hr hk hin hsz hE hT H locs hG hl
  have hx := hC.1
  have hb := hC.2.1
  have hl : lv_has ls 5 [(0, .ref (b 0)), (1, .int 1)] := hl
  refine lv_lconst (v := 0) hx hb dX14_ofKindNow_0 (by decide) ?_
  refine lv_lstore_n (lv' := [(2, .long 0), (0, .ref (b 0)), (1, .int 1)]) hx hb dX14_ofKindNow_1 rfl hl (by decide) rfl (fun ls hl => ?_)
  refine lv_iconst (v := 0) hx hb dX14_ofKindNow_2 (by decide) ?_
  refine lv_istore (lv' := [(4, .int 0), (2, .long 0), (0, .ref (b 0)), (1, .int 1)]) hx hb dX14_ofKindNow_3 hl (by decide) rfl (fun ls hl => ?_)
  refine lv_iload hx hb dX14_ofKindNow_5 (lv_at hl 0 rfl) ?_
  refine lv_aload_n hx hb dX14_ofKindNow_7 rfl (lv_at hl 2 rfl) ?_
  refine bw_get (C := RX14) (T := TX14) (N := 15) (ci := 9) (v := .ref (b 2)) 2 (by decide) 0 hC hG iwX14 rfl rfl w118 rfl rfl dX14_ofKindNow_8 ?_
  have cut11 : Cut (mw κ b E0 0) (mw κ b E0 0) ([]) := (Cut.all 9 rfl (by decide))
  refine zc_i hG cut11 (zr_V (k := 2) (ci := 10) (n := 0) (As := []) (rest := [.int 0]) hC hG hE hT cut11 (z_26_size l hst D κ E0 H.size (b 2) (b 0) (b 1) (b 3) (b 4) (b 5) (b 6) (b 7) (b 8)) rfl rfl w179 w117 w182 w180 w181 (by decide +kernel) ⟨Nat.le_of_ble_eq_true rfl, Nat.le_of_ble_eq_true rfl⟩ rfl hl.1 rfl (Nat.le_of_ble_eq_true rfl) dX14_ofKindNow_11 ⟨Nat.le_of_ble_eq_true rfl, Nat.le_of_ble_eq_true rfl⟩) (fun z1 H locs hG => ?_)
  have hG : BW D κ (mw κ b E0 0) _ s H locs := hG
  refine lv_icmp_ge (tgt := 65) hx hb dX14_ofKindNow_14 (by decide) (fun _ => ?_) (fun h14 => absurd (by decide) h14)
  refine lv_lload_n hx hb dX14_ofKindNow_65 rfl (lv_at hl 1 rfl) ?_
  exact ze_l (qs := fun _ => 0) hC hG rfl rfl hr hk (Nat.le_of_ble_eq_true rfl) (Nat.le_of_ble_eq_true rfl) dX14_ofKindNow_66
set_option maxHeartbeats 4000000 in
set_option maxRecDepth 100000 in
theorem z_281_ofKindNow (l : Launch) (hst : l.stackTraces = false) (D : va_G) (κ : K4) (E0 : Nat) (sz : Nat) (b : Nat → Nat) : NM l yX14_ofKindNow cX14_ofKindNow 5 (some .long) 1 20 0 0 E0 D κ (mw κ b E0 0) sz [.ref (b 0), .int 2] (QL D κ (mw κ b E0 0) sz 0 (fun qs : W1 => mw κ b E0 0)) := by
  refine NM.of (by decide +kernel) (Nat.le_of_ble_eq_true rfl) ?_
  intro p e s m below meth c ls hC hr hk hin hsz hE hT H locs hG hl
  have hx := hC.1
  have hb := hC.2.1
  have hl : lv_has ls 5 [(0, .ref (b 0)), (1, .int 2)] := hl
  refine lv_lconst (v := 0) hx hb dX14_ofKindNow_0 (by decide) ?_
  refine lv_lstore_n (lv' := [(2, .long 0), (0, .ref (b 0)), (1, .int 2)]) hx hb dX14_ofKindNow_1 rfl hl (by decide) rfl (fun ls hl => ?_)
  refine lv_iconst (v := 0) hx hb dX14_ofKindNow_2 (by decide) ?_
  refine lv_istore (lv' := [(4, .int 0), (2, .long 0), (0, .ref (b 0)), (1, .int 2)]) hx hb dX14_ofKindNow_3 hl (by decide) rfl (fun ls hl => ?_)
  refine lv_iload hx hb dX14_ofKindNow_5 (lv_at hl 0 rfl) ?_
  refine lv_aload_n hx hb dX14_ofKindNow_7 rfl (lv_at hl 2 rfl) ?_
  refine bw_get (C := RX14) (T := TX14) (N := 15) (ci := 9) (v := .ref (b 2)) 2 (by decide) 0 hC hG iwX14 rfl rfl w118 rfl rfl dX14_ofKindNow_8 ?_
  have cut11 : Cut (mw κ b E0 0) (mw κ b E0 0) ([]) := (Cut.all 9 rfl (by decide))
  refine zc_i hG cut11 (zr_V (k := 2) (ci := 10) (n := 0) (As := []) (rest := [.int 0]) hC hG hE hT cut11 (z_26_size l hst D κ E0 H.size (b 2) (b 0) (b 1) (b 3) (b 4) (b 5) (b 6) (b 7) (b 8)) rfl rfl w179 w117 w182 w180 w181 (by decide +kernel) ⟨Nat.le_of_ble_eq_true rfl, Nat.le_of_ble_eq_true rfl⟩ rfl hl.1 rfl (Nat.le_of_ble_eq_true rfl) dX14_ofKindNow_11 ⟨Nat.le_of_ble_eq_true rfl, Nat.le_of_ble_eq_true rfl⟩) (fun z1 H locs hG => ?_)
  have hG : BW D κ (mw κ b E0 0) _ s H locs := hG
  refine lv_icmp_ge (tgt := 65) hx hb dX14_ofKindNow_14 (by decide) (fun _ => ?_) (fun h14 => absurd (by decide) h14)
  refine lv_lload_n hx hb dX14_ofKindNow_65 rfl (lv_at hl 1 rfl) ?_
  exact ze_l (qs := fun _ => 0) hC hG rfl rfl hr hk (Nat.le_of_ble_eq_true rfl) (Nat.le_of_ble_eq_true rfl) dX14_ofKindNow_66
set_option maxHeartbeats 4000000 in
set_option maxRecDepth 100000 in
theorem z_282_ofKindNow (l : Launch) (hst : l.stackTraces = false) (D : va_G) (κ : K4) (E0 : Nat) (sz : Nat) (b : Nat → Nat) : NM l yX14_ofKindNow cX14_ofKindNow 5 (some .long) 1 20 0 0 E0 D κ (mw κ b E0 0) sz [.ref (b 0), .int 3] (QL D κ (mw κ b E0 0) sz 0 (fun qs : W1 => mw κ b E0 0)) := by
  refine NM.of (by decide +kernel) (Nat.le_of_ble_eq_true rfl) ?_
  intro p e s m below meth c ls hC hr hk hin hsz hE hT H locs hG hl
  have hx := hC.1
  have hb := hC.2.1
  have hl : lv_has ls 5 [(0, .ref (b 0)), (1, .int 3)] := hl
  refine lv_lconst (v := 0) hx hb dX14_ofKindNow_0 (by decide) ?_
  refine lv_lstore_n (lv' := [(2, .long 0), (0, .ref (b 0)), (1, .int 3)]) hx hb dX14_ofKindNow_1 rfl hl (by decide) rfl (fun ls hl => ?_)
  refine lv_iconst (v := 0) hx hb dX14_ofKindNow_2 (by decide) ?_
  refine lv_istore (lv' := [(4, .int 0), (2, .long 0), (0, .ref (b 0)), (1, .int 3)]) hx hb dX14_ofKindNow_3 hl (by decide) rfl (fun ls hl => ?_)
  refine lv_iload hx hb dX14_ofKindNow_5 (lv_at hl 0 rfl) ?_
  refine lv_aload_n hx hb dX14_ofKindNow_7 rfl (lv_at hl 2 rfl) ?_
  refine bw_get (C := RX14) (T := TX14) (N := 15) (ci := 9) (v := .ref (b 2)) 2 (by decide) 0 hC hG iwX14 rfl rfl w118 rfl rfl dX14_ofKindNow_8 ?_
  have cut11 : Cut (mw κ b E0 0) (mw κ b E0 0) ([]) := (Cut.all 9 rfl (by decide))
  refine zc_i hG cut11 (zr_V (k := 2) (ci := 10) (n := 0) (As := []) (rest := [.int 0]) hC hG hE hT cut11 (z_26_size l hst D κ E0 H.size (b 2) (b 0) (b 1) (b 3) (b 4) (b 5) (b 6) (b 7) (b 8)) rfl rfl w179 w117 w182 w180 w181 (by decide +kernel) ⟨Nat.le_of_ble_eq_true rfl, Nat.le_of_ble_eq_true rfl⟩ rfl hl.1 rfl (Nat.le_of_ble_eq_true rfl) dX14_ofKindNow_11 ⟨Nat.le_of_ble_eq_true rfl, Nat.le_of_ble_eq_true rfl⟩) (fun z1 H locs hG => ?_)
  have hG : BW D κ (mw κ b E0 0) _ s H locs := hG
  refine lv_icmp_ge (tgt := 65) hx hb dX14_ofKindNow_14 (by decide) (fun _ => ?_) (fun h14 => absurd (by decide) h14)
  refine lv_lload_n hx hb dX14_ofKindNow_65 rfl (lv_at hl 1 rfl) ?_
  exact ze_l (qs := fun _ => 0) hC hG rfl rfl hr hk (Nat.le_of_ble_eq_true rfl) (Nat.le_of_ble_eq_true rfl) dX14_ofKindNow_66
set_option maxHeartbeats 4000000 in
set_option maxRecDepth 100000 in
theorem z_283_ofKindNow (l : Launch) (hst : l.stackTraces = false) (D : va_G) (κ : K4) (E0 : Nat) (sz : Nat) (b : Nat → Nat) : NM l yX14_ofKindNow cX14_ofKindNow 5 (some .long) 1 20 0 0 E0 D κ (mw κ b E0 0) sz [.ref (b 0), .int 4] (QL D κ (mw κ b E0 0) sz 0 (fun qs : W1 => mw κ b E0 0)) := by
  refine NM.of (by decide +kernel) (Nat.le_of_ble_eq_true rfl) ?_
  intro p e s m below meth c ls hC hr hk hin hsz hE hT H locs hG hl
  have hx := hC.1
  have hb := hC.2.1
  have hl : lv_has ls 5 [(0, .ref (b 0)), (1, .int 4)] := hl
  refine lv_lconst (v := 0) hx hb dX14_ofKindNow_0 (by decide) ?_
  refine lv_lstore_n (lv' := [(2, .long 0), (0, .ref (b 0)), (1, .int 4)]) hx hb dX14_ofKindNow_1 rfl hl (by decide) rfl (fun ls hl => ?_)
  refine lv_iconst (v := 0) hx hb dX14_ofKindNow_2 (by decide) ?_
  refine lv_istore (lv' := [(4, .int 0), (2, .long 0), (0, .ref (b 0)), (1, .int 4)]) hx hb dX14_ofKindNow_3 hl (by decide) rfl (fun ls hl => ?_)
  refine lv_iload hx hb dX14_ofKindNow_5 (lv_at hl 0 rfl) ?_
  refine lv_aload_n hx hb dX14_ofKindNow_7 rfl (lv_at hl 2 rfl) ?_
  refine bw_get (C := RX14) (T := TX14) (N := 15) (ci := 9) (v := .ref (b 2)) 2 (by decide) 0 hC hG iwX14 rfl rfl w118 rfl rfl dX14_ofKindNow_8 ?_
  have cut11 : Cut (mw κ b E0 0) (mw κ b E0 0) ([]) := (Cut.all 9 rfl (by decide))
  refine zc_i hG cut11 (zr_V (k := 2) (ci := 10) (n := 0) (As := []) (rest := [.int 0]) hC hG hE hT cut11 (z_26_size l hst D κ E0 H.size (b 2) (b 0) (b 1) (b 3) (b 4) (b 5) (b 6) (b 7) (b 8)) rfl rfl w179 w117 w182 w180 w181 (by decide +kernel) ⟨Nat.le_of_ble_eq_true rfl, Nat.le_of_ble_eq_true rfl⟩ rfl hl.1 rfl (Nat.le_of_ble_eq_true rfl) dX14_ofKindNow_11 ⟨Nat.le_of_ble_eq_true rfl, Nat.le_of_ble_eq_true rfl⟩) (fun z1 H locs hG => ?_)
  have hG : BW D κ (mw κ b E0 0) _ s H locs := hG
  refine lv_icmp_ge (tgt := 65) hx hb dX14_ofKindNow_14 (by decide) (fun _ => ?_) (fun h14 => absurd (by decide) h14)
  refine lv_lload_n hx hb dX14_ofKindNow_65 rfl (lv_at hl 1 rfl) ?_
  exact ze_l (qs := fun _ => 0) hC hG rfl rfl hr hk (Nat.le_of_ble_eq_true rfl) (Nat.le_of_ble_eq_true rfl) dX14_ofKindNow_66
set_option maxHeartbeats 4000000 in
set_option maxRecDepth 100000 in
theorem z_284_results (l : Launch) (hst : l.stackTraces = false) (D : va_G) (κ : K4) (E0 : Nat) (sz : Nat) (b : Nat → Nat) : NM l yX14_results cX14_results 6 (some (.object "java/util/ArrayList")) 4 72 1 3 E0 D κ (mw κ b E0 0) sz [.ref (b 0), .int 0] (QR D κ (mw κ b E0 0) sz (fun qs : W1 => (qs 0)) (fun qs : W1 => [(b 0, .inr (9, [.int 0, .ref (b 1), .ref (b 2), .ref (b 3), .ref (b 4), .ref (b 5), .ref (b 6), .ref (b 7), .null, .int 0, .int (-1), .int 0, .int 0, .int 0, .ref (b 8)])), (b 1, .inl (κ.1, 4, .inl (fun _ => 1000))), (b 2, .inr (10, [.int 0, .ref E0, .int 0])), (b 3, .inr (10, [.int 0, .ref E0, .int 0])), (b 4, .inr (10, [.int 0, .ref E0, .int 0])), (b 5, .inr (10, [.int 0, .ref E0, .int 0])), (b 6, .inr (10, [.int 0, .ref E0, .int 0])), (b 7, .inr (10, [.int 0, .ref E0, .int 0])), (b 8, .inr (10, [.int 0, .ref E0, .int 0])), ((qs 0), .inr (10, [.int 0, .ref E0, .int 0]))])) := by
  refine NM.of (by decide +kernel) (Nat.le_of_ble_eq_true rfl) ?_
  intro p e s m below meth c ls hC hr hk hin hsz hE hT H locs hG hl
  have hx := hC.1
  have hb := hC.2.1
  have hl : lv_has ls 6 [(0, .ref (b 0)), (1, .int 0)] := hl
  refine bw_new (C := RJx4a65c) (T := TJx4a65c) (N := 3) (ci := 10) (fs := [.int 0, .null, .int 0]) hC hG iwJA tyJx4a65c_ok w115 w116 w117 rfl (fun j hj => by rcases (show j = 0 ∨ j = 1 ∨ j = 2 by omega) with rfl | rfl | rfl <;> rfl) (Nat.le_of_ble_eq_true rfl) (Nat.le_of_ble_eq_true rfl) dX14_results_0 (fun q1 H hG => ?_)
  have hG : BW D κ ((mw κ b E0 0) ++ [(q1, .inr (10, [.int 0, .null, .int 0]))]) _ s H locs := hG
  refine lv_dup hx hb dX14_results_3 rfl ?_
  have cut4 : Cut ((mw κ b E0 0) ++ [(q1, .inr (10, [.int 0, .null, .int 0]))]) ([(q1, .inr (10, [.int 0, .null, .int 0]))]) ([(b 0, .inr (9, [.int 0, .ref (b 1), .ref (b 2), .ref (b 3), .ref (b 4), .ref (b 5), .ref (b 6), .ref (b 7), .null, .int 0, .int (-1), .int 0, .int 0, .int 0, .ref (b 8)])), (b 1, .inl (κ.1, 4, .inl (fun _ => 1000))), (b 2, .inr (10, [.int 0, .ref E0, .int 0])), (b 3, .inr (10, [.int 0, .ref E0, .int 0])), (b 4, .inr (10, [.int 0, .ref E0, .int 0])), (b 5, .inr (10, [.int 0, .ref E0, .int 0])), (b 6, .inr (10, [.int 0, .ref E0, .int 0])), (b 7, .inr (10, [.int 0, .ref E0, .int 0])), (b 8, .inr (10, [.int 0, .ref E0, .int 0]))]) := (Cut.idx [9] [0, 1, 2, 3, 4, 5, 6, 7, 8] rfl rfl (by decide) (by decide) (by decide))
  refine zc_v hG cut4 (zr_I (n := 0) (As := []) (rest := [.ref q1]) hC hG hE hT cut4 (z_161_init l hst D κ E0 H.size q1) w126 w117 w128 w127 rfl (by decide +kernel) ⟨Nat.le_of_ble_eq_true rfl, Nat.le_of_ble_eq_true rfl⟩ rfl hl.1 rfl (Nat.le_of_ble_eq_true rfl) dX14_results_4 ⟨Nat.le_of_ble_eq_true rfl, Nat.le_of_ble_eq_true rfl⟩) (fun z1 H locs hG => ?_)
  have hG : BW D κ (([(b 0, .inr (9, [.int 0, .ref (b 1), .ref (b 2), .ref (b 3), .ref (b 4), .ref (b 5), .ref (b 6), .ref (b 7), .null, .int 0, .int (-1), .int 0, .int 0, .int 0, .ref (b 8)])), (b 1, .inl (κ.1, 4, .inl (fun _ => 1000))), (b 2, .inr (10, [.int 0, .ref E0, .int 0])), (b 3, .inr (10, [.int 0, .ref E0, .int 0])), (b 4, .inr (10, [.int 0, .ref E0, .int 0])), (b 5, .inr (10, [.int 0, .ref E0, .int 0])), (b 6, .inr (10, [.int 0, .ref E0, .int 0])), (b 7, .inr (10, [.int 0, .ref E0, .int 0])), (b 8, .inr (10, [.int 0, .ref E0, .int 0]))]) ++ ([(q1, .inr (10, [.int 0, .ref E0, .int 0]))])) _ s H locs := hG
  refine lv_astore_n (lv' := [(2, .ref q1), (0, .ref (b 0)), (1, .int 0)]) hx hb dX14_results_7 rfl hl (by decide) rfl (fun ls hl => ?_)
  refine lv_iconst (v := 0) hx hb dX14_results_8 (by decide) ?_
  refine lv_istore_n (lv' := [(3, .int 0), (2, .ref q1), (0, .ref (b 0)), (1, .int 0)]) hx hb dX14_results_9 rfl hl (by decide) rfl (fun ls hl => ?_)
  refine lv_iload_n hx hb dX14_results_10 rfl (lv_at hl 0 rfl) ?_
  refine lv_aload_n hx hb dX14_results_11 rfl (lv_at hl 2 rfl) ?_
  refine bw_get (C := RX14) (T := TX14) (N := 15) (ci := 9) (v := .ref (b 2)) 2 (by decide) 0 hC hG iwX14 rfl rfl w118 rfl rfl dX14_results_12 ?_
  have cut15 : Cut (([(b 0, .inr (9, [.int 0, .ref (b 1), .ref (b 2), .ref (b 3), .ref (b 4), .ref (b 5), .ref (b 6), .ref (b 7), .null, .int 0, .int (-1), .int 0, .int 0, .int 0, .ref (b 8)])), (b 1, .inl (κ.1, 4, .inl (fun _ => 1000))), (b 2, .inr (10, [.int 0, .ref E0, .int 0])), (b 3, .inr (10, [.int 0, .ref E0, .int 0])), (b 4, .inr (10, [.int 0, .ref E0, .int 0])), (b 5, .inr (10, [.int 0, .ref E0, .int 0])), (b 6, .inr (10, [.int 0, .ref E0, .int 0])), (b 7, .inr (10, [.int 0, .ref E0, .int 0])), (b 8, .inr (10, [.int 0, .ref E0, .int 0]))]) ++ ([(q1, .inr (10, [.int 0, .ref E0, .int 0]))])) (mw κ b E0 0) ([(q1, .inr (10, [.int 0, .ref E0, .int 0]))]) := (Cut.idx [0, 1, 2, 3, 4, 5, 6, 7, 8] [9] rfl rfl (by decide) (by decide) (by decide))
  refine zc_i hG cut15 (zr_V (k := 2) (ci := 10) (n := 0) (As := []) (rest := [.int 0]) hC hG hE hT cut15 (z_26_size l hst D κ E0 H.size (b 2) (b 0) (b 1) (b 3) (b 4) (b 5) (b 6) (b 7) (b 8)) rfl rfl w179 w117 w182 w180 w181 (by decide +kernel) ⟨Nat.le_of_ble_eq_true rfl, Nat.le_of_ble_eq_true rfl⟩ rfl hl.1 rfl (Nat.le_of_ble_eq_true rfl) dX14_results_15 ⟨Nat.le_of_ble_eq_true rfl, Nat.le_of_ble_eq_true rfl⟩) (fun z2 H locs hG => ?_)
  have hG : BW D κ (([(q1, .inr (10, [.int 0, .ref E0, .int 0]))]) ++ (mw κ b E0 0)) _ s H locs := hG
  refine lv_icmp_ge (tgt := 99) hx hb dX14_results_18 (by decide) (fun _ => ?_) (fun h18 => absurd (by decide) h18)
  refine lv_aload_n hx hb dX14_results_99 rfl (lv_at hl 1 rfl) ?_
  have hG := hG.at (ws' := [(b 0, .inr (9, [.int 0, .ref (b 1), .ref (b 2), .ref (b 3), .ref (b 4), .ref (b 5), .ref (b 6), .ref (b 7), .null, .int 0, .int (-1), .int 0, .int 0, .int 0, .ref (b 8)])), (b 1, .inl (κ.1, 4, .inl (fun _ => 1000))), (b 2, .inr (10, [.int 0, .ref E0, .int 0])), (b 3, .inr (10, [.int 0, .ref E0, .int 0])), (b 4, .inr (10, [.int 0, .ref E0, .int 0])), (b 5, .inr (10, [.int 0, .ref E0, .int 0])), (b 6, .inr (10, [.int 0, .ref E0, .int 0])), (b 7, .inr (10, [.int 0, .ref E0, .int 0])), (b 8, .inr (10, [.int 0, .ref E0, .int 0])), (q1, .inr (10, [.int 0, .ref E0, .int 0]))]) [1, 2, 3, 4, 5, 6, 7, 8, 9, 0] (by decide) rfl
  exact ze_r (v := q1) (qs := fun k => match k with  | _ => q1) hC hG rfl rfl hr (Or.inl ⟨_, rfl⟩) hk (Nat.le_of_ble_eq_true rfl) (Nat.le_of_ble_eq_true rfl) dX14_results_100
set_option maxHeartbeats 4000000 in
set_option maxRecDepth 100000 in
theorem z_285_add (l : Launch) (hst : l.stackTraces = false) (D : va_G) (κ : K4) (E0 : Nat) (sz : Nat) (b : Nat → Nat) (y0 : Int64) (y1 : Int64) : NM l yX14_add cX14_add 4 (some .long) 0 0 0 0 E0 D κ (mw κ b E0 0) sz [.long y0, .long y1] (QL D κ (mw κ b E0 0) sz ((y0 * 31) + y1) (fun qs : W1 => mw κ b E0 0)) := by
  refine NM.of (by decide +kernel) (Nat.le_of_ble_eq_true rfl) ?_
  intro p e s m below meth c ls hC hr hk hin hsz hE hT H locs hG hl
  have hx := hC.1
  have hb := hC.2.1
  have hl : lv_has ls 4 [(0, .long y0), (2, .long y1)] := hl
  refine lv_lload_n hx hb dX14_add_0 rfl (lv_at hl 0 rfl) ?_
  refine lv_ldc2 hx hb hC.2.2.2.1 (hC.2.2.2.2 _ w1228) dX14_add_1 ?_
  refine lv_lmul hx hb dX14_add_4 ?_
  refine lv_lload_n hx hb dX14_add_5 rfl (lv_at hl 1 rfl) ?_
  refine lv_ladd hx hb dX14_add_6 ?_
  exact ze_l (qs := fun _ => 0) hC hG rfl rfl hr hk (Nat.le_of_ble_eq_true rfl) (Nat.le_of_ble_eq_true rfl) dX14_add_7
theorem dX14_digest_0 : decode cX14_digest 0 = .ok (.aload_n 0, 1) := by decide +kernel
theorem dX14_digest_1 : decode cX14_digest 1 = .ok (.iconst 0, 1) := by decide +kernel
theorem dX14_digest_10 : decode cX14_digest 10 = .ok (.istore_n 3, 1) := by decide +kernel
theorem dX14_digest_11 : decode cX14_digest 11 = .ok (.iload_n 3, 1) := by decide +kernel
theorem dX14_digest_12 : decode cX14_digest 12 = .ok (.bipush 6, 2) := by decide +kernel
theorem dX14_digest_14 : decode cX14_digest 14 = .ok (.if_icmp .ge 20, 3) := by decide +kernel
theorem dX14_digest_159 : decode cX14_digest 159 = .ok (.iconst 0, 1) := by decide +kernel
theorem dX14_digest_160 : decode cX14_digest 160 = .ok (.istore_n 3, 1) := by decide +kernel
theorem dX14_digest_161 : decode cX14_digest 161 = .ok (.iload_n 3, 1) := by decide +kernel
theorem dX14_digest_162 : decode cX14_digest 162 = .ok (.aload_n 0, 1) := by decide +kernel
theorem dX14_digest_163 : decode cX14_digest 163 = .ok (.getfield 20, 3) := by decide +kernel
theorem dX14_digest_166 : decode cX14_digest 166 = .ok (.invokevirtual 49, 3) := by decide +kernel
theorem dX14_digest_169 : decode cX14_digest 169 = .ok (.if_icmp .ge 111, 3) := by decide +kernel
theorem dX14_digest_17 : decode cX14_digest 17 = .ok (.lload_n 1, 1) := by decide +kernel
theorem dX14_digest_18 : decode cX14_digest 18 = .ok (.aload_n 0, 1) := by decide +kernel
theorem dX14_digest_19 : decode cX14_digest 19 = .ok (.iload_n 3, 1) := by decide +kernel
theorem dX14_digest_2 : decode cX14_digest 2 = .ok (.putfield 42, 3) := by decide +kernel
theorem dX14_digest_20 : decode cX14_digest 20 = .ok (.invokevirtual 333, 3) := by decide +kernel
theorem dX14_digest_23 : decode cX14_digest 23 = .ok (.i2l, 1) := by decide +kernel
theorem dX14_digest_24 : decode cX14_digest 24 = .ok (.invokestatic 357, 3) := by decide +kernel
theorem dX14_digest_27 : decode cX14_digest 27 = .ok (.lstore_n 1, 1) := by decide +kernel
theorem dX14_digest_28 : decode cX14_digest 28 = .ok (.iinc 3 1, 3) := by decide +kernel
theorem dX14_digest_280 : decode cX14_digest 280 = .ok (.iconst 0, 1) := by decide +kernel
theorem dX14_digest_281 : decode cX14_digest 281 = .ok (.istore_n 3, 1) := by decide +kernel
theorem dX14_digest_282 : decode cX14_digest 282 = .ok (.iload_n 3, 1) := by decide +kernel
theorem dX14_digest_283 : decode cX14_digest 283 = .ok (.aload_n 0, 1) := by decide +kernel
theorem dX14_digest_284 : decode cX14_digest 284 = .ok (.getfield 26, 3) := by decide +kernel
theorem dX14_digest_287 : decode cX14_digest 287 = .ok (.invokevirtual 49, 3) := by decide +kernel
theorem dX14_digest_290 : decode cX14_digest 290 = .ok (.if_icmp .ge 30, 3) := by decide +kernel
theorem dX14_digest_31 : decode cX14_digest 31 = .ok (.goto (-20), 3) := by decide +kernel
theorem dX14_digest_320 : decode cX14_digest 320 = .ok (.iconst 0, 1) := by decide +kernel
theorem dX14_digest_321 : decode cX14_digest 321 = .ok (.istore_n 3, 1) := by decide +kernel
theorem dX14_digest_322 : decode cX14_digest 322 = .ok (.iload_n 3, 1) := by decide +kernel
theorem dX14_digest_323 : decode cX14_digest 323 = .ok (.iconst 5, 1) := by decide +kernel
theorem dX14_digest_324 : decode cX14_digest 324 = .ok (.if_icmp .ge 19, 3) := by decide +kernel
theorem dX14_digest_327 : decode cX14_digest 327 = .ok (.lload_n 1, 1) := by decide +kernel
theorem dX14_digest_328 : decode cX14_digest 328 = .ok (.aload_n 0, 1) := by decide +kernel
theorem dX14_digest_329 : decode cX14_digest 329 = .ok (.iload_n 3, 1) := by decide +kernel
theorem dX14_digest_330 : decode cX14_digest 330 = .ok (.invokevirtual 345, 3) := by decide +kernel
theorem dX14_digest_333 : decode cX14_digest 333 = .ok (.invokestatic 357, 3) := by decide +kernel
theorem dX14_digest_336 : decode cX14_digest 336 = .ok (.lstore_n 1, 1) := by decide +kernel
theorem dX14_digest_337 : decode cX14_digest 337 = .ok (.iinc 3 1, 3) := by decide +kernel
theorem dX14_digest_34 : decode cX14_digest 34 = .ok (.lload_n 1, 1) := by decide +kernel
theorem dX14_digest_340 : decode cX14_digest 340 = .ok (.goto (-18), 3) := by decide +kernel
theorem dX14_digest_343 : decode cX14_digest 343 = .ok (.lload_n 1, 1) := by decide +kernel
theorem dX14_digest_344 : decode cX14_digest 344 = .ok (.aload_n 0, 1) := by decide +kernel
theorem dX14_digest_345 : decode cX14_digest 345 = .ok (.aload_n 0, 1) := by decide +kernel
theorem dX14_digest_346 : decode cX14_digest 346 = .ok (.aload_n 0, 1) := by decide +kernel
theorem dX14_digest_347 : decode cX14_digest 347 = .ok (.getfield 143, 3) := by decide +kernel
theorem dX14_digest_35 : decode cX14_digest 35 = .ok (.aload_n 0, 1) := by decide +kernel
theorem dX14_digest_350 : decode cX14_digest 350 = .ok (.invokevirtual 253, 3) := by decide +kernel
theorem dX14_digest_353 : decode cX14_digest 353 = .ok (.invokevirtual 184, 3) := by decide +kernel
theorem dX14_digest_356 : decode cX14_digest 356 = .ok (.lneg, 1) := by decide +kernel
theorem dX14_digest_357 : decode cX14_digest 357 = .ok (.invokestatic 357, 3) := by decide +kernel
theorem dX14_digest_36 : decode cX14_digest 36 = .ok (.invokevirtual 203, 3) := by decide +kernel
theorem dX14_digest_360 : decode cX14_digest 360 = .ok (.lreturn, 1) := by decide +kernel
theorem dX14_digest_39 : decode cX14_digest 39 = .ok (.i2l, 1) := by decide +kernel
theorem dX14_digest_40 : decode cX14_digest 40 = .ok (.invokestatic 357, 3) := by decide +kernel
theorem dX14_digest_43 : decode cX14_digest 43 = .ok (.lstore_n 1, 1) := by decide +kernel
theorem dX14_digest_44 : decode cX14_digest 44 = .ok (.iconst 0, 1) := by decide +kernel
theorem dX14_digest_45 : decode cX14_digest 45 = .ok (.istore_n 3, 1) := by decide +kernel
theorem dX14_digest_46 : decode cX14_digest 46 = .ok (.iload_n 3, 1) := by decide +kernel
theorem dX14_digest_47 : decode cX14_digest 47 = .ok (.aload_n 0, 1) := by decide +kernel
theorem dX14_digest_48 : decode cX14_digest 48 = .ok (.getfield 16, 3) := by decide +kernel
theorem dX14_digest_5 : decode cX14_digest 5 = .ok (.ldc2_w 355, 3) := by decide +kernel
theorem dX14_digest_51 : decode cX14_digest 51 = .ok (.invokevirtual 49, 3) := by decide +kernel
theorem dX14_digest_54 : decode cX14_digest 54 = .ok (.if_icmp .ge 105, 3) := by decide +kernel
theorem dX14_digest_8 : decode cX14_digest 8 = .ok (.lstore_n 1, 1) := by decide +kernel
theorem dX14_digest_9 : decode cX14_digest 9 = .ok (.iconst 0, 1) := by decide +kernel
set_option maxHeartbeats 4000000 in
set_option maxRecDepth 100000 in
theorem z_286_digest (l : Launch) (hst : l.stackTraces = false) (D : va_G) (κ : K4) (E0 : Nat) (sz : Nat) (b : Nat → Nat) : NM l yX14_digest cX14_digest 7 (some .long) 5 97 7 39 E0 D κ (mw κ b E0 0) sz [.ref (b 0)] (QL D κ (mw κ b E0 0) sz ((((((((((((((((((((((((((58089 * 31) + 0) * 31) + 0) * 31) + 0) * 31) + 0) * 31) + 0) * 31) + (-1)) * 31) + 1) * 31) + 0) * 31) + 0) * 31) + 0) * 31) + 0) * 31) + 0) * 31) + (-0)) (fun qs : W1 => mw κ b E0 0)) := by
  refine NM.of (by decide +kernel) (Nat.le_of_ble_eq_true rfl) ?_
  intro p e s m below meth c ls hC hr hk hin hsz hE hT H locs hG hl
  have hx := hC.1
  have hb := hC.2.1
  have hl : lv_has ls 7 [(0, .ref (b 0))] := hl
  refine lv_aload_n hx hb dX14_digest_0 rfl (lv_at hl 0 rfl) ?_
  refine lv_iconst (v := 0) hx hb dX14_digest_1 (by decide) ?_
  refine bw_put (C := RX14) (T := TX14) (N := 15) (ci := 9) (ty0 := tyX14) (ty := .int) (v := .int 0) 0 (by decide) 0 hC hG iwX14 tyX14_ok nmX14 rfl rfl w174 rfl (Or.inl rfl) (by decide +kernel) rfl rfl (Nat.le_of_ble_eq_true rfl) dX14_digest_2 (fun H locs hG => ?_)
  have hG : BW D κ (mw κ b E0 0) _ s H locs := hG
  refine lv_ldc2 hx hb hC.2.2.2.1 (hC.2.2.2.2 _ w1224) dX14_digest_5 ?_
  refine lv_lstore_n (lv' := [(1, .long 58089), (0, .ref (b 0))]) hx hb dX14_digest_8 rfl hl (by decide) rfl (fun ls hl => ?_)
  refine lv_iconst (v := 0) hx hb dX14_digest_9 (by decide) ?_
  refine lv_istore_n (lv' := [(3, .int 0), (1, .long 58089), (0, .ref (b 0))]) hx hb dX14_digest_10 rfl hl (by decide) rfl (fun ls hl => ?_)
  refine lv_iload_n hx hb dX14_digest_11 rfl (lv_at hl 0 rfl) ?_
  refine lv_bipush (v := 6) hx hb dX14_digest_12 (by decide) ?_
  refine lv_icmp_ge (tgt := 34) hx hb dX14_digest_14 (by decide) (fun h14 => absurd h14 (by decide)) (fun _ => ?_)
  refine lv_lload_n hx hb dX14_digest_17 rfl (lv_at hl 1 rfl) ?_
  refine lv_aload_n hx hb dX14_digest_18 rfl (lv_at hl 2 rfl) ?_
  refine lv_iload_n hx hb dX14_digest_19 rfl (lv_at hl 0 rfl) ?_
  have cut20 : Cut (mw κ b E0 0) (mw κ b E0 0) ([]) := (Cut.all 9 rfl (by decide))
  refine zc_i hG cut20 (zr_V (k := 0) (ci := 9) (n := 1) (As := [.int 0]) (rest := [.long 58089]) hC hG hE hT cut20 (z_187_count l hst D κ E0 H.size b) rfl rfl w1074 w5 w1077 w1075 w1076 (by decide +kernel) ⟨Nat.le_of_ble_eq_true rfl, Nat.le_of_ble_eq_true rfl⟩ rfl hl.1 rfl (Nat.le_of_ble_eq_true rfl) dX14_digest_20 ⟨Nat.le_of_ble_eq_true rfl, Nat.le_of_ble_eq_true rfl⟩) (fun z1 H locs hG => ?_)
  have hG : BW D κ (mw κ b E0 0) _ s H locs := hG
  refine lv_i2l (v := 0) hx hb dX14_digest_23 (by decide) ?_
  have cut24 : Cut (mw κ b E0 0) (mw κ b E0 0) ([]) := (Cut.all 9 rfl (by decide))
  refine zc_l hG cut24 (zr_S (n := 2) (As := [.long 58089, .long 0]) (rest := []) hC hG hE hT cut24 (z_275_add l hst D κ E0 H.size b) w1225 w5 w1227 w1226 (by decide +kernel) ⟨Nat.le_of_ble_eq_true rfl, Nat.le_of_ble_eq_true rfl⟩ rfl hl.1 rfl (Nat.le_of_ble_eq_true rfl) dX14_digest_24 ⟨Nat.le_of_ble_eq_true rfl, Nat.le_of_ble_eq_true rfl⟩) (fun z2 H locs hG => ?_)
  have hG : BW D κ (mw κ b E0 0) _ s H locs := hG
  refine lv_lstore_n (lv' := [(1, .long ((58089 * 31) + 0)), (3, .int 0), (0, .ref (b 0))]) hx hb dX14_digest_27 rfl hl (by decide) rfl (fun ls hl => ?_)
  refine lv_iinc (v := 1) (lv' := [(3, .int 1), (1, .long ((58089 * 31) + 0)), (0, .ref (b 0))]) hx hb dX14_digest_28 hl (k := 1) rfl (by decide) (by decide) rfl (fun ls hl => ?_)
  refine lv_goto (tgt := 11) hx hb dX14_digest_31 (by decide) ?_
  refine lv_iload_n hx hb dX14_digest_11 rfl (lv_at hl 0 rfl) ?_
  refine lv_bipush (v := 6) hx hb dX14_digest_12 (by decide) ?_
  refine lv_icmp_ge (tgt := 34) hx hb dX14_digest_14 (by decide) (fun h14 => absurd h14 (by decide)) (fun _ => ?_)
  refine lv_lload_n hx hb dX14_digest_17 rfl (lv_at hl 1 rfl) ?_
  refine lv_aload_n hx hb dX14_digest_18 rfl (lv_at hl 2 rfl) ?_
  refine lv_iload_n hx hb dX14_digest_19 rfl (lv_at hl 0 rfl) ?_
  have cut20 : Cut (mw κ b E0 0) (mw κ b E0 0) ([]) := (Cut.all 9 rfl (by decide))
  refine zc_i hG cut20 (zr_V (k := 0) (ci := 9) (n := 1) (As := [.int 1]) (rest := [.long ((58089 * 31) + 0)]) hC hG hE hT cut20 (z_193_count l hst D κ E0 H.size b) rfl rfl w1074 w5 w1077 w1075 w1076 (by decide +kernel) ⟨Nat.le_of_ble_eq_true rfl, Nat.le_of_ble_eq_true rfl⟩ rfl hl.1 rfl (Nat.le_of_ble_eq_true rfl) dX14_digest_20 ⟨Nat.le_of_ble_eq_true rfl, Nat.le_of_ble_eq_true rfl⟩) (fun z3 H locs hG => ?_)
  have hG : BW D κ (mw κ b E0 0) _ s H locs := hG
  refine lv_i2l (v := 0) hx hb dX14_digest_23 (by decide) ?_
  have cut24 : Cut (mw κ b E0 0) (mw κ b E0 0) ([]) := (Cut.all 9 rfl (by decide))
  refine zc_l hG cut24 (zr_S (n := 2) (As := [.long ((58089 * 31) + 0), .long 0]) (rest := []) hC hG hE hT cut24 (z_276_add l hst D κ E0 H.size b ((58089 * 31) + 0)) w1225 w5 w1227 w1226 (by decide +kernel) ⟨Nat.le_of_ble_eq_true rfl, Nat.le_of_ble_eq_true rfl⟩ rfl hl.1 rfl (Nat.le_of_ble_eq_true rfl) dX14_digest_24 ⟨Nat.le_of_ble_eq_true rfl, Nat.le_of_ble_eq_true rfl⟩) (fun z4 H locs hG => ?_)
  have hG : BW D κ (mw κ b E0 0) _ s H locs := hG
  refine lv_lstore_n (lv' := [(1, .long ((((58089 * 31) + 0) * 31) + 0)), (3, .int 1), (0, .ref (b 0))]) hx hb dX14_digest_27 rfl hl (by decide) rfl (fun ls hl => ?_)
  refine lv_iinc (v := 2) (lv' := [(3, .int 2), (1, .long ((((58089 * 31) + 0) * 31) + 0)), (0, .ref (b 0))]) hx hb dX14_digest_28 hl (k := 1) rfl (by decide) (by decide) rfl (fun ls hl => ?_)
  refine lv_goto (tgt := 11) hx hb dX14_digest_31 (by decide) ?_
  refine lv_iload_n hx hb dX14_digest_11 rfl (lv_at hl 0 rfl) ?_
  refine lv_bipush (v := 6) hx hb dX14_digest_12 (by decide) ?_
  refine lv_icmp_ge (tgt := 34) hx hb dX14_digest_14 (by decide) (fun h14 => absurd h14 (by decide)) (fun _ => ?_)
  refine lv_lload_n hx hb dX14_digest_17 rfl (lv_at hl 1 rfl) ?_
  refine lv_aload_n hx hb dX14_digest_18 rfl (lv_at hl 2 rfl) ?_
  refine lv_iload_n hx hb dX14_digest_19 rfl (lv_at hl 0 rfl) ?_
  have cut20 : Cut (mw κ b E0 0) (mw κ b E0 0) ([]) := (Cut.all 9 rfl (by decide))
  refine zc_i hG cut20 (zr_V (k := 0) (ci := 9) (n := 1) (As := [.int 2]) (rest := [.long ((((58089 * 31) + 0) * 31) + 0)]) hC hG hE hT cut20 (z_199_count l hst D κ E0 H.size b) rfl rfl w1074 w5 w1077 w1075 w1076 (by decide +kernel) ⟨Nat.le_of_ble_eq_true rfl, Nat.le_of_ble_eq_true rfl⟩ rfl hl.1 rfl (Nat.le_of_ble_eq_true rfl) dX14_digest_20 ⟨Nat.le_of_ble_eq_true rfl, Nat.le_of_ble_eq_true rfl⟩) (fun z5 H locs hG => ?_)
  have hG : BW D κ (mw κ b E0 0) _ s H locs := hG
  refine lv_i2l (v := 0) hx hb dX14_digest_23 (by decide) ?_
  have cut24 : Cut (mw κ b E0 0) (mw κ b E0 0) ([]) := (Cut.all 9 rfl (by decide))
  refine zc_l hG cut24 (zr_S (n := 2) (As := [.long ((((58089 * 31) + 0) * 31) + 0), .long 0]) (rest := []) hC hG hE hT cut24 (z_276_add l hst D κ E0 H.size b ((((58089 * 31) + 0) * 31) + 0)) w1225 w5 w1227 w1226 (by decide +kernel) ⟨Nat.le_of_ble_eq_true rfl, Nat.le_of_ble_eq_true rfl⟩ rfl hl.1 rfl (Nat.le_of_ble_eq_true rfl) dX14_digest_24 ⟨Nat.le_of_ble_eq_true rfl, Nat.le_of_ble_eq_true rfl⟩) (fun z6 H locs hG => ?_)
  have hG : BW D κ (mw κ b E0 0) _ s H locs := hG
  refine lv_lstore_n (lv' := [(1, .long ((((((58089 * 31) + 0) * 31) + 0) * 31) + 0)), (3, .int 2), (0, .ref (b 0))]) hx hb dX14_digest_27 rfl hl (by decide) rfl (fun ls hl => ?_)
  refine lv_iinc (v := 3) (lv' := [(3, .int 3), (1, .long ((((((58089 * 31) + 0) * 31) + 0) * 31) + 0)), (0, .ref (b 0))]) hx hb dX14_digest_28 hl (k := 1) rfl (by decide) (by decide) rfl (fun ls hl => ?_)
  refine lv_goto (tgt := 11) hx hb dX14_digest_31 (by decide) ?_
  refine lv_iload_n hx hb dX14_digest_11 rfl (lv_at hl 0 rfl) ?_
  refine lv_bipush (v := 6) hx hb dX14_digest_12 (by decide) ?_
  refine lv_icmp_ge (tgt := 34) hx hb dX14_digest_14 (by decide) (fun h14 => absurd h14 (by decide)) (fun _ => ?_)
  refine lv_lload_n hx hb dX14_digest_17 rfl (lv_at hl 1 rfl) ?_
  refine lv_aload_n hx hb dX14_digest_18 rfl (lv_at hl 2 rfl) ?_
  refine lv_iload_n hx hb dX14_digest_19 rfl (lv_at hl 0 rfl) ?_
  have cut20 : Cut (mw κ b E0 0) (mw κ b E0 0) ([]) := (Cut.all 9 rfl (by decide))
  refine zc_i hG cut20 (zr_V (k := 0) (ci := 9) (n := 1) (As := [.int 3]) (rest := [.long ((((((58089 * 31) + 0) * 31) + 0) * 31) + 0)]) hC hG hE hT cut20 (z_204_count l hst D κ E0 H.size b) rfl rfl w1074 w5 w1077 w1075 w1076 (by decide +kernel) ⟨Nat.le_of_ble_eq_true rfl, Nat.le_of_ble_eq_true rfl⟩ rfl hl.1 rfl (Nat.le_of_ble_eq_true rfl) dX14_digest_20 ⟨Nat.le_of_ble_eq_true rfl, Nat.le_of_ble_eq_true rfl⟩) (fun z7 H locs hG => ?_)
  have hG : BW D κ (mw κ b E0 0) _ s H locs := hG
  refine lv_i2l (v := 0) hx hb dX14_digest_23 (by decide) ?_
  have cut24 : Cut (mw κ b E0 0) (mw κ b E0 0) ([]) := (Cut.all 9 rfl (by decide))
  refine zc_l hG cut24 (zr_S (n := 2) (As := [.long ((((((58089 * 31) + 0) * 31) + 0) * 31) + 0), .long 0]) (rest := []) hC hG hE hT cut24 (z_276_add l hst D κ E0 H.size b ((((((58089 * 31) + 0) * 31) + 0) * 31) + 0)) w1225 w5 w1227 w1226 (by decide +kernel) ⟨Nat.le_of_ble_eq_true rfl, Nat.le_of_ble_eq_true rfl⟩ rfl hl.1 rfl (Nat.le_of_ble_eq_true rfl) dX14_digest_24 ⟨Nat.le_of_ble_eq_true rfl, Nat.le_of_ble_eq_true rfl⟩) (fun z8 H locs hG => ?_)
  have hG : BW D κ (mw κ b E0 0) _ s H locs := hG
  refine lv_lstore_n (lv' := [(1, .long ((((((((58089 * 31) + 0) * 31) + 0) * 31) + 0) * 31) + 0)), (3, .int 3), (0, .ref (b 0))]) hx hb dX14_digest_27 rfl hl (by decide) rfl (fun ls hl => ?_)
  refine lv_iinc (v := 4) (lv' := [(3, .int 4), (1, .long ((((((((58089 * 31) + 0) * 31) + 0) * 31) + 0) * 31) + 0)), (0, .ref (b 0))]) hx hb dX14_digest_28 hl (k := 1) rfl (by decide) (by decide) rfl (fun ls hl => ?_)
  refine lv_goto (tgt := 11) hx hb dX14_digest_31 (by decide) ?_
  refine lv_iload_n hx hb dX14_digest_11 rfl (lv_at hl 0 rfl) ?_
  refine lv_bipush (v := 6) hx hb dX14_digest_12 (by decide) ?_
  refine lv_icmp_ge (tgt := 34) hx hb dX14_digest_14 (by decide) (fun h14 => absurd h14 (by decide)) (fun _ => ?_)
  refine lv_lload_n hx hb dX14_digest_17 rfl (lv_at hl 1 rfl) ?_
  refine lv_aload_n hx hb dX14_digest_18 rfl (lv_at hl 2 rfl) ?_
  refine lv_iload_n hx hb dX14_digest_19 rfl (lv_at hl 0 rfl) ?_
  have cut20 : Cut (mw κ b E0 0) (mw κ b E0 0) ([]) := (Cut.all 9 rfl (by decide))
  refine zc_i hG cut20 (zr_V (k := 0) (ci := 9) (n := 1) (As := [.int 4]) (rest := [.long ((((((((58089 * 31) + 0) * 31) + 0) * 31) + 0) * 31) + 0)]) hC hG hE hT cut20 (z_209_count l hst D κ E0 H.size b) rfl rfl w1074 w5 w1077 w1075 w1076 (by decide +kernel) ⟨Nat.le_of_ble_eq_true rfl, Nat.le_of_ble_eq_true rfl⟩ rfl hl.1 rfl (Nat.le_of_ble_eq_true rfl) dX14_digest_20 ⟨Nat.le_of_ble_eq_true rfl, Nat.le_of_ble_eq_true rfl⟩) (fun z9 H locs hG => ?_)
  have hG : BW D κ (mw κ b E0 0) _ s H locs := hG
  refine lv_i2l (v := 0) hx hb dX14_digest_23 (by decide) ?_
  have cut24 : Cut (mw κ b E0 0) (mw κ b E0 0) ([]) := (Cut.all 9 rfl (by decide))
  refine zc_l hG cut24 (zr_S (n := 2) (As := [.long ((((((((58089 * 31) + 0) * 31) + 0) * 31) + 0) * 31) + 0), .long 0]) (rest := []) hC hG hE hT cut24 (z_276_add l hst D κ E0 H.size b ((((((((58089 * 31) + 0) * 31) + 0) * 31) + 0) * 31) + 0)) w1225 w5 w1227 w1226 (by decide +kernel) ⟨Nat.le_of_ble_eq_true rfl, Nat.le_of_ble_eq_true rfl⟩ rfl hl.1 rfl (Nat.le_of_ble_eq_true rfl) dX14_digest_24 ⟨Nat.le_of_ble_eq_true rfl, Nat.le_of_ble_eq_true rfl⟩) (fun z10 H locs hG => ?_)
  have hG : BW D κ (mw κ b E0 0) _ s H locs := hG
  refine lv_lstore_n (lv' := [(1, .long ((((((((((58089 * 31) + 0) * 31) + 0) * 31) + 0) * 31) + 0) * 31) + 0)), (3, .int 4), (0, .ref (b 0))]) hx hb dX14_digest_27 rfl hl (by decide) rfl (fun ls hl => ?_)
  refine lv_iinc (v := 5) (lv' := [(3, .int 5), (1, .long ((((((((((58089 * 31) + 0) * 31) + 0) * 31) + 0) * 31) + 0) * 31) + 0)), (0, .ref (b 0))]) hx hb dX14_digest_28 hl (k := 1) rfl (by decide) (by decide) rfl (fun ls hl => ?_)
  refine lv_goto (tgt := 11) hx hb dX14_digest_31 (by decide) ?_
  refine lv_iload_n hx hb dX14_digest_11 rfl (lv_at hl 0 rfl) ?_
  refine lv_bipush (v := 6) hx hb dX14_digest_12 (by decide) ?_
  refine lv_icmp_ge (tgt := 34) hx hb dX14_digest_14 (by decide) (fun h14 => absurd h14 (by decide)) (fun _ => ?_)
  refine lv_lload_n hx hb dX14_digest_17 rfl (lv_at hl 1 rfl) ?_
  refine lv_aload_n hx hb dX14_digest_18 rfl (lv_at hl 2 rfl) ?_
  refine lv_iload_n hx hb dX14_digest_19 rfl (lv_at hl 0 rfl) ?_
  have cut20 : Cut (mw κ b E0 0) (mw κ b E0 0) ([]) := (Cut.all 9 rfl (by decide))
  refine zc_i hG cut20 (zr_V (k := 0) (ci := 9) (n := 1) (As := [.int 5]) (rest := [.long ((((((((((58089 * 31) + 0) * 31) + 0) * 31) + 0) * 31) + 0) * 31) + 0)]) hC hG hE hT cut20 (z_215_count l hst D κ E0 H.size b) rfl rfl w1074 w5 w1077 w1075 w1076 (by decide +kernel) ⟨Nat.le_of_ble_eq_true rfl, Nat.le_of_ble_eq_true rfl⟩ rfl hl.1 rfl (Nat.le_of_ble_eq_true rfl) dX14_digest_20 ⟨Nat.le_of_ble_eq_true rfl, Nat.le_of_ble_eq_true rfl⟩) (fun z11 H locs hG => ?_)
  have hG : BW D κ (mw κ b E0 0) _ s H locs := hG
  refine lv_i2l (v := (-1)) hx hb dX14_digest_23 (by decide) ?_
  have cut24 : Cut (mw κ b E0 0) (mw κ b E0 0) ([]) := (Cut.all 9 rfl (by decide))
  refine zc_l hG cut24 (zr_S (n := 2) (As := [.long ((((((((((58089 * 31) + 0) * 31) + 0) * 31) + 0) * 31) + 0) * 31) + 0), .long (-1)]) (rest := []) hC hG hE hT cut24 (z_277_add l hst D κ E0 H.size b ((((((((((58089 * 31) + 0) * 31) + 0) * 31) + 0) * 31) + 0) * 31) + 0)) w1225 w5 w1227 w1226 (by decide +kernel) ⟨Nat.le_of_ble_eq_true rfl, Nat.le_of_ble_eq_true rfl⟩ rfl hl.1 rfl (Nat.le_of_ble_eq_true rfl) dX14_digest_24 ⟨Nat.le_of_ble_eq_true rfl, Nat.le_of_ble_eq_true rfl⟩) (fun z12 H locs hG => ?_)
  have hG : BW D κ (mw κ b E0 0) _ s H locs := hG
  refine lv_lstore_n (lv' := [(1, .long ((((((((((((58089 * 31) + 0) * 31) + 0) * 31) + 0) * 31) + 0) * 31) + 0) * 31) + (-1))), (3, .int 5), (0, .ref (b 0))]) hx hb dX14_digest_27 rfl hl (by decide) rfl (fun ls hl => ?_)
  refine lv_iinc (v := 6) (lv' := [(3, .int 6), (1, .long ((((((((((((58089 * 31) + 0) * 31) + 0) * 31) + 0) * 31) + 0) * 31) + 0) * 31) + (-1))), (0, .ref (b 0))]) hx hb dX14_digest_28 hl (k := 1) rfl (by decide) (by decide) rfl (fun ls hl => ?_)
  refine lv_goto (tgt := 11) hx hb dX14_digest_31 (by decide) ?_
  refine lv_iload_n hx hb dX14_digest_11 rfl (lv_at hl 0 rfl) ?_
  refine lv_bipush (v := 6) hx hb dX14_digest_12 (by decide) ?_
  refine lv_icmp_ge (tgt := 34) hx hb dX14_digest_14 (by decide) (fun _ => ?_) (fun h14 => absurd (by decide) h14)
  refine lv_lload_n hx hb dX14_digest_34 rfl (lv_at hl 1 rfl) ?_
  refine lv_aload_n hx hb dX14_digest_35 rfl (lv_at hl 2 rfl) ?_
  have cut36 : Cut (mw κ b E0 0) (mw κ b E0 0) ([]) := (Cut.all 9 rfl (by decide))
  refine zc_i hG cut36 (zr_V (k := 0) (ci := 9) (n := 0) (As := []) (rest := [.long ((((((((((((58089 * 31) + 0) * 31) + 0) * 31) + 0) * 31) + 0) * 31) + 0) * 31) + (-1))]) hC hG hE hT cut36 (z_167_reasonNow l hst D κ E0 H.size b) rfl rfl w566 w5 w569 w567 w568 (by decide +kernel) ⟨Nat.le_of_ble_eq_true rfl, Nat.le_of_ble_eq_true rfl⟩ rfl hl.1 rfl (Nat.le_of_ble_eq_true rfl) dX14_digest_36 ⟨Nat.le_of_ble_eq_true rfl, Nat.le_of_ble_eq_true rfl⟩) (fun z13 H locs hG => ?_)
  have hG : BW D κ (mw κ b E0 0) _ s H locs := hG
  refine lv_i2l (v := 1) hx hb dX14_digest_39 (by decide) ?_
  have cut40 : Cut (mw κ b E0 0) (mw κ b E0 0) ([]) := (Cut.all 9 rfl (by decide))
  refine zc_l hG cut40 (zr_S (n := 2) (As := [.long ((((((((((((58089 * 31) + 0) * 31) + 0) * 31) + 0) * 31) + 0) * 31) + 0) * 31) + (-1)), .long 1]) (rest := []) hC hG hE hT cut40 (z_278_add l hst D κ E0 H.size b ((((((((((((58089 * 31) + 0) * 31) + 0) * 31) + 0) * 31) + 0) * 31) + 0) * 31) + (-1))) w1225 w5 w1227 w1226 (by decide +kernel) ⟨Nat.le_of_ble_eq_true rfl, Nat.le_of_ble_eq_true rfl⟩ rfl hl.1 rfl (Nat.le_of_ble_eq_true rfl) dX14_digest_40 ⟨Nat.le_of_ble_eq_true rfl, Nat.le_of_ble_eq_true rfl⟩) (fun z14 H locs hG => ?_)
  have hG : BW D κ (mw κ b E0 0) _ s H locs := hG
  refine lv_lstore_n (lv' := [(1, .long ((((((((((((((58089 * 31) + 0) * 31) + 0) * 31) + 0) * 31) + 0) * 31) + 0) * 31) + (-1)) * 31) + 1)), (3, .int 6), (0, .ref (b 0))]) hx hb dX14_digest_43 rfl hl (by decide) rfl (fun ls hl => ?_)
  refine lv_iconst (v := 0) hx hb dX14_digest_44 (by decide) ?_
  refine lv_istore_n (lv' := [(3, .int 0), (1, .long ((((((((((((((58089 * 31) + 0) * 31) + 0) * 31) + 0) * 31) + 0) * 31) + 0) * 31) + (-1)) * 31) + 1)), (0, .ref (b 0))]) hx hb dX14_digest_45 rfl hl (by decide) rfl (fun ls hl => ?_)
  refine lv_iload_n hx hb dX14_digest_46 rfl (lv_at hl 0 rfl) ?_
  refine lv_aload_n hx hb dX14_digest_47 rfl (lv_at hl 2 rfl) ?_
  refine bw_get (C := RX14) (T := TX14) (N := 15) (ci := 9) (v := .ref (b 2)) 2 (by decide) 0 hC hG iwX14 rfl rfl w118 rfl rfl dX14_digest_48 ?_
  have cut51 : Cut (mw κ b E0 0) (mw κ b E0 0) ([]) := (Cut.all 9 rfl (by decide))
  refine zc_i hG cut51 (zr_V (k := 2) (ci := 10) (n := 0) (As := []) (rest := [.int 0]) hC hG hE hT cut51 (z_26_size l hst D κ E0 H.size (b 2) (b 0) (b 1) (b 3) (b 4) (b 5) (b 6) (b 7) (b 8)) rfl rfl w179 w117 w182 w180 w181 (by decide +kernel) ⟨Nat.le_of_ble_eq_true rfl, Nat.le_of_ble_eq_true rfl⟩ rfl hl.1 rfl (Nat.le_of_ble_eq_true rfl) dX14_digest_51 ⟨Nat.le_of_ble_eq_true rfl, Nat.le_of_ble_eq_true rfl⟩) (fun z15 H locs hG => ?_)
  have hG : BW D κ (mw κ b E0 0) _ s H locs := hG
  refine lv_icmp_ge (tgt := 159) hx hb dX14_digest_54 (by decide) (fun _ => ?_) (fun h54 => absurd (by decide) h54)
  refine lv_iconst (v := 0) hx hb dX14_digest_159 (by decide) ?_
  refine lv_istore_n (lv' := [(3, .int 0), (1, .long ((((((((((((((58089 * 31) + 0) * 31) + 0) * 31) + 0) * 31) + 0) * 31) + 0) * 31) + (-1)) * 31) + 1)), (0, .ref (b 0))]) hx hb dX14_digest_160 rfl hl (by decide) rfl (fun ls hl => ?_)
  refine lv_iload_n hx hb dX14_digest_161 rfl (lv_at hl 0 rfl) ?_
  refine lv_aload_n hx hb dX14_digest_162 rfl (lv_at hl 2 rfl) ?_
  refine bw_get (C := RX14) (T := TX14) (N := 15) (ci := 9) (v := .ref (b 3)) 3 (by decide) 0 hC hG iwX14 rfl rfl w119 rfl rfl dX14_digest_163 ?_
  have cut166 : Cut (mw κ b E0 0) (mw κ b E0 0) ([]) := (Cut.all 9 rfl (by decide))
  refine zc_i hG cut166 (zr_V (k := 3) (ci := 10) (n := 0) (As := []) (rest := [.int 0]) hC hG hE hT cut166 (z_74_size l hst D κ E0 H.size (b 3) (b 0) (b 1) (b 2) (b 4) (b 5) (b 6) (b 7) (b 8)) rfl rfl w179 w117 w182 w180 w181 (by decide +kernel) ⟨Nat.le_of_ble_eq_true rfl, Nat.le_of_ble_eq_true rfl⟩ rfl hl.1 rfl (Nat.le_of_ble_eq_true rfl) dX14_digest_166 ⟨Nat.le_of_ble_eq_true rfl, Nat.le_of_ble_eq_true rfl⟩) (fun z16 H locs hG => ?_)
  have hG : BW D κ (mw κ b E0 0) _ s H locs := hG
  refine lv_icmp_ge (tgt := 280) hx hb dX14_digest_169 (by decide) (fun _ => ?_) (fun h169 => absurd (by decide) h169)
  refine lv_iconst (v := 0) hx hb dX14_digest_280 (by decide) ?_
  refine lv_istore_n (lv' := [(3, .int 0), (1, .long ((((((((((((((58089 * 31) + 0) * 31) + 0) * 31) + 0) * 31) + 0) * 31) + 0) * 31) + (-1)) * 31) + 1)), (0, .ref (b 0))]) hx hb dX14_digest_281 rfl hl (by decide) rfl (fun ls hl => ?_)
  refine lv_iload_n hx hb dX14_digest_282 rfl (lv_at hl 0 rfl) ?_
  refine lv_aload_n hx hb dX14_digest_283 rfl (lv_at hl 2 rfl) ?_
  refine bw_get (C := RX14) (T := TX14) (N := 15) (ci := 9) (v := .ref (b 5)) 5 (by decide) 0 hC hG iwX14 rfl rfl w121 rfl rfl dX14_digest_284 ?_
  have cut287 : Cut (mw κ b E0 0) (mw κ b E0 0) ([]) := (Cut.all 9 rfl (by decide))
  refine zc_i hG cut287 (zr_V (k := 5) (ci := 10) (n := 0) (As := []) (rest := [.int 0]) hC hG hE hT cut287 (z_110_size l hst D κ E0 H.size (b 5) (b 0) (b 1) (b 2) (b 3) (b 4) (b 6) (b 7) (b 8)) rfl rfl w179 w117 w182 w180 w181 (by decide +kernel) ⟨Nat.le_of_ble_eq_true rfl, Nat.le_of_ble_eq_true rfl⟩ rfl hl.1 rfl (Nat.le_of_ble_eq_true rfl) dX14_digest_287 ⟨Nat.le_of_ble_eq_true rfl, Nat.le_of_ble_eq_true rfl⟩) (fun z17 H locs hG => ?_)
  have hG : BW D κ (mw κ b E0 0) _ s H locs := hG
  refine lv_icmp_ge (tgt := 320) hx hb dX14_digest_290 (by decide) (fun _ => ?_) (fun h290 => absurd (by decide) h290)
  refine lv_iconst (v := 0) hx hb dX14_digest_320 (by decide) ?_
  refine lv_istore_n (lv' := [(3, .int 0), (1, .long ((((((((((((((58089 * 31) + 0) * 31) + 0) * 31) + 0) * 31) + 0) * 31) + 0) * 31) + (-1)) * 31) + 1)), (0, .ref (b 0))]) hx hb dX14_digest_321 rfl hl (by decide) rfl (fun ls hl => ?_)
  refine lv_iload_n hx hb dX14_digest_322 rfl (lv_at hl 0 rfl) ?_
  refine lv_iconst (v := 5) hx hb dX14_digest_323 (by decide) ?_
  refine lv_icmp_ge (tgt := 343) hx hb dX14_digest_324 (by decide) (fun h324 => absurd h324 (by decide)) (fun _ => ?_)
  refine lv_lload_n hx hb dX14_digest_327 rfl (lv_at hl 1 rfl) ?_
  refine lv_aload_n hx hb dX14_digest_328 rfl (lv_at hl 2 rfl) ?_
  refine lv_iload_n hx hb dX14_digest_329 rfl (lv_at hl 0 rfl) ?_
  have cut330 : Cut (mw κ b E0 0) (mw κ b E0 0) ([]) := (Cut.all 9 rfl (by decide))
  refine zc_l hG cut330 (zr_V (k := 0) (ci := 9) (n := 1) (As := [.int 0]) (rest := [.long ((((((((((((((58089 * 31) + 0) * 31) + 0) * 31) + 0) * 31) + 0) * 31) + 0) * 31) + (-1)) * 31) + 1)]) hC hG hE hT cut330 (z_279_ofKindNow l hst D κ E0 H.size b) rfl rfl w1126 w5 w1129 w1127 w1128 (by decide +kernel) ⟨Nat.le_of_ble_eq_true rfl, Nat.le_of_ble_eq_true rfl⟩ rfl hl.1 rfl (Nat.le_of_ble_eq_true rfl) dX14_digest_330 ⟨Nat.le_of_ble_eq_true rfl, Nat.le_of_ble_eq_true rfl⟩) (fun z18 H locs hG => ?_)
  have hG : BW D κ (mw κ b E0 0) _ s H locs := hG
  have cut333 : Cut (mw κ b E0 0) (mw κ b E0 0) ([]) := (Cut.all 9 rfl (by decide))
  refine zc_l hG cut333 (zr_S (n := 2) (As := [.long ((((((((((((((58089 * 31) + 0) * 31) + 0) * 31) + 0) * 31) + 0) * 31) + 0) * 31) + (-1)) * 31) + 1), .long 0]) (rest := []) hC hG hE hT cut333 (z_276_add l hst D κ E0 H.size b ((((((((((((((58089 * 31) + 0) * 31) + 0) * 31) + 0) * 31) + 0) * 31) + 0) * 31) + (-1)) * 31) + 1)) w1225 w5 w1227 w1226 (by decide +kernel) ⟨Nat.le_of_ble_eq_true rfl, Nat.le_of_ble_eq_true rfl⟩ rfl hl.1 rfl (Nat.le_of_ble_eq_true rfl) dX14_digest_333 ⟨Nat.le_of_ble_eq_true rfl, Nat.le_of_ble_eq_true rfl⟩) (fun z19 H locs hG => ?_)
  have hG : BW D κ (mw κ b E0 0) _ s H locs := hG
  refine lv_lstore_n (lv' := [(1, .long ((((((((((((((((58089 * 31) + 0) * 31) + 0) * 31) + 0) * 31) + 0) * 31) + 0) * 31) + (-1)) * 31) + 1) * 31) + 0)), (3, .int 0), (0, .ref (b 0))]) hx hb dX14_digest_336 rfl hl (by decide) rfl (fun ls hl => ?_)
  refine lv_iinc (v := 1) (lv' := [(3, .int 1), (1, .long ((((((((((((((((58089 * 31) + 0) * 31) + 0) * 31) + 0) * 31) + 0) * 31) + 0) * 31) + (-1)) * 31) + 1) * 31) + 0)), (0, .ref (b 0))]) hx hb dX14_digest_337 hl (k := 1) rfl (by decide) (by decide) rfl (fun ls hl => ?_)
  refine lv_goto (tgt := 322) hx hb dX14_digest_340 (by decide) ?_
  refine lv_iload_n hx hb dX14_digest_322 rfl (lv_at hl 0 rfl) ?_
  refine lv_iconst (v := 5) hx hb dX14_digest_323 (by decide) ?_
  refine lv_icmp_ge (tgt := 343) hx hb dX14_digest_324 (by decide) (fun h324 => absurd h324 (by decide)) (fun _ => ?_)
  refine lv_lload_n hx hb dX14_digest_327 rfl (lv_at hl 1 rfl) ?_
  refine lv_aload_n hx hb dX14_digest_328 rfl (lv_at hl 2 rfl) ?_
  refine lv_iload_n hx hb dX14_digest_329 rfl (lv_at hl 0 rfl) ?_
  have cut330 : Cut (mw κ b E0 0) (mw κ b E0 0) ([]) := (Cut.all 9 rfl (by decide))
  refine zc_l hG cut330 (zr_V (k := 0) (ci := 9) (n := 1) (As := [.int 1]) (rest := [.long ((((((((((((((((58089 * 31) + 0) * 31) + 0) * 31) + 0) * 31) + 0) * 31) + 0) * 31) + (-1)) * 31) + 1) * 31) + 0)]) hC hG hE hT cut330 (z_280_ofKindNow l hst D κ E0 H.size b) rfl rfl w1126 w5 w1129 w1127 w1128 (by decide +kernel) ⟨Nat.le_of_ble_eq_true rfl, Nat.le_of_ble_eq_true rfl⟩ rfl hl.1 rfl (Nat.le_of_ble_eq_true rfl) dX14_digest_330 ⟨Nat.le_of_ble_eq_true rfl, Nat.le_of_ble_eq_true rfl⟩) (fun z20 H locs hG => ?_)
  have hG : BW D κ (mw κ b E0 0) _ s H locs := hG
  have cut333 : Cut (mw κ b E0 0) (mw κ b E0 0) ([]) := (Cut.all 9 rfl (by decide))
  refine zc_l hG cut333 (zr_S (n := 2) (As := [.long ((((((((((((((((58089 * 31) + 0) * 31) + 0) * 31) + 0) * 31) + 0) * 31) + 0) * 31) + (-1)) * 31) + 1) * 31) + 0), .long 0]) (rest := []) hC hG hE hT cut333 (z_276_add l hst D κ E0 H.size b ((((((((((((((((58089 * 31) + 0) * 31) + 0) * 31) + 0) * 31) + 0) * 31) + 0) * 31) + (-1)) * 31) + 1) * 31) + 0)) w1225 w5 w1227 w1226 (by decide +kernel) ⟨Nat.le_of_ble_eq_true rfl, Nat.le_of_ble_eq_true rfl⟩ rfl hl.1 rfl (Nat.le_of_ble_eq_true rfl) dX14_digest_333 ⟨Nat.le_of_ble_eq_true rfl, Nat.le_of_ble_eq_true rfl⟩) (fun z21 H locs hG => ?_)
  have hG : BW D κ (mw κ b E0 0) _ s H locs := hG
  refine lv_lstore_n (lv' := [(1, .long ((((((((((((((((((58089 * 31) + 0) * 31) + 0) * 31) + 0) * 31) + 0) * 31) + 0) * 31) + (-1)) * 31) + 1) * 31) + 0) * 31) + 0)), (3, .int 1), (0, .ref (b 0))]) hx hb dX14_digest_336 rfl hl (by decide) rfl (fun ls hl => ?_)
  refine lv_iinc (v := 2) (lv' := [(3, .int 2), (1, .long ((((((((((((((((((58089 * 31) + 0) * 31) + 0) * 31) + 0) * 31) + 0) * 31) + 0) * 31) + (-1)) * 31) + 1) * 31) + 0) * 31) + 0)), (0, .ref (b 0))]) hx hb dX14_digest_337 hl (k := 1) rfl (by decide) (by decide) rfl (fun ls hl => ?_)
  refine lv_goto (tgt := 322) hx hb dX14_digest_340 (by decide) ?_
  refine lv_iload_n hx hb dX14_digest_322 rfl (lv_at hl 0 rfl) ?_
  refine lv_iconst (v := 5) hx hb dX14_digest_323 (by decide) ?_
  refine lv_icmp_ge (tgt := 343) hx hb dX14_digest_324 (by decide) (fun h324 => absurd h324 (by decide)) (fun _ => ?_)
  refine lv_lload_n hx hb dX14_digest_327 rfl (lv_at hl 1 rfl) ?_
  refine lv_aload_n hx hb dX14_digest_328 rfl (lv_at hl 2 rfl) ?_
  refine lv_iload_n hx hb dX14_digest_329 rfl (lv_at hl 0 rfl) ?_
  have cut330 : Cut (mw κ b E0 0) (mw κ b E0 0) ([]) := (Cut.all 9 rfl (by decide))
  refine zc_l hG cut330 (zr_V (k := 0) (ci := 9) (n := 1) (As := [.int 2]) (rest := [.long ((((((((((((((((((58089 * 31) + 0) * 31) + 0) * 31) + 0) * 31) + 0) * 31) + 0) * 31) + (-1)) * 31) + 1) * 31) + 0) * 31) + 0)]) hC hG hE hT cut330 (z_281_ofKindNow l hst D κ E0 H.size b) rfl rfl w1126 w5 w1129 w1127 w1128 (by decide +kernel) ⟨Nat.le_of_ble_eq_true rfl, Nat.le_of_ble_eq_true rfl⟩ rfl hl.1 rfl (Nat.le_of_ble_eq_true rfl) dX14_digest_330 ⟨Nat.le_of_ble_eq_true rfl, Nat.le_of_ble_eq_true rfl⟩) (fun z22 H locs hG => ?_)
  have hG : BW D κ (mw κ b E0 0) _ s H locs := hG
  have cut333 : Cut (mw κ b E0 0) (mw κ b E0 0) ([]) := (Cut.all 9 rfl (by decide))
  refine zc_l hG cut333 (zr_S (n := 2) (As := [.long ((((((((((((((((((58089 * 31) + 0) * 31) + 0) * 31) + 0) * 31) + 0) * 31) + 0) * 31) + (-1)) * 31) + 1) * 31) + 0) * 31) + 0), .long 0]) (rest := []) hC hG hE hT cut333 (z_276_add l hst D κ E0 H.size b ((((((((((((((((((58089 * 31) + 0) * 31) + 0) * 31) + 0) * 31) + 0) * 31) + 0) * 31) + (-1)) * 31) + 1) * 31) + 0) * 31) + 0)) w1225 w5 w1227 w1226 (by decide +kernel) ⟨Nat.le_of_ble_eq_true rfl, Nat.le_of_ble_eq_true rfl⟩ rfl hl.1 rfl (Nat.le_of_ble_eq_true rfl) dX14_digest_333 ⟨Nat.le_of_ble_eq_true rfl, Nat.le_of_ble_eq_true rfl⟩) (fun z23 H locs hG => ?_)
  have hG : BW D κ (mw κ b E0 0) _ s H locs := hG
  refine lv_lstore_n (lv' := [(1, .long ((((((((((((((((((((58089 * 31) + 0) * 31) + 0) * 31) + 0) * 31) + 0) * 31) + 0) * 31) + (-1)) * 31) + 1) * 31) + 0) * 31) + 0) * 31) + 0)), (3, .int 2), (0, .ref (b 0))]) hx hb dX14_digest_336 rfl hl (by decide) rfl (fun ls hl => ?_)
  refine lv_iinc (v := 3) (lv' := [(3, .int 3), (1, .long ((((((((((((((((((((58089 * 31) + 0) * 31) + 0) * 31) + 0) * 31) + 0) * 31) + 0) * 31) + (-1)) * 31) + 1) * 31) + 0) * 31) + 0) * 31) + 0)), (0, .ref (b 0))]) hx hb dX14_digest_337 hl (k := 1) rfl (by decide) (by decide) rfl (fun ls hl => ?_)
  refine lv_goto (tgt := 322) hx hb dX14_digest_340 (by decide) ?_
  refine lv_iload_n hx hb dX14_digest_322 rfl (lv_at hl 0 rfl) ?_
  refine lv_iconst (v := 5) hx hb dX14_digest_323 (by decide) ?_
  refine lv_icmp_ge (tgt := 343) hx hb dX14_digest_324 (by decide) (fun h324 => absurd h324 (by decide)) (fun _ => ?_)
  refine lv_lload_n hx hb dX14_digest_327 rfl (lv_at hl 1 rfl) ?_
  refine lv_aload_n hx hb dX14_digest_328 rfl (lv_at hl 2 rfl) ?_
  refine lv_iload_n hx hb dX14_digest_329 rfl (lv_at hl 0 rfl) ?_
  have cut330 : Cut (mw κ b E0 0) (mw κ b E0 0) ([]) := (Cut.all 9 rfl (by decide))
  refine zc_l hG cut330 (zr_V (k := 0) (ci := 9) (n := 1) (As := [.int 3]) (rest := [.long ((((((((((((((((((((58089 * 31) + 0) * 31) + 0) * 31) + 0) * 31) + 0) * 31) + 0) * 31) + (-1)) * 31) + 1) * 31) + 0) * 31) + 0) * 31) + 0)]) hC hG hE hT cut330 (z_282_ofKindNow l hst D κ E0 H.size b) rfl rfl w1126 w5 w1129 w1127 w1128 (by decide +kernel) ⟨Nat.le_of_ble_eq_true rfl, Nat.le_of_ble_eq_true rfl⟩ rfl hl.1 rfl (Nat.le_of_ble_eq_true rfl) dX14_digest_330 ⟨Nat.le_of_ble_eq_true rfl, Nat.le_of_ble_eq_true rfl⟩) (fun z24 H locs hG => ?_)
  have hG : BW D κ (mw κ b E0 0) _ s H locs := hG
  have cut333 : Cut (mw κ b E0 0) (mw κ b E0 0) ([]) := (Cut.all 9 rfl (by decide))
  refine zc_l hG cut333 (zr_S (n := 2) (As := [.long ((((((((((((((((((((58089 * 31) + 0) * 31) + 0) * 31) + 0) * 31) + 0) * 31) + 0) * 31) + (-1)) * 31) + 1) * 31) + 0) * 31) + 0) * 31) + 0), .long 0]) (rest := []) hC hG hE hT cut333 (z_276_add l hst D κ E0 H.size b ((((((((((((((((((((58089 * 31) + 0) * 31) + 0) * 31) + 0) * 31) + 0) * 31) + 0) * 31) + (-1)) * 31) + 1) * 31) + 0) * 31) + 0) * 31) + 0)) w1225 w5 w1227 w1226 (by decide +kernel) ⟨Nat.le_of_ble_eq_true rfl, Nat.le_of_ble_eq_true rfl⟩ rfl hl.1 rfl (Nat.le_of_ble_eq_true rfl) dX14_digest_333 ⟨Nat.le_of_ble_eq_true rfl, Nat.le_of_ble_eq_true rfl⟩) (fun z25 H locs hG => ?_)
  have hG : BW D κ (mw κ b E0 0) _ s H locs := hG
  refine lv_lstore_n (lv' := [(1, .long ((((((((((((((((((((((58089 * 31) + 0) * 31) + 0) * 31) + 0) * 31) + 0) * 31) + 0) * 31) + (-1)) * 31) + 1) * 31) + 0) * 31) + 0) * 31) + 0) * 31) + 0)), (3, .int 3), (0, .ref (b 0))]) hx hb dX14_digest_336 rfl hl (by decide) rfl (fun ls hl => ?_)
  refine lv_iinc (v := 4) (lv' := [(3, .int 4), (1, .long ((((((((((((((((((((((58089 * 31) + 0) * 31) + 0) * 31) + 0) * 31) + 0) * 31) + 0) * 31) + (-1)) * 31) + 1) * 31) + 0) * 31) + 0) * 31) + 0) * 31) + 0)), (0, .ref (b 0))]) hx hb dX14_digest_337 hl (k := 1) rfl (by decide) (by decide) rfl (fun ls hl => ?_)
  refine lv_goto (tgt := 322) hx hb dX14_digest_340 (by decide) ?_
  refine lv_iload_n hx hb dX14_digest_322 rfl (lv_at hl 0 rfl) ?_
  refine lv_iconst (v := 5) hx hb dX14_digest_323 (by decide) ?_
  refine lv_icmp_ge (tgt := 343) hx hb dX14_digest_324 (by decide) (fun h324 => absurd h324 (by decide)) (fun _ => ?_)
  refine lv_lload_n hx hb dX14_digest_327 rfl (lv_at hl 1 rfl) ?_
  refine lv_aload_n hx hb dX14_digest_328 rfl (lv_at hl 2 rfl) ?_
  refine lv_iload_n hx hb dX14_digest_329 rfl (lv_at hl 0 rfl) ?_
  have cut330 : Cut (mw κ b E0 0) (mw κ b E0 0) ([]) := (Cut.all 9 rfl (by decide))
  refine zc_l hG cut330 (zr_V (k := 0) (ci := 9) (n := 1) (As := [.int 4]) (rest := [.long ((((((((((((((((((((((58089 * 31) + 0) * 31) + 0) * 31) + 0) * 31) + 0) * 31) + 0) * 31) + (-1)) * 31) + 1) * 31) + 0) * 31) + 0) * 31) + 0) * 31) + 0)]) hC hG hE hT cut330 (z_283_ofKindNow l hst D κ E0 H.size b) rfl rfl w1126 w5 w1129 w1127 w1128 (by decide +kernel) ⟨Nat.le_of_ble_eq_true rfl, Nat.le_of_ble_eq_true rfl⟩ rfl hl.1 rfl (Nat.le_of_ble_eq_true rfl) dX14_digest_330 ⟨Nat.le_of_ble_eq_true rfl, Nat.le_of_ble_eq_true rfl⟩) (fun z26 H locs hG => ?_)
  have hG : BW D κ (mw κ b E0 0) _ s H locs := hG
  have cut333 : Cut (mw κ b E0 0) (mw κ b E0 0) ([]) := (Cut.all 9 rfl (by decide))
  refine zc_l hG cut333 (zr_S (n := 2) (As := [.long ((((((((((((((((((((((58089 * 31) + 0) * 31) + 0) * 31) + 0) * 31) + 0) * 31) + 0) * 31) + (-1)) * 31) + 1) * 31) + 0) * 31) + 0) * 31) + 0) * 31) + 0), .long 0]) (rest := []) hC hG hE hT cut333 (z_276_add l hst D κ E0 H.size b ((((((((((((((((((((((58089 * 31) + 0) * 31) + 0) * 31) + 0) * 31) + 0) * 31) + 0) * 31) + (-1)) * 31) + 1) * 31) + 0) * 31) + 0) * 31) + 0) * 31) + 0)) w1225 w5 w1227 w1226 (by decide +kernel) ⟨Nat.le_of_ble_eq_true rfl, Nat.le_of_ble_eq_true rfl⟩ rfl hl.1 rfl (Nat.le_of_ble_eq_true rfl) dX14_digest_333 ⟨Nat.le_of_ble_eq_true rfl, Nat.le_of_ble_eq_true rfl⟩) (fun z27 H locs hG => ?_)
  have hG : BW D κ (mw κ b E0 0) _ s H locs := hG
  refine lv_lstore_n (lv' := [(1, .long ((((((((((((((((((((((((58089 * 31) + 0) * 31) + 0) * 31) + 0) * 31) + 0) * 31) + 0) * 31) + (-1)) * 31) + 1) * 31) + 0) * 31) + 0) * 31) + 0) * 31) + 0) * 31) + 0)), (3, .int 4), (0, .ref (b 0))]) hx hb dX14_digest_336 rfl hl (by decide) rfl (fun ls hl => ?_)
  refine lv_iinc (v := 5) (lv' := [(3, .int 5), (1, .long ((((((((((((((((((((((((58089 * 31) + 0) * 31) + 0) * 31) + 0) * 31) + 0) * 31) + 0) * 31) + (-1)) * 31) + 1) * 31) + 0) * 31) + 0) * 31) + 0) * 31) + 0) * 31) + 0)), (0, .ref (b 0))]) hx hb dX14_digest_337 hl (k := 1) rfl (by decide) (by decide) rfl (fun ls hl => ?_)
  refine lv_goto (tgt := 322) hx hb dX14_digest_340 (by decide) ?_
  refine lv_iload_n hx hb dX14_digest_322 rfl (lv_at hl 0 rfl) ?_
  refine lv_iconst (v := 5) hx hb dX14_digest_323 (by decide) ?_
  refine lv_icmp_ge (tgt := 343) hx hb dX14_digest_324 (by decide) (fun _ => ?_) (fun h324 => absurd (by decide) h324)
  refine lv_lload_n hx hb dX14_digest_343 rfl (lv_at hl 1 rfl) ?_
  refine lv_aload_n hx hb dX14_digest_344 rfl (lv_at hl 2 rfl) ?_
  refine lv_aload_n hx hb dX14_digest_345 rfl (lv_at hl 2 rfl) ?_
  refine lv_aload_n hx hb dX14_digest_346 rfl (lv_at hl 2 rfl) ?_
  refine bw_get (C := RX14) (T := TX14) (N := 15) (ci := 9) (v := .int 0) 9 (by decide) 0 hC hG iwX14 rfl rfl w332 rfl rfl dX14_digest_347 ?_
  have cut350 : Cut (mw κ b E0 0) (mw κ b E0 0) ([]) := (Cut.all 9 rfl (by decide))
  refine zc_r hG cut350 (zr_V (k := 0) (ci := 9) (n := 1) (As := [.int 0]) (rest := [.ref (b 0), .long ((((((((((((((((((((((((58089 * 31) + 0) * 31) + 0) * 31) + 0) * 31) + 0) * 31) + 0) * 31) + (-1)) * 31) + 1) * 31) + 0) * 31) + 0) * 31) + 0) * 31) + 0) * 31) + 0)]) hC hG hE hT cut350 (z_284_results l hst D κ E0 H.size b) rfl rfl w787 w5 w790 w788 w789 (by decide +kernel) ⟨Nat.le_of_ble_eq_true rfl, Nat.le_of_ble_eq_true rfl⟩ rfl hl.1 rfl (Nat.le_of_ble_eq_true rfl) dX14_digest_350 ⟨Nat.le_of_ble_eq_true rfl, Nat.le_of_ble_eq_true rfl⟩) (fun z28 H locs hG => ?_)
  have hG : BW D κ ([(b 0, .inr (9, [.int 0, .ref (b 1), .ref (b 2), .ref (b 3), .ref (b 4), .ref (b 5), .ref (b 6), .ref (b 7), .null, .int 0, .int (-1), .int 0, .int 0, .int 0, .ref (b 8)])), (b 1, .inl (κ.1, 4, .inl (fun _ => 1000))), (b 2, .inr (10, [.int 0, .ref E0, .int 0])), (b 3, .inr (10, [.int 0, .ref E0, .int 0])), (b 4, .inr (10, [.int 0, .ref E0, .int 0])), (b 5, .inr (10, [.int 0, .ref E0, .int 0])), (b 6, .inr (10, [.int 0, .ref E0, .int 0])), (b 7, .inr (10, [.int 0, .ref E0, .int 0])), (b 8, .inr (10, [.int 0, .ref E0, .int 0])), (z28 0, .inr (10, [.int 0, .ref E0, .int 0]))]) _ s H locs := hG
  have cut353 : Cut ([(b 0, .inr (9, [.int 0, .ref (b 1), .ref (b 2), .ref (b 3), .ref (b 4), .ref (b 5), .ref (b 6), .ref (b 7), .null, .int 0, .int (-1), .int 0, .int 0, .int 0, .ref (b 8)])), (b 1, .inl (κ.1, 4, .inl (fun _ => 1000))), (b 2, .inr (10, [.int 0, .ref E0, .int 0])), (b 3, .inr (10, [.int 0, .ref E0, .int 0])), (b 4, .inr (10, [.int 0, .ref E0, .int 0])), (b 5, .inr (10, [.int 0, .ref E0, .int 0])), (b 6, .inr (10, [.int 0, .ref E0, .int 0])), (b 7, .inr (10, [.int 0, .ref E0, .int 0])), (b 8, .inr (10, [.int 0, .ref E0, .int 0])), (z28 0, .inr (10, [.int 0, .ref E0, .int 0]))]) ([(b 0, .inr (9, [.int 0, .ref (b 1), .ref (b 2), .ref (b 3), .ref (b 4), .ref (b 5), .ref (b 6), .ref (b 7), .null, .int 0, .int (-1), .int 0, .int 0, .int 0, .ref (b 8)])), (b 1, .inl (κ.1, 4, .inl (fun _ => 1000))), (b 2, .inr (10, [.int 0, .ref E0, .int 0])), (b 3, .inr (10, [.int 0, .ref E0, .int 0])), (b 4, .inr (10, [.int 0, .ref E0, .int 0])), (b 5, .inr (10, [.int 0, .ref E0, .int 0])), (b 6, .inr (10, [.int 0, .ref E0, .int 0])), (b 7, .inr (10, [.int 0, .ref E0, .int 0])), (b 8, .inr (10, [.int 0, .ref E0, .int 0])), (z28 0, .inr (10, [.int 0, .ref E0, .int 0]))]) ([]) := (Cut.all 10 rfl (by decide))
  refine zc_l hG cut353 (zr_V (k := 0) (ci := 9) (n := 1) (As := [.ref (z28 0)]) (rest := [.long ((((((((((((((((((((((((58089 * 31) + 0) * 31) + 0) * 31) + 0) * 31) + 0) * 31) + 0) * 31) + (-1)) * 31) + 1) * 31) + 0) * 31) + 0) * 31) + 0) * 31) + 0) * 31) + 0)]) hC hG hE hT cut353 (z_257_worths l hst D κ E0 H.size b (z28 0)) rfl rfl w474 w5 w477 w475 w476 (by decide +kernel) ⟨Nat.le_of_ble_eq_true rfl, Nat.le_of_ble_eq_true rfl⟩ rfl hl.1 rfl (Nat.le_of_ble_eq_true rfl) dX14_digest_353 ⟨Nat.le_of_ble_eq_true rfl, Nat.le_of_ble_eq_true rfl⟩) (fun z29 H locs hG => ?_)
  have hG : BW D κ (mw κ b E0 0) _ s H locs := hG
  refine lv_lneg hx hb dX14_digest_356 ?_
  have cut357 : Cut (mw κ b E0 0) (mw κ b E0 0) ([]) := (Cut.all 9 rfl (by decide))
  refine zc_l hG cut357 (zr_S (n := 2) (As := [.long ((((((((((((((((((((((((58089 * 31) + 0) * 31) + 0) * 31) + 0) * 31) + 0) * 31) + 0) * 31) + (-1)) * 31) + 1) * 31) + 0) * 31) + 0) * 31) + 0) * 31) + 0) * 31) + 0), .long (-0)]) (rest := []) hC hG hE hT cut357 (z_285_add l hst D κ E0 H.size b ((((((((((((((((((((((((58089 * 31) + 0) * 31) + 0) * 31) + 0) * 31) + 0) * 31) + 0) * 31) + (-1)) * 31) + 1) * 31) + 0) * 31) + 0) * 31) + 0) * 31) + 0) * 31) + 0) (-0)) w1225 w5 w1227 w1226 (by decide +kernel) ⟨Nat.le_of_ble_eq_true rfl, Nat.le_of_ble_eq_true rfl⟩ rfl hl.1 rfl (Nat.le_of_ble_eq_true rfl) dX14_digest_357 ⟨Nat.le_of_ble_eq_true rfl, Nat.le_of_ble_eq_true rfl⟩) (fun z30 H locs hG => ?_)
  have hG : BW D κ (mw κ b E0 0) _ s H locs := hG
  exact ze_l (qs := fun _ => 0) hC hG rfl rfl hr hk (Nat.le_of_ble_eq_true rfl) (Nat.le_of_ble_eq_true rfl) dX14_digest_360
theorem dX14_init_0 : decode cX14_init 0 = .ok (.aload_n 0, 1) := by decide +kernel
theorem dX14_init_1 : decode cX14_init 1 = .ok (.invokespecial 1, 3) := by decide +kernel
theorem dX14_init_10 : decode cX14_init 10 = .ok (.sipush 1000, 3) := by decide +kernel
theorem dX14_init_101 : decode cX14_init 101 = .ok (.aload_n 0, 1) := by decide +kernel
theorem dX14_init_102 : decode cX14_init 102 = .ok (.iconst (-1), 1) := by decide +kernel
theorem dX14_init_103 : decode cX14_init 103 = .ok (.putfield 35, 3) := by decide +kernel
theorem dX14_init_106 : decode cX14_init 106 = .ok (.aload_n 0, 1) := by decide +kernel
theorem dX14_init_107 : decode cX14_init 107 = .ok (.new 13, 3) := by decide +kernel
theorem dX14_init_110 : decode cX14_init 110 = .ok (.dup, 1) := by decide +kernel
theorem dX14_init_111 : decode cX14_init 111 = .ok (.invokespecial 15, 3) := by decide +kernel
theorem dX14_init_114 : decode cX14_init 114 = .ok (.putfield 39, 3) := by decide +kernel
theorem dX14_init_117 : decode cX14_init 117 = .ok (.return_, 1) := by decide +kernel
theorem dX14_init_13 : decode cX14_init 13 = .ok (.iastore, 1) := by decide +kernel
theorem dX14_init_14 : decode cX14_init 14 = .ok (.dup, 1) := by decide +kernel
theorem dX14_init_15 : decode cX14_init 15 = .ok (.iconst 1, 1) := by decide +kernel
theorem dX14_init_16 : decode cX14_init 16 = .ok (.sipush 1000, 3) := by decide +kernel
theorem dX14_init_19 : decode cX14_init 19 = .ok (.iastore, 1) := by decide +kernel
theorem dX14_init_20 : decode cX14_init 20 = .ok (.dup, 1) := by decide +kernel
theorem dX14_init_21 : decode cX14_init 21 = .ok (.iconst 2, 1) := by decide +kernel
theorem dX14_init_22 : decode cX14_init 22 = .ok (.sipush 1000, 3) := by decide +kernel
theorem dX14_init_25 : decode cX14_init 25 = .ok (.iastore, 1) := by decide +kernel
theorem dX14_init_26 : decode cX14_init 26 = .ok (.dup, 1) := by decide +kernel
theorem dX14_init_27 : decode cX14_init 27 = .ok (.iconst 3, 1) := by decide +kernel
theorem dX14_init_28 : decode cX14_init 28 = .ok (.sipush 1000, 3) := by decide +kernel
theorem dX14_init_31 : decode cX14_init 31 = .ok (.iastore, 1) := by decide +kernel
theorem dX14_init_32 : decode cX14_init 32 = .ok (.putfield 7, 3) := by decide +kernel
theorem dX14_init_35 : decode cX14_init 35 = .ok (.aload_n 0, 1) := by decide +kernel
theorem dX14_init_36 : decode cX14_init 36 = .ok (.new 13, 3) := by decide +kernel
theorem dX14_init_39 : decode cX14_init 39 = .ok (.dup, 1) := by decide +kernel
theorem dX14_init_4 : decode cX14_init 4 = .ok (.aload_n 0, 1) := by decide +kernel
theorem dX14_init_40 : decode cX14_init 40 = .ok (.invokespecial 15, 3) := by decide +kernel
theorem dX14_init_43 : decode cX14_init 43 = .ok (.putfield 16, 3) := by decide +kernel
theorem dX14_init_46 : decode cX14_init 46 = .ok (.aload_n 0, 1) := by decide +kernel
theorem dX14_init_47 : decode cX14_init 47 = .ok (.new 13, 3) := by decide +kernel
theorem dX14_init_5 : decode cX14_init 5 = .ok (.iconst 4, 1) := by decide +kernel
theorem dX14_init_50 : decode cX14_init 50 = .ok (.dup, 1) := by decide +kernel
theorem dX14_init_51 : decode cX14_init 51 = .ok (.invokespecial 15, 3) := by decide +kernel
theorem dX14_init_54 : decode cX14_init 54 = .ok (.putfield 20, 3) := by decide +kernel
theorem dX14_init_57 : decode cX14_init 57 = .ok (.aload_n 0, 1) := by decide +kernel
theorem dX14_init_58 : decode cX14_init 58 = .ok (.new 13, 3) := by decide +kernel
theorem dX14_init_6 : decode cX14_init 6 = .ok (.newarray .int, 2) := by decide +kernel
theorem dX14_init_61 : decode cX14_init 61 = .ok (.dup, 1) := by decide +kernel
theorem dX14_init_62 : decode cX14_init 62 = .ok (.invokespecial 15, 3) := by decide +kernel
theorem dX14_init_65 : decode cX14_init 65 = .ok (.putfield 23, 3) := by decide +kernel
theorem dX14_init_68 : decode cX14_init 68 = .ok (.aload_n 0, 1) := by decide +kernel
theorem dX14_init_69 : decode cX14_init 69 = .ok (.new 13, 3) := by decide +kernel
theorem dX14_init_72 : decode cX14_init 72 = .ok (.dup, 1) := by decide +kernel
theorem dX14_init_73 : decode cX14_init 73 = .ok (.invokespecial 15, 3) := by decide +kernel
theorem dX14_init_76 : decode cX14_init 76 = .ok (.putfield 26, 3) := by decide +kernel
theorem dX14_init_79 : decode cX14_init 79 = .ok (.aload_n 0, 1) := by decide +kernel
theorem dX14_init_8 : decode cX14_init 8 = .ok (.dup, 1) := by decide +kernel
theorem dX14_init_80 : decode cX14_init 80 = .ok (.new 13, 3) := by decide +kernel
theorem dX14_init_83 : decode cX14_init 83 = .ok (.dup, 1) := by decide +kernel
theorem dX14_init_84 : decode cX14_init 84 = .ok (.invokespecial 15, 3) := by decide +kernel
theorem dX14_init_87 : decode cX14_init 87 = .ok (.putfield 29, 3) := by decide +kernel
theorem dX14_init_9 : decode cX14_init 9 = .ok (.iconst 0, 1) := by decide +kernel
theorem dX14_init_90 : decode cX14_init 90 = .ok (.aload_n 0, 1) := by decide +kernel
theorem dX14_init_91 : decode cX14_init 91 = .ok (.new 13, 3) := by decide +kernel
theorem dX14_init_94 : decode cX14_init 94 = .ok (.dup, 1) := by decide +kernel
theorem dX14_init_95 : decode cX14_init 95 = .ok (.invokespecial 15, 3) := by decide +kernel
theorem dX14_init_98 : decode cX14_init 98 = .ok (.putfield 32, 3) := by decide +kernel
set_option maxHeartbeats 4000000 in
set_option maxRecDepth 100000 in
theorem z_287_init (l : Launch) (hst : l.stackTraces = false) (D : va_G) (κ : K4) (E0 : Nat) (sz : Nat) (h0 : Nat) : NM l yX14_init cX14_init 1 none 4 72 8 25 E0 D κ ([(h0, .inr (9, [.int 0, .null, .null, .null, .null, .null, .null, .null, .null, .int 0, .int 0, .int 0, .int 0, .int 0, .null]))]) sz [.ref h0] (QV D κ ([(h0, .inr (9, [.int 0, .null, .null, .null, .null, .null, .null, .null, .null, .int 0, .int 0, .int 0, .int 0, .int 0, .null]))]) sz (fun qs : W1 => [(h0, .inr (9, [.int 0, .ref (qs 0), .ref (qs 1), .ref (qs 2), .ref (qs 3), .ref (qs 4), .ref (qs 5), .ref (qs 6), .null, .int 0, .int (-1), .int 0, .int 0, .int 0, .ref (qs 7)])), ((qs 0), .inl (κ.1, 4, .inl (va_up (va_up (va_up (va_up (fun _ => 0) ((0 : Int32).toNatClampNeg) 1000) ((1 : Int32).toNatClampNeg) 1000) ((2 : Int32).toNatClampNeg) 1000) ((3 : Int32).toNatClampNeg) 1000))), ((qs 1), .inr (10, [.int 0, .ref E0, .int 0])), ((qs 2), .inr (10, [.int 0, .ref E0, .int 0])), ((qs 3), .inr (10, [.int 0, .ref E0, .int 0])), ((qs 4), .inr (10, [.int 0, .ref E0, .int 0])), ((qs 5), .inr (10, [.int 0, .ref E0, .int 0])), ((qs 6), .inr (10, [.int 0, .ref E0, .int 0])), ((qs 7), .inr (10, [.int 0, .ref E0, .int 0]))])) := by
  refine NM.of (by decide +kernel) (Nat.le_of_ble_eq_true rfl) ?_
  intro p e s m below meth c ls hC hr hk hin hsz hE hT H locs hG hl
  have hx := hC.1
  have hb := hC.2.1
  have hl : lv_has ls 1 [(0, .ref h0)] := hl
  refine lv_aload_n hx hb dX14_init_0 rfl (lv_at hl 0 rfl) ?_
  refine bw_obj hC w113 hl.1 dX14_init_1 (Nat.le_of_ble_eq_true rfl) (Nat.le_of_ble_eq_true rfl) w11 w12 ?_
  refine lv_aload_n hx hb dX14_init_4 rfl (lv_at hl 0 rfl) ?_
  refine lv_iconst (v := 4) hx hb dX14_init_5 (by decide) ?_
  refine W.eq (g2 := F0 m 6 ls [.int (nI 4), .ref h0]) rfl ?_
  refine bw_nI hC hG (by decide) w47 (Nat.le_of_ble_eq_true rfl) (Nat.le_of_ble_eq_true rfl) dX14_init_6 (fun q1 H hG => ?_)
  have hG : BW D κ (([(h0, .inr (9, [.int 0, .null, .null, .null, .null, .null, .null, .null, .null, .int 0, .int 0, .int 0, .int 0, .int 0, .null]))]) ++ [(q1, .inl (κ.1, 4, .inl (fun _ => 0)))]) _ s H locs := hG
  refine lv_dup hx hb dX14_init_8 rfl ?_
  refine lv_iconst (v := 0) hx hb dX14_init_9 (by decide) ?_
  refine lv_sipush (v := 1000) hx hb dX14_init_10 (by decide) ?_
  refine zs_ast 1 hC hG rfl (vp_box (by have e0 : (0 : Int32).toInt = 0 := (by decide); omega) (by have e0 : (0 : Int32).toInt = 0 := (by decide); omega)) dX14_init_13 (fun H locs hG => ?_)
  have hG : BW D κ ((([(h0, .inr (9, [.int 0, .null, .null, .null, .null, .null, .null, .null, .null, .int 0, .int 0, .int 0, .int 0, .int 0, .null]))]) ++ [(q1, .inl (κ.1, 4, .inl (fun _ => 0)))] : va_W).set 1 (q1, .inl (κ.1, 4, .inl (va_up (fun _ => 0) ((0 : Int32).toNatClampNeg) 1000)))) _ s H locs := hG
  refine lv_dup hx hb dX14_init_14 rfl ?_
  refine lv_iconst (v := 1) hx hb dX14_init_15 (by decide) ?_
  refine lv_sipush (v := 1000) hx hb dX14_init_16 (by decide) ?_
  refine zs_ast 1 hC hG rfl (vp_box (by have e0 : (1 : Int32).toInt = 1 := (by decide); omega) (by have e0 : (1 : Int32).toInt = 1 := (by decide); omega)) dX14_init_19 (fun H locs hG => ?_)
  have hG : BW D κ (((([(h0, .inr (9, [.int 0, .null, .null, .null, .null, .null, .null, .null, .null, .int 0, .int 0, .int 0, .int 0, .int 0, .null]))]) ++ [(q1, .inl (κ.1, 4, .inl (fun _ => 0)))] : va_W).set 1 (q1, .inl (κ.1, 4, .inl (va_up (fun _ => 0) ((0 : Int32).toNatClampNeg) 1000))) : va_W).set 1 (q1, .inl (κ.1, 4, .inl (va_up (va_up (fun _ => 0) ((0 : Int32).toNatClampNeg) 1000) ((1 : Int32).toNatClampNeg) 1000)))) _ s H locs := hG
  refine lv_dup hx hb dX14_init_20 rfl ?_
  refine lv_iconst (v := 2) hx hb dX14_init_21 (by decide) ?_
  refine lv_sipush (v := 1000) hx hb dX14_init_22 (by decide) ?_
  refine zs_ast 1 hC hG rfl (vp_box (by have e0 : (2 : Int32).toInt = 2 := (by decide); omega) (by have e0 : (2 : Int32).toInt = 2 := (by decide); omega)) dX14_init_25 (fun H locs hG => ?_)
  have hG : BW D κ ((((([(h0, .inr (9, [.int 0, .null, .null, .null, .null, .null, .null, .null, .null, .int 0, .int 0, .int 0, .int 0, .int 0, .null]))]) ++ [(q1, .inl (κ.1, 4, .inl (fun _ => 0)))] : va_W).set 1 (q1, .inl (κ.1, 4, .inl (va_up (fun _ => 0) ((0 : Int32).toNatClampNeg) 1000))) : va_W).set 1 (q1, .inl (κ.1, 4, .inl (va_up (va_up (fun _ => 0) ((0 : Int32).toNatClampNeg) 1000) ((1 : Int32).toNatClampNeg) 1000))) : va_W).set 1 (q1, .inl (κ.1, 4, .inl (va_up (va_up (va_up (fun _ => 0) ((0 : Int32).toNatClampNeg) 1000) ((1 : Int32).toNatClampNeg) 1000) ((2 : Int32).toNatClampNeg) 1000)))) _ s H locs := hG
  refine lv_dup hx hb dX14_init_26 rfl ?_
  refine lv_iconst (v := 3) hx hb dX14_init_27 (by decide) ?_
  refine lv_sipush (v := 1000) hx hb dX14_init_28 (by decide) ?_
  refine zs_ast 1 hC hG rfl (vp_box (by have e0 : (3 : Int32).toInt = 3 := (by decide); omega) (by have e0 : (3 : Int32).toInt = 3 := (by decide); omega)) dX14_init_31 (fun H locs hG => ?_)
  have hG : BW D κ (((((([(h0, .inr (9, [.int 0, .null, .null, .null, .null, .null, .null, .null, .null, .int 0, .int 0, .int 0, .int 0, .int 0, .null]))]) ++ [(q1, .inl (κ.1, 4, .inl (fun _ => 0)))] : va_W).set 1 (q1, .inl (κ.1, 4, .inl (va_up (fun _ => 0) ((0 : Int32).toNatClampNeg) 1000))) : va_W).set 1 (q1, .inl (κ.1, 4, .inl (va_up (va_up (fun _ => 0) ((0 : Int32).toNatClampNeg) 1000) ((1 : Int32).toNatClampNeg) 1000))) : va_W).set 1 (q1, .inl (κ.1, 4, .inl (va_up (va_up (va_up (fun _ => 0) ((0 : Int32).toNatClampNeg) 1000) ((1 : Int32).toNatClampNeg) 1000) ((2 : Int32).toNatClampNeg) 1000))) : va_W).set 1 (q1, .inl (κ.1, 4, .inl (va_up (va_up (va_up (va_up (fun _ => 0) ((0 : Int32).toNatClampNeg) 1000) ((1 : Int32).toNatClampNeg) 1000) ((2 : Int32).toNatClampNeg) 1000) ((3 : Int32).toNatClampNeg) 1000)))) _ s H locs := hG
  refine bw_put (C := RX14) (T := TX14) (N := 15) (ci := 9) (ty0 := tyX14) (ty := .array .int) (v := .ref q1) 1 (by decide) 0 hC hG iwX14 tyX14_ok nmX14 rfl rfl w114 rfl (Or.inr ⟨hin rfl, rfl⟩) (by decide +kernel) rfl rfl (Nat.le_of_ble_eq_true rfl) dX14_init_32 (fun H locs hG => ?_)
  have hG : BW D κ ((((((([(h0, .inr (9, [.int 0, .null, .null, .null, .null, .null, .null, .null, .null, .int 0, .int 0, .int 0, .int 0, .int 0, .null]))]) ++ [(q1, .inl (κ.1, 4, .inl (fun _ => 0)))] : va_W).set 1 (q1, .inl (κ.1, 4, .inl (va_up (fun _ => 0) ((0 : Int32).toNatClampNeg) 1000))) : va_W).set 1 (q1, .inl (κ.1, 4, .inl (va_up (va_up (fun _ => 0) ((0 : Int32).toNatClampNeg) 1000) ((1 : Int32).toNatClampNeg) 1000))) : va_W).set 1 (q1, .inl (κ.1, 4, .inl (va_up (va_up (va_up (fun _ => 0) ((0 : Int32).toNatClampNeg) 1000) ((1 : Int32).toNatClampNeg) 1000) ((2 : Int32).toNatClampNeg) 1000))) : va_W).set 1 (q1, .inl (κ.1, 4, .inl (va_up (va_up (va_up (va_up (fun _ => 0) ((0 : Int32).toNatClampNeg) 1000) ((1 : Int32).toNatClampNeg) 1000) ((2 : Int32).toNatClampNeg) 1000) ((3 : Int32).toNatClampNeg) 1000))) : va_W).set 0 (h0, .inr (9, [.int 0, .ref q1, .null, .null, .null, .null, .null, .null, .null, .int 0, .int 0, .int 0, .int 0, .int 0, .null]))) _ s H locs := hG
  refine lv_aload_n hx hb dX14_init_35 rfl (lv_at hl 0 rfl) ?_
  refine bw_new (C := RJx4a65c) (T := TJx4a65c) (N := 3) (ci := 10) (fs := [.int 0, .null, .int 0]) hC hG iwJA tyJx4a65c_ok w115 w116 w117 rfl (fun j hj => by rcases (show j = 0 ∨ j = 1 ∨ j = 2 by omega) with rfl | rfl | rfl <;> rfl) (Nat.le_of_ble_eq_true rfl) (Nat.le_of_ble_eq_true rfl) dX14_init_36 (fun q2 H hG => ?_)
  have hG : BW D κ (((((((([(h0, .inr (9, [.int 0, .null, .null, .null, .null, .null, .null, .null, .null, .int 0, .int 0, .int 0, .int 0, .int 0, .null]))]) ++ [(q1, .inl (κ.1, 4, .inl (fun _ => 0)))] : va_W).set 1 (q1, .inl (κ.1, 4, .inl (va_up (fun _ => 0) ((0 : Int32).toNatClampNeg) 1000))) : va_W).set 1 (q1, .inl (κ.1, 4, .inl (va_up (va_up (fun _ => 0) ((0 : Int32).toNatClampNeg) 1000) ((1 : Int32).toNatClampNeg) 1000))) : va_W).set 1 (q1, .inl (κ.1, 4, .inl (va_up (va_up (va_up (fun _ => 0) ((0 : Int32).toNatClampNeg) 1000) ((1 : Int32).toNatClampNeg) 1000) ((2 : Int32).toNatClampNeg) 1000))) : va_W).set 1 (q1, .inl (κ.1, 4, .inl (va_up (va_up (va_up (va_up (fun _ => 0) ((0 : Int32).toNatClampNeg) 1000) ((1 : Int32).toNatClampNeg) 1000) ((2 : Int32).toNatClampNeg) 1000) ((3 : Int32).toNatClampNeg) 1000))) : va_W).set 0 (h0, .inr (9, [.int 0, .ref q1, .null, .null, .null, .null, .null, .null, .null, .int 0, .int 0, .int 0, .int 0, .int 0, .null]))) ++ [(q2, .inr (10, [.int 0, .null, .int 0]))]) _ s H locs := hG
  refine lv_dup hx hb dX14_init_39 rfl ?_
  have cut40 : Cut (((((((([(h0, .inr (9, [.int 0, .null, .null, .null, .null, .null, .null, .null, .null, .int 0, .int 0, .int 0, .int 0, .int 0, .null]))]) ++ [(q1, .inl (κ.1, 4, .inl (fun _ => 0)))] : va_W).set 1 (q1, .inl (κ.1, 4, .inl (va_up (fun _ => 0) ((0 : Int32).toNatClampNeg) 1000))) : va_W).set 1 (q1, .inl (κ.1, 4, .inl (va_up (va_up (fun _ => 0) ((0 : Int32).toNatClampNeg) 1000) ((1 : Int32).toNatClampNeg) 1000))) : va_W).set 1 (q1, .inl (κ.1, 4, .inl (va_up (va_up (va_up (fun _ => 0) ((0 : Int32).toNatClampNeg) 1000) ((1 : Int32).toNatClampNeg) 1000) ((2 : Int32).toNatClampNeg) 1000))) : va_W).set 1 (q1, .inl (κ.1, 4, .inl (va_up (va_up (va_up (va_up (fun _ => 0) ((0 : Int32).toNatClampNeg) 1000) ((1 : Int32).toNatClampNeg) 1000) ((2 : Int32).toNatClampNeg) 1000) ((3 : Int32).toNatClampNeg) 1000))) : va_W).set 0 (h0, .inr (9, [.int 0, .ref q1, .null, .null, .null, .null, .null, .null, .null, .int 0, .int 0, .int 0, .int 0, .int 0, .null]))) ++ [(q2, .inr (10, [.int 0, .null, .int 0]))]) ([(q2, .inr (10, [.int 0, .null, .int 0]))]) ([(h0, .inr (9, [.int 0, .ref q1, .null, .null, .null, .null, .null, .null, .null, .int 0, .int 0, .int 0, .int 0, .int 0, .null])), (q1, .inl (κ.1, 4, .inl (va_up (va_up (va_up (va_up (fun _ => 0) ((0 : Int32).toNatClampNeg) 1000) ((1 : Int32).toNatClampNeg) 1000) ((2 : Int32).toNatClampNeg) 1000) ((3 : Int32).toNatClampNeg) 1000)))]) := (Cut.idx [2] [0, 1] rfl rfl (by decide) (by decide) (by decide))
  refine zc_v hG cut40 (zr_I (n := 0) (As := []) (rest := [.ref q2, .ref h0]) hC hG hE hT cut40 (z_161_init l hst D κ E0 H.size q2) w126 w117 w128 w127 rfl (by decide +kernel) ⟨Nat.le_of_ble_eq_true rfl, Nat.le_of_ble_eq_true rfl⟩ rfl hl.1 rfl (Nat.le_of_ble_eq_true rfl) dX14_init_40 ⟨Nat.le_of_ble_eq_true rfl, Nat.le_of_ble_eq_true rfl⟩) (fun z1 H locs hG => ?_)
  have hG : BW D κ (([(h0, .inr (9, [.int 0, .ref q1, .null, .null, .null, .null, .null, .null, .null, .int 0, .int 0, .int 0, .int 0, .int 0, .null])), (q1, .inl (κ.1, 4, .inl (va_up (va_up (va_up (va_up (fun _ => 0) ((0 : Int32).toNatClampNeg) 1000) ((1 : Int32).toNatClampNeg) 1000) ((2 : Int32).toNatClampNeg) 1000) ((3 : Int32).toNatClampNeg) 1000)))]) ++ ([(q2, .inr (10, [.int 0, .ref E0, .int 0]))])) _ s H locs := hG
  refine bw_put (C := RX14) (T := TX14) (N := 15) (ci := 9) (ty0 := tyX14) (ty := .object "java/util/ArrayList") (v := .ref q2) 2 (by decide) 0 hC hG iwX14 tyX14_ok nmX14 rfl rfl w118 rfl (Or.inr ⟨hin rfl, rfl⟩) (by decide +kernel) rfl rfl (Nat.le_of_ble_eq_true rfl) dX14_init_43 (fun H locs hG => ?_)
  have hG : BW D κ ((([(h0, .inr (9, [.int 0, .ref q1, .null, .null, .null, .null, .null, .null, .null, .int 0, .int 0, .int 0, .int 0, .int 0, .null])), (q1, .inl (κ.1, 4, .inl (va_up (va_up (va_up (va_up (fun _ => 0) ((0 : Int32).toNatClampNeg) 1000) ((1 : Int32).toNatClampNeg) 1000) ((2 : Int32).toNatClampNeg) 1000) ((3 : Int32).toNatClampNeg) 1000)))]) ++ ([(q2, .inr (10, [.int 0, .ref E0, .int 0]))]) : va_W).set 0 (h0, .inr (9, [.int 0, .ref q1, .ref q2, .null, .null, .null, .null, .null, .null, .int 0, .int 0, .int 0, .int 0, .int 0, .null]))) _ s H locs := hG
  refine lv_aload_n hx hb dX14_init_46 rfl (lv_at hl 0 rfl) ?_
  refine bw_new (C := RJx4a65c) (T := TJx4a65c) (N := 3) (ci := 10) (fs := [.int 0, .null, .int 0]) hC hG iwJA tyJx4a65c_ok w115 w116 w117 rfl (fun j hj => by rcases (show j = 0 ∨ j = 1 ∨ j = 2 by omega) with rfl | rfl | rfl <;> rfl) (Nat.le_of_ble_eq_true rfl) (Nat.le_of_ble_eq_true rfl) dX14_init_47 (fun q3 H hG => ?_)
  have hG : BW D κ (((([(h0, .inr (9, [.int 0, .ref q1, .null, .null, .null, .null, .null, .null, .null, .int 0, .int 0, .int 0, .int 0, .int 0, .null])), (q1, .inl (κ.1, 4, .inl (va_up (va_up (va_up (va_up (fun _ => 0) ((0 : Int32).toNatClampNeg) 1000) ((1 : Int32).toNatClampNeg) 1000) ((2 : Int32).toNatClampNeg) 1000) ((3 : Int32).toNatClampNeg) 1000)))]) ++ ([(q2, .inr (10, [.int 0, .ref E0, .int 0]))]) : va_W).set 0 (h0, .inr (9, [.int 0, .ref q1, .ref q2, .null, .null, .null, .null, .null, .null, .int 0, .int 0, .int 0, .int 0, .int 0, .null]))) ++ [(q3, .inr (10, [.int 0, .null, .int 0]))]) _ s H locs := hG
  refine lv_dup hx hb dX14_init_50 rfl ?_
  have cut51 : Cut (((([(h0, .inr (9, [.int 0, .ref q1, .null, .null, .null, .null, .null, .null, .null, .int 0, .int 0, .int 0, .int 0, .int 0, .null])), (q1, .inl (κ.1, 4, .inl (va_up (va_up (va_up (va_up (fun _ => 0) ((0 : Int32).toNatClampNeg) 1000) ((1 : Int32).toNatClampNeg) 1000) ((2 : Int32).toNatClampNeg) 1000) ((3 : Int32).toNatClampNeg) 1000)))]) ++ ([(q2, .inr (10, [.int 0, .ref E0, .int 0]))]) : va_W).set 0 (h0, .inr (9, [.int 0, .ref q1, .ref q2, .null, .null, .null, .null, .null, .null, .int 0, .int 0, .int 0, .int 0, .int 0, .null]))) ++ [(q3, .inr (10, [.int 0, .null, .int 0]))]) ([(q3, .inr (10, [.int 0, .null, .int 0]))]) ([(h0, .inr (9, [.int 0, .ref q1, .ref q2, .null, .null, .null, .null, .null, .null, .int 0, .int 0, .int 0, .int 0, .int 0, .null])), (q1, .inl (κ.1, 4, .inl (va_up (va_up (va_up (va_up (fun _ => 0) ((0 : Int32).toNatClampNeg) 1000) ((1 : Int32).toNatClampNeg) 1000) ((2 : Int32).toNatClampNeg) 1000) ((3 : Int32).toNatClampNeg) 1000))), (q2, .inr (10, [.int 0, .ref E0, .int 0]))]) := (Cut.idx [3] [0, 1, 2] rfl rfl (by decide) (by decide) (by decide))
  refine zc_v hG cut51 (zr_I (n := 0) (As := []) (rest := [.ref q3, .ref h0]) hC hG hE hT cut51 (z_161_init l hst D κ E0 H.size q3) w126 w117 w128 w127 rfl (by decide +kernel) ⟨Nat.le_of_ble_eq_true rfl, Nat.le_of_ble_eq_true rfl⟩ rfl hl.1 rfl (Nat.le_of_ble_eq_true rfl) dX14_init_51 ⟨Nat.le_of_ble_eq_true rfl, Nat.le_of_ble_eq_true rfl⟩) (fun z2 H locs hG => ?_)
  have hG : BW D κ (([(h0, .inr (9, [.int 0, .ref q1, .ref q2, .null, .null, .null, .null, .null, .null, .int 0, .int 0, .int 0, .int 0, .int 0, .null])), (q1, .inl (κ.1, 4, .inl (va_up (va_up (va_up (va_up (fun _ => 0) ((0 : Int32).toNatClampNeg) 1000) ((1 : Int32).toNatClampNeg) 1000) ((2 : Int32).toNatClampNeg) 1000) ((3 : Int32).toNatClampNeg) 1000))), (q2, .inr (10, [.int 0, .ref E0, .int 0]))]) ++ ([(q3, .inr (10, [.int 0, .ref E0, .int 0]))])) _ s H locs := hG
  refine bw_put (C := RX14) (T := TX14) (N := 15) (ci := 9) (ty0 := tyX14) (ty := .object "java/util/ArrayList") (v := .ref q3) 3 (by decide) 0 hC hG iwX14 tyX14_ok nmX14 rfl rfl w119 rfl (Or.inr ⟨hin rfl, rfl⟩) (by decide +kernel) rfl rfl (Nat.le_of_ble_eq_true rfl) dX14_init_54 (fun H locs hG => ?_)
  have hG : BW D κ ((([(h0, .inr (9, [.int 0, .ref q1, .ref q2, .null, .null, .null, .null, .null, .null, .int 0, .int 0, .int 0, .int 0, .int 0, .null])), (q1, .inl (κ.1, 4, .inl (va_up (va_up (va_up (va_up (fun _ => 0) ((0 : Int32).toNatClampNeg) 1000) ((1 : Int32).toNatClampNeg) 1000) ((2 : Int32).toNatClampNeg) 1000) ((3 : Int32).toNatClampNeg) 1000))), (q2, .inr (10, [.int 0, .ref E0, .int 0]))]) ++ ([(q3, .inr (10, [.int 0, .ref E0, .int 0]))]) : va_W).set 0 (h0, .inr (9, [.int 0, .ref q1, .ref q2, .ref q3, .null, .null, .null, .null, .null, .int 0, .int 0, .int 0, .int 0, .int 0, .null]))) _ s H locs := hG
  refine lv_aload_n hx hb dX14_init_57 rfl (lv_at hl 0 rfl) ?_
  refine bw_new (C := RJx4a65c) (T := TJx4a65c) (N := 3) (ci := 10) (fs := [.int 0, .null, .int 0]) hC hG iwJA tyJx4a65c_ok w115 w116 w117 rfl (fun j hj => by rcases (show j = 0 ∨ j = 1 ∨ j = 2 by omega) with rfl | rfl | rfl <;> rfl) (Nat.le_of_ble_eq_true rfl) (Nat.le_of_ble_eq_true rfl) dX14_init_58 (fun q4 H hG => ?_)
  have hG : BW D κ (((([(h0, .inr (9, [.int 0, .ref q1, .ref q2, .null, .null, .null, .null, .null, .null, .int 0, .int 0, .int 0, .int 0, .int 0, .null])), (q1, .inl (κ.1, 4, .inl (va_up (va_up (va_up (va_up (fun _ => 0) ((0 : Int32).toNatClampNeg) 1000) ((1 : Int32).toNatClampNeg) 1000) ((2 : Int32).toNatClampNeg) 1000) ((3 : Int32).toNatClampNeg) 1000))), (q2, .inr (10, [.int 0, .ref E0, .int 0]))]) ++ ([(q3, .inr (10, [.int 0, .ref E0, .int 0]))]) : va_W).set 0 (h0, .inr (9, [.int 0, .ref q1, .ref q2, .ref q3, .null, .null, .null, .null, .null, .int 0, .int 0, .int 0, .int 0, .int 0, .null]))) ++ [(q4, .inr (10, [.int 0, .null, .int 0]))]) _ s H locs := hG
  refine lv_dup hx hb dX14_init_61 rfl ?_
  have cut62 : Cut (((([(h0, .inr (9, [.int 0, .ref q1, .ref q2, .null, .null, .null, .null, .null, .null, .int 0, .int 0, .int 0, .int 0, .int 0, .null])), (q1, .inl (κ.1, 4, .inl (va_up (va_up (va_up (va_up (fun _ => 0) ((0 : Int32).toNatClampNeg) 1000) ((1 : Int32).toNatClampNeg) 1000) ((2 : Int32).toNatClampNeg) 1000) ((3 : Int32).toNatClampNeg) 1000))), (q2, .inr (10, [.int 0, .ref E0, .int 0]))]) ++ ([(q3, .inr (10, [.int 0, .ref E0, .int 0]))]) : va_W).set 0 (h0, .inr (9, [.int 0, .ref q1, .ref q2, .ref q3, .null, .null, .null, .null, .null, .int 0, .int 0, .int 0, .int 0, .int 0, .null]))) ++ [(q4, .inr (10, [.int 0, .null, .int 0]))]) ([(q4, .inr (10, [.int 0, .null, .int 0]))]) ([(h0, .inr (9, [.int 0, .ref q1, .ref q2, .ref q3, .null, .null, .null, .null, .null, .int 0, .int 0, .int 0, .int 0, .int 0, .null])), (q1, .inl (κ.1, 4, .inl (va_up (va_up (va_up (va_up (fun _ => 0) ((0 : Int32).toNatClampNeg) 1000) ((1 : Int32).toNatClampNeg) 1000) ((2 : Int32).toNatClampNeg) 1000) ((3 : Int32).toNatClampNeg) 1000))), (q2, .inr (10, [.int 0, .ref E0, .int 0])), (q3, .inr (10, [.int 0, .ref E0, .int 0]))]) := (Cut.idx [4] [0, 1, 2, 3] rfl rfl (by decide) (by decide) (by decide))
  refine zc_v hG cut62 (zr_I (n := 0) (As := []) (rest := [.ref q4, .ref h0]) hC hG hE hT cut62 (z_161_init l hst D κ E0 H.size q4) w126 w117 w128 w127 rfl (by decide +kernel) ⟨Nat.le_of_ble_eq_true rfl, Nat.le_of_ble_eq_true rfl⟩ rfl hl.1 rfl (Nat.le_of_ble_eq_true rfl) dX14_init_62 ⟨Nat.le_of_ble_eq_true rfl, Nat.le_of_ble_eq_true rfl⟩) (fun z3 H locs hG => ?_)
  have hG : BW D κ (([(h0, .inr (9, [.int 0, .ref q1, .ref q2, .ref q3, .null, .null, .null, .null, .null, .int 0, .int 0, .int 0, .int 0, .int 0, .null])), (q1, .inl (κ.1, 4, .inl (va_up (va_up (va_up (va_up (fun _ => 0) ((0 : Int32).toNatClampNeg) 1000) ((1 : Int32).toNatClampNeg) 1000) ((2 : Int32).toNatClampNeg) 1000) ((3 : Int32).toNatClampNeg) 1000))), (q2, .inr (10, [.int 0, .ref E0, .int 0])), (q3, .inr (10, [.int 0, .ref E0, .int 0]))]) ++ ([(q4, .inr (10, [.int 0, .ref E0, .int 0]))])) _ s H locs := hG
  refine bw_put (C := RX14) (T := TX14) (N := 15) (ci := 9) (ty0 := tyX14) (ty := .object "java/util/ArrayList") (v := .ref q4) 4 (by decide) 0 hC hG iwX14 tyX14_ok nmX14 rfl rfl w120 rfl (Or.inr ⟨hin rfl, rfl⟩) (by decide +kernel) rfl rfl (Nat.le_of_ble_eq_true rfl) dX14_init_65 (fun H locs hG => ?_)
  have hG : BW D κ ((([(h0, .inr (9, [.int 0, .ref q1, .ref q2, .ref q3, .null, .null, .null, .null, .null, .int 0, .int 0, .int 0, .int 0, .int 0, .null])), (q1, .inl (κ.1, 4, .inl (va_up (va_up (va_up (va_up (fun _ => 0) ((0 : Int32).toNatClampNeg) 1000) ((1 : Int32).toNatClampNeg) 1000) ((2 : Int32).toNatClampNeg) 1000) ((3 : Int32).toNatClampNeg) 1000))), (q2, .inr (10, [.int 0, .ref E0, .int 0])), (q3, .inr (10, [.int 0, .ref E0, .int 0]))]) ++ ([(q4, .inr (10, [.int 0, .ref E0, .int 0]))]) : va_W).set 0 (h0, .inr (9, [.int 0, .ref q1, .ref q2, .ref q3, .ref q4, .null, .null, .null, .null, .int 0, .int 0, .int 0, .int 0, .int 0, .null]))) _ s H locs := hG
  refine lv_aload_n hx hb dX14_init_68 rfl (lv_at hl 0 rfl) ?_
  refine bw_new (C := RJx4a65c) (T := TJx4a65c) (N := 3) (ci := 10) (fs := [.int 0, .null, .int 0]) hC hG iwJA tyJx4a65c_ok w115 w116 w117 rfl (fun j hj => by rcases (show j = 0 ∨ j = 1 ∨ j = 2 by omega) with rfl | rfl | rfl <;> rfl) (Nat.le_of_ble_eq_true rfl) (Nat.le_of_ble_eq_true rfl) dX14_init_69 (fun q5 H hG => ?_)
  have hG : BW D κ (((([(h0, .inr (9, [.int 0, .ref q1, .ref q2, .ref q3, .null, .null, .null, .null, .null, .int 0, .int 0, .int 0, .int 0, .int 0, .null])), (q1, .inl (κ.1, 4, .inl (va_up (va_up (va_up (va_up (fun _ => 0) ((0 : Int32).toNatClampNeg) 1000) ((1 : Int32).toNatClampNeg) 1000) ((2 : Int32).toNatClampNeg) 1000) ((3 : Int32).toNatClampNeg) 1000))), (q2, .inr (10, [.int 0, .ref E0, .int 0])), (q3, .inr (10, [.int 0, .ref E0, .int 0]))]) ++ ([(q4, .inr (10, [.int 0, .ref E0, .int 0]))]) : va_W).set 0 (h0, .inr (9, [.int 0, .ref q1, .ref q2, .ref q3, .ref q4, .null, .null, .null, .null, .int 0, .int 0, .int 0, .int 0, .int 0, .null]))) ++ [(q5, .inr (10, [.int 0, .null, .int 0]))]) _ s H locs := hG
  refine lv_dup hx hb dX14_init_72 rfl ?_
  have cut73 : Cut (((([(h0, .inr (9, [.int 0, .ref q1, .ref q2, .ref q3, .null, .null, .null, .null, .null, .int 0, .int 0, .int 0, .int 0, .int 0, .null])), (q1, .inl (κ.1, 4, .inl (va_up (va_up (va_up (va_up (fun _ => 0) ((0 : Int32).toNatClampNeg) 1000) ((1 : Int32).toNatClampNeg) 1000) ((2 : Int32).toNatClampNeg) 1000) ((3 : Int32).toNatClampNeg) 1000))), (q2, .inr (10, [.int 0, .ref E0, .int 0])), (q3, .inr (10, [.int 0, .ref E0, .int 0]))]) ++ ([(q4, .inr (10, [.int 0, .ref E0, .int 0]))]) : va_W).set 0 (h0, .inr (9, [.int 0, .ref q1, .ref q2, .ref q3, .ref q4, .null, .null, .null, .null, .int 0, .int 0, .int 0, .int 0, .int 0, .null]))) ++ [(q5, .inr (10, [.int 0, .null, .int 0]))]) ([(q5, .inr (10, [.int 0, .null, .int 0]))]) ([(h0, .inr (9, [.int 0, .ref q1, .ref q2, .ref q3, .ref q4, .null, .null, .null, .null, .int 0, .int 0, .int 0, .int 0, .int 0, .null])), (q1, .inl (κ.1, 4, .inl (va_up (va_up (va_up (va_up (fun _ => 0) ((0 : Int32).toNatClampNeg) 1000) ((1 : Int32).toNatClampNeg) 1000) ((2 : Int32).toNatClampNeg) 1000) ((3 : Int32).toNatClampNeg) 1000))), (q2, .inr (10, [.int 0, .ref E0, .int 0])), (q3, .inr (10, [.int 0, .ref E0, .int 0])), (q4, .inr (10, [.int 0, .ref E0, .int 0]))]) := (Cut.idx [5] [0, 1, 2, 3, 4] rfl rfl (by decide) (by decide) (by decide))
  refine zc_v hG cut73 (zr_I (n := 0) (As := []) (rest := [.ref q5, .ref h0]) hC hG hE hT cut73 (z_161_init l hst D κ E0 H.size q5) w126 w117 w128 w127 rfl (by decide +kernel) ⟨Nat.le_of_ble_eq_true rfl, Nat.le_of_ble_eq_true rfl⟩ rfl hl.1 rfl (Nat.le_of_ble_eq_true rfl) dX14_init_73 ⟨Nat.le_of_ble_eq_true rfl, Nat.le_of_ble_eq_true rfl⟩) (fun z4 H locs hG => ?_)
  have hG : BW D κ (([(h0, .inr (9, [.int 0, .ref q1, .ref q2, .ref q3, .ref q4, .null, .null, .null, .null, .int 0, .int 0, .int 0, .int 0, .int 0, .null])), (q1, .inl (κ.1, 4, .inl (va_up (va_up (va_up (va_up (fun _ => 0) ((0 : Int32).toNatClampNeg) 1000) ((1 : Int32).toNatClampNeg) 1000) ((2 : Int32).toNatClampNeg) 1000) ((3 : Int32).toNatClampNeg) 1000))), (q2, .inr (10, [.int 0, .ref E0, .int 0])), (q3, .inr (10, [.int 0, .ref E0, .int 0])), (q4, .inr (10, [.int 0, .ref E0, .int 0]))]) ++ ([(q5, .inr (10, [.int 0, .ref E0, .int 0]))])) _ s H locs := hG
  refine bw_put (C := RX14) (T := TX14) (N := 15) (ci := 9) (ty0 := tyX14) (ty := .object "java/util/ArrayList") (v := .ref q5) 5 (by decide) 0 hC hG iwX14 tyX14_ok nmX14 rfl rfl w121 rfl (Or.inr ⟨hin rfl, rfl⟩) (by decide +kernel) rfl rfl (Nat.le_of_ble_eq_true rfl) dX14_init_76 (fun H locs hG => ?_)
  have hG : BW D κ ((([(h0, .inr (9, [.int 0, .ref q1, .ref q2, .ref q3, .ref q4, .null, .null, .null, .null, .int 0, .int 0, .int 0, .int 0, .int 0, .null])), (q1, .inl (κ.1, 4, .inl (va_up (va_up (va_up (va_up (fun _ => 0) ((0 : Int32).toNatClampNeg) 1000) ((1 : Int32).toNatClampNeg) 1000) ((2 : Int32).toNatClampNeg) 1000) ((3 : Int32).toNatClampNeg) 1000))), (q2, .inr (10, [.int 0, .ref E0, .int 0])), (q3, .inr (10, [.int 0, .ref E0, .int 0])), (q4, .inr (10, [.int 0, .ref E0, .int 0]))]) ++ ([(q5, .inr (10, [.int 0, .ref E0, .int 0]))]) : va_W).set 0 (h0, .inr (9, [.int 0, .ref q1, .ref q2, .ref q3, .ref q4, .ref q5, .null, .null, .null, .int 0, .int 0, .int 0, .int 0, .int 0, .null]))) _ s H locs := hG
  refine lv_aload_n hx hb dX14_init_79 rfl (lv_at hl 0 rfl) ?_
  refine bw_new (C := RJx4a65c) (T := TJx4a65c) (N := 3) (ci := 10) (fs := [.int 0, .null, .int 0]) hC hG iwJA tyJx4a65c_ok w115 w116 w117 rfl (fun j hj => by rcases (show j = 0 ∨ j = 1 ∨ j = 2 by omega) with rfl | rfl | rfl <;> rfl) (Nat.le_of_ble_eq_true rfl) (Nat.le_of_ble_eq_true rfl) dX14_init_80 (fun q6 H hG => ?_)
  have hG : BW D κ (((([(h0, .inr (9, [.int 0, .ref q1, .ref q2, .ref q3, .ref q4, .null, .null, .null, .null, .int 0, .int 0, .int 0, .int 0, .int 0, .null])), (q1, .inl (κ.1, 4, .inl (va_up (va_up (va_up (va_up (fun _ => 0) ((0 : Int32).toNatClampNeg) 1000) ((1 : Int32).toNatClampNeg) 1000) ((2 : Int32).toNatClampNeg) 1000) ((3 : Int32).toNatClampNeg) 1000))), (q2, .inr (10, [.int 0, .ref E0, .int 0])), (q3, .inr (10, [.int 0, .ref E0, .int 0])), (q4, .inr (10, [.int 0, .ref E0, .int 0]))]) ++ ([(q5, .inr (10, [.int 0, .ref E0, .int 0]))]) : va_W).set 0 (h0, .inr (9, [.int 0, .ref q1, .ref q2, .ref q3, .ref q4, .ref q5, .null, .null, .null, .int 0, .int 0, .int 0, .int 0, .int 0, .null]))) ++ [(q6, .inr (10, [.int 0, .null, .int 0]))]) _ s H locs := hG
  refine lv_dup hx hb dX14_init_83 rfl ?_
  have cut84 : Cut (((([(h0, .inr (9, [.int 0, .ref q1, .ref q2, .ref q3, .ref q4, .null, .null, .null, .null, .int 0, .int 0, .int 0, .int 0, .int 0, .null])), (q1, .inl (κ.1, 4, .inl (va_up (va_up (va_up (va_up (fun _ => 0) ((0 : Int32).toNatClampNeg) 1000) ((1 : Int32).toNatClampNeg) 1000) ((2 : Int32).toNatClampNeg) 1000) ((3 : Int32).toNatClampNeg) 1000))), (q2, .inr (10, [.int 0, .ref E0, .int 0])), (q3, .inr (10, [.int 0, .ref E0, .int 0])), (q4, .inr (10, [.int 0, .ref E0, .int 0]))]) ++ ([(q5, .inr (10, [.int 0, .ref E0, .int 0]))]) : va_W).set 0 (h0, .inr (9, [.int 0, .ref q1, .ref q2, .ref q3, .ref q4, .ref q5, .null, .null, .null, .int 0, .int 0, .int 0, .int 0, .int 0, .null]))) ++ [(q6, .inr (10, [.int 0, .null, .int 0]))]) ([(q6, .inr (10, [.int 0, .null, .int 0]))]) ([(h0, .inr (9, [.int 0, .ref q1, .ref q2, .ref q3, .ref q4, .ref q5, .null, .null, .null, .int 0, .int 0, .int 0, .int 0, .int 0, .null])), (q1, .inl (κ.1, 4, .inl (va_up (va_up (va_up (va_up (fun _ => 0) ((0 : Int32).toNatClampNeg) 1000) ((1 : Int32).toNatClampNeg) 1000) ((2 : Int32).toNatClampNeg) 1000) ((3 : Int32).toNatClampNeg) 1000))), (q2, .inr (10, [.int 0, .ref E0, .int 0])), (q3, .inr (10, [.int 0, .ref E0, .int 0])), (q4, .inr (10, [.int 0, .ref E0, .int 0])), (q5, .inr (10, [.int 0, .ref E0, .int 0]))]) := (Cut.idx [6] [0, 1, 2, 3, 4, 5] rfl rfl (by decide) (by decide) (by decide))
  refine zc_v hG cut84 (zr_I (n := 0) (As := []) (rest := [.ref q6, .ref h0]) hC hG hE hT cut84 (z_161_init l hst D κ E0 H.size q6) w126 w117 w128 w127 rfl (by decide +kernel) ⟨Nat.le_of_ble_eq_true rfl, Nat.le_of_ble_eq_true rfl⟩ rfl hl.1 rfl (Nat.le_of_ble_eq_true rfl) dX14_init_84 ⟨Nat.le_of_ble_eq_true rfl, Nat.le_of_ble_eq_true rfl⟩) (fun z5 H locs hG => ?_)
  have hG : BW D κ (([(h0, .inr (9, [.int 0, .ref q1, .ref q2, .ref q3, .ref q4, .ref q5, .null, .null, .null, .int 0, .int 0, .int 0, .int 0, .int 0, .null])), (q1, .inl (κ.1, 4, .inl (va_up (va_up (va_up (va_up (fun _ => 0) ((0 : Int32).toNatClampNeg) 1000) ((1 : Int32).toNatClampNeg) 1000) ((2 : Int32).toNatClampNeg) 1000) ((3 : Int32).toNatClampNeg) 1000))), (q2, .inr (10, [.int 0, .ref E0, .int 0])), (q3, .inr (10, [.int 0, .ref E0, .int 0])), (q4, .inr (10, [.int 0, .ref E0, .int 0])), (q5, .inr (10, [.int 0, .ref E0, .int 0]))]) ++ ([(q6, .inr (10, [.int 0, .ref E0, .int 0]))])) _ s H locs := hG
  refine bw_put (C := RX14) (T := TX14) (N := 15) (ci := 9) (ty0 := tyX14) (ty := .object "java/util/ArrayList") (v := .ref q6) 6 (by decide) 0 hC hG iwX14 tyX14_ok nmX14 rfl rfl w122 rfl (Or.inr ⟨hin rfl, rfl⟩) (by decide +kernel) rfl rfl (Nat.le_of_ble_eq_true rfl) dX14_init_87 (fun H locs hG => ?_)
  have hG : BW D κ ((([(h0, .inr (9, [.int 0, .ref q1, .ref q2, .ref q3, .ref q4, .ref q5, .null, .null, .null, .int 0, .int 0, .int 0, .int 0, .int 0, .null])), (q1, .inl (κ.1, 4, .inl (va_up (va_up (va_up (va_up (fun _ => 0) ((0 : Int32).toNatClampNeg) 1000) ((1 : Int32).toNatClampNeg) 1000) ((2 : Int32).toNatClampNeg) 1000) ((3 : Int32).toNatClampNeg) 1000))), (q2, .inr (10, [.int 0, .ref E0, .int 0])), (q3, .inr (10, [.int 0, .ref E0, .int 0])), (q4, .inr (10, [.int 0, .ref E0, .int 0])), (q5, .inr (10, [.int 0, .ref E0, .int 0]))]) ++ ([(q6, .inr (10, [.int 0, .ref E0, .int 0]))]) : va_W).set 0 (h0, .inr (9, [.int 0, .ref q1, .ref q2, .ref q3, .ref q4, .ref q5, .ref q6, .null, .null, .int 0, .int 0, .int 0, .int 0, .int 0, .null]))) _ s H locs := hG
  refine lv_aload_n hx hb dX14_init_90 rfl (lv_at hl 0 rfl) ?_
  refine bw_new (C := RJx4a65c) (T := TJx4a65c) (N := 3) (ci := 10) (fs := [.int 0, .null, .int 0]) hC hG iwJA tyJx4a65c_ok w115 w116 w117 rfl (fun j hj => by rcases (show j = 0 ∨ j = 1 ∨ j = 2 by omega) with rfl | rfl | rfl <;> rfl) (Nat.le_of_ble_eq_true rfl) (Nat.le_of_ble_eq_true rfl) dX14_init_91 (fun q7 H hG => ?_)
  have hG : BW D κ (((([(h0, .inr (9, [.int 0, .ref q1, .ref q2, .ref q3, .ref q4, .ref q5, .null, .null, .null, .int 0, .int 0, .int 0, .int 0, .int 0, .null])), (q1, .inl (κ.1, 4, .inl (va_up (va_up (va_up (va_up (fun _ => 0) ((0 : Int32).toNatClampNeg) 1000) ((1 : Int32).toNatClampNeg) 1000) ((2 : Int32).toNatClampNeg) 1000) ((3 : Int32).toNatClampNeg) 1000))), (q2, .inr (10, [.int 0, .ref E0, .int 0])), (q3, .inr (10, [.int 0, .ref E0, .int 0])), (q4, .inr (10, [.int 0, .ref E0, .int 0])), (q5, .inr (10, [.int 0, .ref E0, .int 0]))]) ++ ([(q6, .inr (10, [.int 0, .ref E0, .int 0]))]) : va_W).set 0 (h0, .inr (9, [.int 0, .ref q1, .ref q2, .ref q3, .ref q4, .ref q5, .ref q6, .null, .null, .int 0, .int 0, .int 0, .int 0, .int 0, .null]))) ++ [(q7, .inr (10, [.int 0, .null, .int 0]))]) _ s H locs := hG
  refine lv_dup hx hb dX14_init_94 rfl ?_
  have cut95 : Cut (((([(h0, .inr (9, [.int 0, .ref q1, .ref q2, .ref q3, .ref q4, .ref q5, .null, .null, .null, .int 0, .int 0, .int 0, .int 0, .int 0, .null])), (q1, .inl (κ.1, 4, .inl (va_up (va_up (va_up (va_up (fun _ => 0) ((0 : Int32).toNatClampNeg) 1000) ((1 : Int32).toNatClampNeg) 1000) ((2 : Int32).toNatClampNeg) 1000) ((3 : Int32).toNatClampNeg) 1000))), (q2, .inr (10, [.int 0, .ref E0, .int 0])), (q3, .inr (10, [.int 0, .ref E0, .int 0])), (q4, .inr (10, [.int 0, .ref E0, .int 0])), (q5, .inr (10, [.int 0, .ref E0, .int 0]))]) ++ ([(q6, .inr (10, [.int 0, .ref E0, .int 0]))]) : va_W).set 0 (h0, .inr (9, [.int 0, .ref q1, .ref q2, .ref q3, .ref q4, .ref q5, .ref q6, .null, .null, .int 0, .int 0, .int 0, .int 0, .int 0, .null]))) ++ [(q7, .inr (10, [.int 0, .null, .int 0]))]) ([(q7, .inr (10, [.int 0, .null, .int 0]))]) ([(h0, .inr (9, [.int 0, .ref q1, .ref q2, .ref q3, .ref q4, .ref q5, .ref q6, .null, .null, .int 0, .int 0, .int 0, .int 0, .int 0, .null])), (q1, .inl (κ.1, 4, .inl (va_up (va_up (va_up (va_up (fun _ => 0) ((0 : Int32).toNatClampNeg) 1000) ((1 : Int32).toNatClampNeg) 1000) ((2 : Int32).toNatClampNeg) 1000) ((3 : Int32).toNatClampNeg) 1000))), (q2, .inr (10, [.int 0, .ref E0, .int 0])), (q3, .inr (10, [.int 0, .ref E0, .int 0])), (q4, .inr (10, [.int 0, .ref E0, .int 0])), (q5, .inr (10, [.int 0, .ref E0, .int 0])), (q6, .inr (10, [.int 0, .ref E0, .int 0]))]) := (Cut.idx [7] [0, 1, 2, 3, 4, 5, 6] rfl rfl (by decide) (by decide) (by decide))
  refine zc_v hG cut95 (zr_I (n := 0) (As := []) (rest := [.ref q7, .ref h0]) hC hG hE hT cut95 (z_161_init l hst D κ E0 H.size q7) w126 w117 w128 w127 rfl (by decide +kernel) ⟨Nat.le_of_ble_eq_true rfl, Nat.le_of_ble_eq_true rfl⟩ rfl hl.1 rfl (Nat.le_of_ble_eq_true rfl) dX14_init_95 ⟨Nat.le_of_ble_eq_true rfl, Nat.le_of_ble_eq_true rfl⟩) (fun z6 H locs hG => ?_)
  have hG : BW D κ (([(h0, .inr (9, [.int 0, .ref q1, .ref q2, .ref q3, .ref q4, .ref q5, .ref q6, .null, .null, .int 0, .int 0, .int 0, .int 0, .int 0, .null])), (q1, .inl (κ.1, 4, .inl (va_up (va_up (va_up (va_up (fun _ => 0) ((0 : Int32).toNatClampNeg) 1000) ((1 : Int32).toNatClampNeg) 1000) ((2 : Int32).toNatClampNeg) 1000) ((3 : Int32).toNatClampNeg) 1000))), (q2, .inr (10, [.int 0, .ref E0, .int 0])), (q3, .inr (10, [.int 0, .ref E0, .int 0])), (q4, .inr (10, [.int 0, .ref E0, .int 0])), (q5, .inr (10, [.int 0, .ref E0, .int 0])), (q6, .inr (10, [.int 0, .ref E0, .int 0]))]) ++ ([(q7, .inr (10, [.int 0, .ref E0, .int 0]))])) _ s H locs := hG
  refine bw_put (C := RX14) (T := TX14) (N := 15) (ci := 9) (ty0 := tyX14) (ty := .object "java/util/ArrayList") (v := .ref q7) 7 (by decide) 0 hC hG iwX14 tyX14_ok nmX14 rfl rfl w123 rfl (Or.inr ⟨hin rfl, rfl⟩) (by decide +kernel) rfl rfl (Nat.le_of_ble_eq_true rfl) dX14_init_98 (fun H locs hG => ?_)
  have hG : BW D κ ((([(h0, .inr (9, [.int 0, .ref q1, .ref q2, .ref q3, .ref q4, .ref q5, .ref q6, .null, .null, .int 0, .int 0, .int 0, .int 0, .int 0, .null])), (q1, .inl (κ.1, 4, .inl (va_up (va_up (va_up (va_up (fun _ => 0) ((0 : Int32).toNatClampNeg) 1000) ((1 : Int32).toNatClampNeg) 1000) ((2 : Int32).toNatClampNeg) 1000) ((3 : Int32).toNatClampNeg) 1000))), (q2, .inr (10, [.int 0, .ref E0, .int 0])), (q3, .inr (10, [.int 0, .ref E0, .int 0])), (q4, .inr (10, [.int 0, .ref E0, .int 0])), (q5, .inr (10, [.int 0, .ref E0, .int 0])), (q6, .inr (10, [.int 0, .ref E0, .int 0]))]) ++ ([(q7, .inr (10, [.int 0, .ref E0, .int 0]))]) : va_W).set 0 (h0, .inr (9, [.int 0, .ref q1, .ref q2, .ref q3, .ref q4, .ref q5, .ref q6, .ref q7, .null, .int 0, .int 0, .int 0, .int 0, .int 0, .null]))) _ s H locs := hG
  refine lv_aload_n hx hb dX14_init_101 rfl (lv_at hl 0 rfl) ?_
  refine lv_iconst (v := (-1)) hx hb dX14_init_102 (by decide) ?_
  refine bw_put (C := RX14) (T := TX14) (N := 15) (ci := 9) (ty0 := tyX14) (ty := .int) (v := .int (-1)) 10 (by decide) 0 hC hG iwX14 tyX14_ok nmX14 rfl rfl w124 rfl (Or.inl rfl) (by decide +kernel) rfl rfl (Nat.le_of_ble_eq_true rfl) dX14_init_103 (fun H locs hG => ?_)
  have hG : BW D κ (((([(h0, .inr (9, [.int 0, .ref q1, .ref q2, .ref q3, .ref q4, .ref q5, .ref q6, .null, .null, .int 0, .int 0, .int 0, .int 0, .int 0, .null])), (q1, .inl (κ.1, 4, .inl (va_up (va_up (va_up (va_up (fun _ => 0) ((0 : Int32).toNatClampNeg) 1000) ((1 : Int32).toNatClampNeg) 1000) ((2 : Int32).toNatClampNeg) 1000) ((3 : Int32).toNatClampNeg) 1000))), (q2, .inr (10, [.int 0, .ref E0, .int 0])), (q3, .inr (10, [.int 0, .ref E0, .int 0])), (q4, .inr (10, [.int 0, .ref E0, .int 0])), (q5, .inr (10, [.int 0, .ref E0, .int 0])), (q6, .inr (10, [.int 0, .ref E0, .int 0]))]) ++ ([(q7, .inr (10, [.int 0, .ref E0, .int 0]))]) : va_W).set 0 (h0, .inr (9, [.int 0, .ref q1, .ref q2, .ref q3, .ref q4, .ref q5, .ref q6, .ref q7, .null, .int 0, .int 0, .int 0, .int 0, .int 0, .null])) : va_W).set 0 (h0, .inr (9, [.int 0, .ref q1, .ref q2, .ref q3, .ref q4, .ref q5, .ref q6, .ref q7, .null, .int 0, .int (-1), .int 0, .int 0, .int 0, .null]))) _ s H locs := hG
  refine lv_aload_n hx hb dX14_init_106 rfl (lv_at hl 0 rfl) ?_
  refine bw_new (C := RJx4a65c) (T := TJx4a65c) (N := 3) (ci := 10) (fs := [.int 0, .null, .int 0]) hC hG iwJA tyJx4a65c_ok w115 w116 w117 rfl (fun j hj => by rcases (show j = 0 ∨ j = 1 ∨ j = 2 by omega) with rfl | rfl | rfl <;> rfl) (Nat.le_of_ble_eq_true rfl) (Nat.le_of_ble_eq_true rfl) dX14_init_107 (fun q8 H hG => ?_)
  have hG : BW D κ ((((([(h0, .inr (9, [.int 0, .ref q1, .ref q2, .ref q3, .ref q4, .ref q5, .ref q6, .null, .null, .int 0, .int 0, .int 0, .int 0, .int 0, .null])), (q1, .inl (κ.1, 4, .inl (va_up (va_up (va_up (va_up (fun _ => 0) ((0 : Int32).toNatClampNeg) 1000) ((1 : Int32).toNatClampNeg) 1000) ((2 : Int32).toNatClampNeg) 1000) ((3 : Int32).toNatClampNeg) 1000))), (q2, .inr (10, [.int 0, .ref E0, .int 0])), (q3, .inr (10, [.int 0, .ref E0, .int 0])), (q4, .inr (10, [.int 0, .ref E0, .int 0])), (q5, .inr (10, [.int 0, .ref E0, .int 0])), (q6, .inr (10, [.int 0, .ref E0, .int 0]))]) ++ ([(q7, .inr (10, [.int 0, .ref E0, .int 0]))]) : va_W).set 0 (h0, .inr (9, [.int 0, .ref q1, .ref q2, .ref q3, .ref q4, .ref q5, .ref q6, .ref q7, .null, .int 0, .int 0, .int 0, .int 0, .int 0, .null])) : va_W).set 0 (h0, .inr (9, [.int 0, .ref q1, .ref q2, .ref q3, .ref q4, .ref q5, .ref q6, .ref q7, .null, .int 0, .int (-1), .int 0, .int 0, .int 0, .null]))) ++ [(q8, .inr (10, [.int 0, .null, .int 0]))]) _ s H locs := hG
  refine lv_dup hx hb dX14_init_110 rfl ?_
  have cut111 : Cut ((((([(h0, .inr (9, [.int 0, .ref q1, .ref q2, .ref q3, .ref q4, .ref q5, .ref q6, .null, .null, .int 0, .int 0, .int 0, .int 0, .int 0, .null])), (q1, .inl (κ.1, 4, .inl (va_up (va_up (va_up (va_up (fun _ => 0) ((0 : Int32).toNatClampNeg) 1000) ((1 : Int32).toNatClampNeg) 1000) ((2 : Int32).toNatClampNeg) 1000) ((3 : Int32).toNatClampNeg) 1000))), (q2, .inr (10, [.int 0, .ref E0, .int 0])), (q3, .inr (10, [.int 0, .ref E0, .int 0])), (q4, .inr (10, [.int 0, .ref E0, .int 0])), (q5, .inr (10, [.int 0, .ref E0, .int 0])), (q6, .inr (10, [.int 0, .ref E0, .int 0]))]) ++ ([(q7, .inr (10, [.int 0, .ref E0, .int 0]))]) : va_W).set 0 (h0, .inr (9, [.int 0, .ref q1, .ref q2, .ref q3, .ref q4, .ref q5, .ref q6, .ref q7, .null, .int 0, .int 0, .int 0, .int 0, .int 0, .null])) : va_W).set 0 (h0, .inr (9, [.int 0, .ref q1, .ref q2, .ref q3, .ref q4, .ref q5, .ref q6, .ref q7, .null, .int 0, .int (-1), .int 0, .int 0, .int 0, .null]))) ++ [(q8, .inr (10, [.int 0, .null, .int 0]))]) ([(q8, .inr (10, [.int 0, .null, .int 0]))]) ([(h0, .inr (9, [.int 0, .ref q1, .ref q2, .ref q3, .ref q4, .ref q5, .ref q6, .ref q7, .null, .int 0, .int (-1), .int 0, .int 0, .int 0, .null])), (q1, .inl (κ.1, 4, .inl (va_up (va_up (va_up (va_up (fun _ => 0) ((0 : Int32).toNatClampNeg) 1000) ((1 : Int32).toNatClampNeg) 1000) ((2 : Int32).toNatClampNeg) 1000) ((3 : Int32).toNatClampNeg) 1000))), (q2, .inr (10, [.int 0, .ref E0, .int 0])), (q3, .inr (10, [.int 0, .ref E0, .int 0])), (q4, .inr (10, [.int 0, .ref E0, .int 0])), (q5, .inr (10, [.int 0, .ref E0, .int 0])), (q6, .inr (10, [.int 0, .ref E0, .int 0])), (q7, .inr (10, [.int 0, .ref E0, .int 0]))]) := (Cut.idx [8] [0, 1, 2, 3, 4, 5, 6, 7] rfl rfl (by decide) (by decide) (by decide))
  refine zc_v hG cut111 (zr_I (n := 0) (As := []) (rest := [.ref q8, .ref h0]) hC hG hE hT cut111 (z_161_init l hst D κ E0 H.size q8) w126 w117 w128 w127 rfl (by decide +kernel) ⟨Nat.le_of_ble_eq_true rfl, Nat.le_of_ble_eq_true rfl⟩ rfl hl.1 rfl (Nat.le_of_ble_eq_true rfl) dX14_init_111 ⟨Nat.le_of_ble_eq_true rfl, Nat.le_of_ble_eq_true rfl⟩) (fun z7 H locs hG => ?_)
  have hG : BW D κ (([(h0, .inr (9, [.int 0, .ref q1, .ref q2, .ref q3, .ref q4, .ref q5, .ref q6, .ref q7, .null, .int 0, .int (-1), .int 0, .int 0, .int 0, .null])), (q1, .inl (κ.1, 4, .inl (va_up (va_up (va_up (va_up (fun _ => 0) ((0 : Int32).toNatClampNeg) 1000) ((1 : Int32).toNatClampNeg) 1000) ((2 : Int32).toNatClampNeg) 1000) ((3 : Int32).toNatClampNeg) 1000))), (q2, .inr (10, [.int 0, .ref E0, .int 0])), (q3, .inr (10, [.int 0, .ref E0, .int 0])), (q4, .inr (10, [.int 0, .ref E0, .int 0])), (q5, .inr (10, [.int 0, .ref E0, .int 0])), (q6, .inr (10, [.int 0, .ref E0, .int 0])), (q7, .inr (10, [.int 0, .ref E0, .int 0]))]) ++ ([(q8, .inr (10, [.int 0, .ref E0, .int 0]))])) _ s H locs := hG
  refine bw_put (C := RX14) (T := TX14) (N := 15) (ci := 9) (ty0 := tyX14) (ty := .object "java/util/ArrayList") (v := .ref q8) 14 (by decide) 0 hC hG iwX14 tyX14_ok nmX14 rfl rfl w125 rfl (Or.inl rfl) (by decide +kernel) rfl rfl (Nat.le_of_ble_eq_true rfl) dX14_init_114 (fun H locs hG => ?_)
  have hG : BW D κ ((([(h0, .inr (9, [.int 0, .ref q1, .ref q2, .ref q3, .ref q4, .ref q5, .ref q6, .ref q7, .null, .int 0, .int (-1), .int 0, .int 0, .int 0, .null])), (q1, .inl (κ.1, 4, .inl (va_up (va_up (va_up (va_up (fun _ => 0) ((0 : Int32).toNatClampNeg) 1000) ((1 : Int32).toNatClampNeg) 1000) ((2 : Int32).toNatClampNeg) 1000) ((3 : Int32).toNatClampNeg) 1000))), (q2, .inr (10, [.int 0, .ref E0, .int 0])), (q3, .inr (10, [.int 0, .ref E0, .int 0])), (q4, .inr (10, [.int 0, .ref E0, .int 0])), (q5, .inr (10, [.int 0, .ref E0, .int 0])), (q6, .inr (10, [.int 0, .ref E0, .int 0])), (q7, .inr (10, [.int 0, .ref E0, .int 0]))]) ++ ([(q8, .inr (10, [.int 0, .ref E0, .int 0]))]) : va_W).set 0 (h0, .inr (9, [.int 0, .ref q1, .ref q2, .ref q3, .ref q4, .ref q5, .ref q6, .ref q7, .null, .int 0, .int (-1), .int 0, .int 0, .int 0, .ref q8]))) _ s H locs := hG
  exact ze_v (qs := fun k => match k with | 0 => q1 | 1 => q2 | 2 => q3 | 3 => q4 | 4 => q5 | 5 => q6 | 6 => q7 | _ => q8) hC hG rfl hr hk (Nat.le_of_ble_eq_true rfl) (Nat.le_of_ble_eq_true rfl) dX14_init_117
