/-- the first i places are -1 -/
def fill (i : Nat) : Nat → Int32 := fun j => if j < i then -1 else 0
theorem fill_s (i j : Nat) : va_up (fill i) i (-1) j = fill (i + 1) j := by
  unfold va_up fill
  by_cases h : j = i
  · rw [if_pos h, if_pos (by omega)]
  · rw [if_neg h]
    by_cases h2 : j < i
    · rw [if_pos h2, if_pos (by omega)]
    · rw [if_neg h2, if_neg (by omega)]

theorem dX0_init_0 : decode cX0_init 0 = .ok (.aload_n 0, 1) := by decide +kernel
theorem dX0_init_1 : decode cX0_init 1 = .ok (.invokespecial 3, 3) := by decide +kernel
theorem dX0_init_10 : decode cX0_init 10 = .ok (.sipush 1000, 3) := by decide +kernel
theorem dX0_init_13 : decode cX0_init 13 = .ok (.iastore, 1) := by decide +kernel
theorem dX0_init_14 : decode cX0_init 14 = .ok (.dup, 1) := by decide +kernel
theorem dX0_init_15 : decode cX0_init 15 = .ok (.iconst 1, 1) := by decide +kernel
theorem dX0_init_16 : decode cX0_init 16 = .ok (.sipush 1000, 3) := by decide +kernel
theorem dX0_init_19 : decode cX0_init 19 = .ok (.iastore, 1) := by decide +kernel
theorem dX0_init_20 : decode cX0_init 20 = .ok (.dup, 1) := by decide +kernel
theorem dX0_init_21 : decode cX0_init 21 = .ok (.iconst 2, 1) := by decide +kernel
theorem dX0_init_22 : decode cX0_init 22 = .ok (.sipush 1000, 3) := by decide +kernel
theorem dX0_init_25 : decode cX0_init 25 = .ok (.iastore, 1) := by decide +kernel
theorem dX0_init_26 : decode cX0_init 26 = .ok (.dup, 1) := by decide +kernel
theorem dX0_init_27 : decode cX0_init 27 = .ok (.iconst 3, 1) := by decide +kernel
theorem dX0_init_28 : decode cX0_init 28 = .ok (.sipush 1000, 3) := by decide +kernel
theorem dX0_init_31 : decode cX0_init 31 = .ok (.iastore, 1) := by decide +kernel
theorem dX0_init_32 : decode cX0_init 32 = .ok (.putfield 9, 3) := by decide +kernel
theorem dX0_init_35 : decode cX0_init 35 = .ok (.aload_n 0, 1) := by decide +kernel
theorem dX0_init_36 : decode cX0_init 36 = .ok (.bipush 10, 2) := by decide +kernel
theorem dX0_init_38 : decode cX0_init 38 = .ok (.newarray .int, 2) := by decide +kernel
theorem dX0_init_4 : decode cX0_init 4 = .ok (.aload_n 0, 1) := by decide +kernel
theorem dX0_init_40 : decode cX0_init 40 = .ok (.putfield 15, 3) := by decide +kernel
theorem dX0_init_43 : decode cX0_init 43 = .ok (.aload_n 0, 1) := by decide +kernel
theorem dX0_init_44 : decode cX0_init 44 = .ok (.bipush 10, 2) := by decide +kernel
theorem dX0_init_46 : decode cX0_init 46 = .ok (.newarray .int, 2) := by decide +kernel
theorem dX0_init_48 : decode cX0_init 48 = .ok (.putfield 18, 3) := by decide +kernel
theorem dX0_init_5 : decode cX0_init 5 = .ok (.iconst 4, 1) := by decide +kernel
theorem dX0_init_51 : decode cX0_init 51 = .ok (.aload_n 0, 1) := by decide +kernel
theorem dX0_init_52 : decode cX0_init 52 = .ok (.bipush 10, 2) := by decide +kernel
theorem dX0_init_54 : decode cX0_init 54 = .ok (.newarray .int, 2) := by decide +kernel
theorem dX0_init_56 : decode cX0_init 56 = .ok (.putfield 21, 3) := by decide +kernel
theorem dX0_init_59 : decode cX0_init 59 = .ok (.aload_n 0, 1) := by decide +kernel
theorem dX0_init_6 : decode cX0_init 6 = .ok (.newarray .int, 2) := by decide +kernel
theorem dX0_init_60 : decode cX0_init 60 = .ok (.bipush 10, 2) := by decide +kernel
theorem dX0_init_62 : decode cX0_init 62 = .ok (.newarray .boolean, 2) := by decide +kernel
theorem dX0_init_64 : decode cX0_init 64 = .ok (.putfield 24, 3) := by decide +kernel
theorem dX0_init_67 : decode cX0_init 67 = .ok (.aload_n 0, 1) := by decide +kernel
theorem dX0_init_68 : decode cX0_init 68 = .ok (.iconst 0, 1) := by decide +kernel
theorem dX0_init_69 : decode cX0_init 69 = .ok (.putfield 28, 3) := by decide +kernel
theorem dX0_init_72 : decode cX0_init 72 = .ok (.return_, 1) := by decide +kernel
theorem dX0_init_8 : decode cX0_init 8 = .ok (.dup, 1) := by decide +kernel
theorem dX0_init_9 : decode cX0_init 9 = .ok (.iconst 0, 1) := by decide +kernel
set_option maxHeartbeats 4000000 in
set_option maxRecDepth 100000 in
theorem c_init_0 (l : Launch) (D : va_G) (κ : K4) (sz h0 : Nat) : CM l yX0_init cX0_init 1 1 12 5 44 D κ [] [(h0, .inr (0, [.null, .null, .null, .null, .null, .int 0]))] sz [.ref h0] (fun qs : Nat → Nat => [(h0, .inr (0, [.ref (qs 0), .ref (qs 1), .ref (qs 2), .ref (qs 3), .ref (qs 4), .int (nI 0)])), (qs 0, .inl (κ.1, 4, .inl (fun _ => nI 1000))), (qs 1, .inl (κ.1, 10, .inl (fun _ => 0))), (qs 2, .inl (κ.1, 10, .inl (fun _ => 0))), (qs 3, .inl (κ.1, 10, .inl (fun _ => 0))), (qs 4, .inl (κ.2.2.1, 10, .inl (fun _ => 0)))]) := by
  refine CM.of (by decide +kernel) (Nat.le_of_ble_eq_true rfl) rfl ?_
  intro p e s m below meth c ls hC hr hk hin hsz hX H locs hG hl
  have hx := hC.1
  have hb := hC.2.1
  have hl : lv_has ls 1 [(0, (.ref h0))] := hl
  refine lv_aload_n hx hb dX0_init_0 rfl (lv_at hl 0 rfl) ?_
  refine bw_obj hC w46 hl.1 dX0_init_1 (by decide) (by decide) w11 w12 ?_
  refine lv_aload_n hx hb dX0_init_4 rfl (lv_at hl 0 rfl) ?_
  refine lv_iconst (v := nI 4) hx hb dX0_init_5 (by decide) ?_
  have hk1 : 0 + 1 ≤ 5 := by decide
  have hs1 : 0 + 4 ≤ 44 := by decide
  refine bw_nI hC hG (by decide) w47 hk1 hs1 dX0_init_6 (fun q1 H hG => ?_)
  have hG : BW D κ [(h0, .inr (0, [.null, .null, .null, .null, .null, .int 0])), (q1, .inl (κ.1, 4, .inl (fun _ => 0)))] _ s H locs := hG
  refine W.widen (k := 1) (n := 4) (by decide) (by decide) ?_
  refine lv_dup hx hb dX0_init_8 rfl ?_
  refine lv_iconst (v := nI 0) hx hb dX0_init_9 (by decide) ?_
  refine lv_sipush (v := nI 1000) hx hb dX0_init_10 (by decide) ?_
  refine bw_ast 1 hC hG rfl (by decide) (by decide) dX0_init_13 (fun H locs hG => ?_)
  have hG : BW D κ [(h0, .inr (0, [.null, .null, .null, .null, .null, .int 0])), (q1, .inl (κ.1, 4, .inl (va_up (fun _ => 0) 0 (nI 1000))))] _ s H locs := hG
  refine lv_dup hx hb dX0_init_14 rfl ?_
  refine lv_iconst (v := nI 1) hx hb dX0_init_15 (by decide) ?_
  refine lv_sipush (v := nI 1000) hx hb dX0_init_16 (by decide) ?_
  refine bw_ast 1 hC hG rfl (by decide) (by decide) dX0_init_19 (fun H locs hG => ?_)
  have hG : BW D κ [(h0, .inr (0, [.null, .null, .null, .null, .null, .int 0])), (q1, .inl (κ.1, 4, .inl (va_up (va_up (fun _ => 0) 0 (nI 1000)) 1 (nI 1000))))] _ s H locs := hG
  refine lv_dup hx hb dX0_init_20 rfl ?_
  refine lv_iconst (v := nI 2) hx hb dX0_init_21 (by decide) ?_
  refine lv_sipush (v := nI 1000) hx hb dX0_init_22 (by decide) ?_
  refine bw_ast 1 hC hG rfl (by decide) (by decide) dX0_init_25 (fun H locs hG => ?_)
  have hG : BW D κ [(h0, .inr (0, [.null, .null, .null, .null, .null, .int 0])), (q1, .inl (κ.1, 4, .inl (va_up (va_up (va_up (fun _ => 0) 0 (nI 1000)) 1 (nI 1000)) 2 (nI 1000))))] _ s H locs := hG
  refine lv_dup hx hb dX0_init_26 rfl ?_
  refine lv_iconst (v := nI 3) hx hb dX0_init_27 (by decide) ?_
  refine lv_sipush (v := nI 1000) hx hb dX0_init_28 (by decide) ?_
  refine bw_ast 1 hC hG rfl (by decide) (by decide) dX0_init_31 (fun H locs hG => ?_)
  have hG : BW D κ [(h0, .inr (0, [.null, .null, .null, .null, .null, .int 0])), (q1, .inl (κ.1, 4, .inl (va_up (va_up (va_up (va_up (fun _ => 0) 0 (nI 1000)) 1 (nI 1000)) 2 (nI 1000)) 3 (nI 1000))))] _ s H locs := hG
  refine bw_put (C := RX0) (T := TX0) (N := 6) (ci := 0) (ty0 := tyX0) (ty := .array .int) (v := .ref q1) 0 (by decide) 0 hC hG iwX0 tyX0_ok nmX0 rfl rfl w48 rfl (Or.inr ⟨hin, rfl⟩) (by decide +kernel) rfl rfl (Nat.le_of_ble_eq_true rfl) dX0_init_32 (fun H locs hG => ?_)
  have hG : BW D κ [(h0, .inr (0, [.ref q1, .null, .null, .null, .null, .int 0])), (q1, .inl (κ.1, 4, .inl (va_up (va_up (va_up (va_up (fun _ => 0) 0 (nI 1000)) 1 (nI 1000)) 2 (nI 1000)) 3 (nI 1000))))] _ s H locs := hG
  refine lv_aload_n hx hb dX0_init_35 rfl (lv_at hl 0 rfl) ?_
  refine lv_bipush (v := nI 10) hx hb dX0_init_36 (by decide) ?_
  have hk2 : 1 + 1 ≤ 5 := by decide
  have hs2 : 4 + 10 ≤ 44 := by decide
  refine bw_nI hC hG (by decide) w47 hk2 hs2 dX0_init_38 (fun q2 H hG => ?_)
  have hG : BW D κ [(h0, .inr (0, [.ref q1, .null, .null, .null, .null, .int 0])), (q1, .inl (κ.1, 4, .inl (va_up (va_up (va_up (va_up (fun _ => 0) 0 (nI 1000)) 1 (nI 1000)) 2 (nI 1000)) 3 (nI 1000)))), (q2, .inl (κ.1, 10, .inl (fun _ => 0)))] _ s H locs := hG
  refine W.widen (k := 2) (n := 14) (by decide) (by decide) ?_
  refine bw_put (C := RX0) (T := TX0) (N := 6) (ci := 0) (ty0 := tyX0) (ty := .array .int) (v := .ref q2) 1 (by decide) 0 hC hG iwX0 tyX0_ok nmX0 rfl rfl w49 rfl (Or.inr ⟨hin, rfl⟩) (by decide +kernel) rfl rfl (Nat.le_of_ble_eq_true rfl) dX0_init_40 (fun H locs hG => ?_)
  have hG : BW D κ [(h0, .inr (0, [.ref q1, .ref q2, .null, .null, .null, .int 0])), (q1, .inl (κ.1, 4, .inl (va_up (va_up (va_up (va_up (fun _ => 0) 0 (nI 1000)) 1 (nI 1000)) 2 (nI 1000)) 3 (nI 1000)))), (q2, .inl (κ.1, 10, .inl (fun _ => 0)))] _ s H locs := hG
  refine lv_aload_n hx hb dX0_init_43 rfl (lv_at hl 0 rfl) ?_
  refine lv_bipush (v := nI 10) hx hb dX0_init_44 (by decide) ?_
  have hk3 : 2 + 1 ≤ 5 := by decide
  have hs3 : 14 + 10 ≤ 44 := by decide
  refine bw_nI hC hG (by decide) w47 hk3 hs3 dX0_init_46 (fun q3 H hG => ?_)
  have hG : BW D κ [(h0, .inr (0, [.ref q1, .ref q2, .null, .null, .null, .int 0])), (q1, .inl (κ.1, 4, .inl (va_up (va_up (va_up (va_up (fun _ => 0) 0 (nI 1000)) 1 (nI 1000)) 2 (nI 1000)) 3 (nI 1000)))), (q2, .inl (κ.1, 10, .inl (fun _ => 0))), (q3, .inl (κ.1, 10, .inl (fun _ => 0)))] _ s H locs := hG
  refine W.widen (k := 3) (n := 24) (by decide) (by decide) ?_
  refine bw_put (C := RX0) (T := TX0) (N := 6) (ci := 0) (ty0 := tyX0) (ty := .array .int) (v := .ref q3) 2 (by decide) 0 hC hG iwX0 tyX0_ok nmX0 rfl rfl w50 rfl (Or.inr ⟨hin, rfl⟩) (by decide +kernel) rfl rfl (Nat.le_of_ble_eq_true rfl) dX0_init_48 (fun H locs hG => ?_)
  have hG : BW D κ [(h0, .inr (0, [.ref q1, .ref q2, .ref q3, .null, .null, .int 0])), (q1, .inl (κ.1, 4, .inl (va_up (va_up (va_up (va_up (fun _ => 0) 0 (nI 1000)) 1 (nI 1000)) 2 (nI 1000)) 3 (nI 1000)))), (q2, .inl (κ.1, 10, .inl (fun _ => 0))), (q3, .inl (κ.1, 10, .inl (fun _ => 0)))] _ s H locs := hG
  refine lv_aload_n hx hb dX0_init_51 rfl (lv_at hl 0 rfl) ?_
  refine lv_bipush (v := nI 10) hx hb dX0_init_52 (by decide) ?_
  have hk4 : 3 + 1 ≤ 5 := by decide
  have hs4 : 24 + 10 ≤ 44 := by decide
  refine bw_nI hC hG (by decide) w47 hk4 hs4 dX0_init_54 (fun q4 H hG => ?_)
  have hG : BW D κ [(h0, .inr (0, [.ref q1, .ref q2, .ref q3, .null, .null, .int 0])), (q1, .inl (κ.1, 4, .inl (va_up (va_up (va_up (va_up (fun _ => 0) 0 (nI 1000)) 1 (nI 1000)) 2 (nI 1000)) 3 (nI 1000)))), (q2, .inl (κ.1, 10, .inl (fun _ => 0))), (q3, .inl (κ.1, 10, .inl (fun _ => 0))), (q4, .inl (κ.1, 10, .inl (fun _ => 0)))] _ s H locs := hG
  refine W.widen (k := 4) (n := 34) (by decide) (by decide) ?_
  refine bw_put (C := RX0) (T := TX0) (N := 6) (ci := 0) (ty0 := tyX0) (ty := .array .int) (v := .ref q4) 3 (by decide) 0 hC hG iwX0 tyX0_ok nmX0 rfl rfl w51 rfl (Or.inr ⟨hin, rfl⟩) (by decide +kernel) rfl rfl (Nat.le_of_ble_eq_true rfl) dX0_init_56 (fun H locs hG => ?_)
  have hG : BW D κ [(h0, .inr (0, [.ref q1, .ref q2, .ref q3, .ref q4, .null, .int 0])), (q1, .inl (κ.1, 4, .inl (va_up (va_up (va_up (va_up (fun _ => 0) 0 (nI 1000)) 1 (nI 1000)) 2 (nI 1000)) 3 (nI 1000)))), (q2, .inl (κ.1, 10, .inl (fun _ => 0))), (q3, .inl (κ.1, 10, .inl (fun _ => 0))), (q4, .inl (κ.1, 10, .inl (fun _ => 0)))] _ s H locs := hG
  refine lv_aload_n hx hb dX0_init_59 rfl (lv_at hl 0 rfl) ?_
  refine lv_bipush (v := nI 10) hx hb dX0_init_60 (by decide) ?_
  have hk5 : 4 + 1 ≤ 5 := by decide
  have hs5 : 34 + 10 ≤ 44 := by decide
  refine bw_nZ hC hG (by decide) w52 hk5 hs5 dX0_init_62 (fun q5 H hG => ?_)
  have hG : BW D κ [(h0, .inr (0, [.ref q1, .ref q2, .ref q3, .ref q4, .null, .int 0])), (q1, .inl (κ.1, 4, .inl (va_up (va_up (va_up (va_up (fun _ => 0) 0 (nI 1000)) 1 (nI 1000)) 2 (nI 1000)) 3 (nI 1000)))), (q2, .inl (κ.1, 10, .inl (fun _ => 0))), (q3, .inl (κ.1, 10, .inl (fun _ => 0))), (q4, .inl (κ.1, 10, .inl (fun _ => 0))), (q5, .inl (κ.2.2.1, 10, .inl (fun _ => 0)))] _ s H locs := hG
  refine W.widen (k := 5) (n := 44) (by decide) (by decide) ?_
  refine bw_put (C := RX0) (T := TX0) (N := 6) (ci := 0) (ty0 := tyX0) (ty := .array .boolean) (v := .ref q5) 4 (by decide) 0 hC hG iwX0 tyX0_ok nmX0 rfl rfl w53 rfl (Or.inr ⟨hin, rfl⟩) (by decide +kernel) rfl rfl (Nat.le_of_ble_eq_true rfl) dX0_init_64 (fun H locs hG => ?_)
  have hG : BW D κ [(h0, .inr (0, [.ref q1, .ref q2, .ref q3, .ref q4, .ref q5, .int 0])), (q1, .inl (κ.1, 4, .inl (va_up (va_up (va_up (va_up (fun _ => 0) 0 (nI 1000)) 1 (nI 1000)) 2 (nI 1000)) 3 (nI 1000)))), (q2, .inl (κ.1, 10, .inl (fun _ => 0))), (q3, .inl (κ.1, 10, .inl (fun _ => 0))), (q4, .inl (κ.1, 10, .inl (fun _ => 0))), (q5, .inl (κ.2.2.1, 10, .inl (fun _ => 0)))] _ s H locs := hG
  refine lv_aload_n hx hb dX0_init_67 rfl (lv_at hl 0 rfl) ?_
  refine lv_iconst (v := nI 0) hx hb dX0_init_68 (by decide) ?_
  refine bw_put (C := RX0) (T := TX0) (N := 6) (ci := 0) (ty0 := tyX0) (ty := .int) (v := .int (nI 0)) 5 (by decide) 0 hC hG iwX0 tyX0_ok nmX0 rfl rfl w54 rfl (Or.inl rfl) (by decide +kernel) rfl rfl (Nat.le_of_ble_eq_true rfl) dX0_init_69 (fun H locs hG => ?_)
  have hG : BW D κ [(h0, .inr (0, [.ref q1, .ref q2, .ref q3, .ref q4, .ref q5, .int (nI 0)])), (q1, .inl (κ.1, 4, .inl (va_up (va_up (va_up (va_up (fun _ => 0) 0 (nI 1000)) 1 (nI 1000)) 2 (nI 1000)) 3 (nI 1000)))), (q2, .inl (κ.1, 10, .inl (fun _ => 0))), (q3, .inl (κ.1, 10, .inl (fun _ => 0))), (q4, .inl (κ.1, 10, .inl (fun _ => 0))), (q5, .inl (κ.2.2.1, 10, .inl (fun _ => 0)))] _ s H locs := hG
  have hG := hG.arrI 1 (g := fun _ => nI 1000) rfl (fun j hj => by rcases (show j = 0 ∨ j = 1 ∨ j = 2 ∨ j = 3 by omega) with rfl | rfl | rfl | rfl <;> rfl)
  have hG : BW D κ [(h0, .inr (0, [.ref q1, .ref q2, .ref q3, .ref q4, .ref q5, .int (nI 0)])), (q1, .inl (κ.1, 4, .inl (fun _ => nI 1000))), (q2, .inl (κ.1, 10, .inl (fun _ => 0))), (q3, .inl (κ.1, 10, .inl (fun _ => 0))), (q4, .inl (κ.1, 10, .inl (fun _ => 0))), (q5, .inl (κ.2.2.1, 10, .inl (fun _ => 0)))] _ s H locs := hG
  exact bw_end (qs := fun k => match k with | 0 => q1 | 1 => q2 | 2 => q3 | 3 => q4 | _ => q5) hC hG rfl hr hk (by decide) (by decide) dX0_init_72

theorem dX4_init_0 : decode cX4_init 0 = .ok (.aload_n 0, 1) := by decide +kernel
theorem dX4_init_1 : decode cX4_init 1 = .ok (.invokespecial 3, 3) := by decide +kernel
theorem dX4_init_12 : decode cX4_init 12 = .ok (.aload_n 0, 1) := by decide +kernel
theorem dX4_init_13 : decode cX4_init 13 = .ok (.bipush 10, 2) := by decide +kernel
theorem dX4_init_15 : decode cX4_init 15 = .ok (.newarray .long, 2) := by decide +kernel
theorem dX4_init_17 : decode cX4_init 17 = .ok (.putfield 15, 3) := by decide +kernel
theorem dX4_init_20 : decode cX4_init 20 = .ok (.aload_n 0, 1) := by decide +kernel
theorem dX4_init_21 : decode cX4_init 21 = .ok (.bipush 10, 2) := by decide +kernel
theorem dX4_init_23 : decode cX4_init 23 = .ok (.newarray .long, 2) := by decide +kernel
theorem dX4_init_25 : decode cX4_init 25 = .ok (.putfield 19, 3) := by decide +kernel
theorem dX4_init_28 : decode cX4_init 28 = .ok (.aload_n 0, 1) := by decide +kernel
theorem dX4_init_29 : decode cX4_init 29 = .ok (.iconst 0, 1) := by decide +kernel
theorem dX4_init_30 : decode cX4_init 30 = .ok (.putfield 22, 3) := by decide +kernel
theorem dX4_init_33 : decode cX4_init 33 = .ok (.return_, 1) := by decide +kernel
theorem dX4_init_4 : decode cX4_init 4 = .ok (.aload_n 0, 1) := by decide +kernel
theorem dX4_init_5 : decode cX4_init 5 = .ok (.bipush 10, 2) := by decide +kernel
theorem dX4_init_7 : decode cX4_init 7 = .ok (.newarray .int, 2) := by decide +kernel
theorem dX4_init_9 : decode cX4_init 9 = .ok (.putfield 9, 3) := by decide +kernel
set_option maxHeartbeats 4000000 in
set_option maxRecDepth 100000 in
theorem c_init_4 (l : Launch) (D : va_G) (κ : K4) (sz h0 : Nat) : CM l yX4_init cX4_init 1 1 12 3 30 D κ [] [(h0, .inr (4, [.null, .null, .null, .int 0]))] sz [.ref h0] (fun qs : Nat → Nat => [(h0, .inr (4, [.ref (qs 0), .ref (qs 1), .ref (qs 2), .int (nI 0)])), (qs 0, .inl (κ.1, 10, .inl (fun _ => 0))), (qs 1, .inl (κ.2.1, 10, .inr (.inl (fun _ => 0)))), (qs 2, .inl (κ.2.1, 10, .inr (.inl (fun _ => 0))))]) := by
  refine CM.of (by decide +kernel) (Nat.le_of_ble_eq_true rfl) rfl ?_
  intro p e s m below meth c ls hC hr hk hin hsz hX H locs hG hl
  have hx := hC.1
  have hb := hC.2.1
  have hl : lv_has ls 1 [(0, (.ref h0))] := hl
  refine lv_aload_n hx hb dX4_init_0 rfl (lv_at hl 0 rfl) ?_
  refine bw_obj hC w65 hl.1 dX4_init_1 (by decide) (by decide) w11 w12 ?_
  refine lv_aload_n hx hb dX4_init_4 rfl (lv_at hl 0 rfl) ?_
  refine lv_bipush (v := nI 10) hx hb dX4_init_5 (by decide) ?_
  have hk1 : 0 + 1 ≤ 3 := by decide
  have hs1 : 0 + 10 ≤ 30 := by decide
  refine bw_nI hC hG (by decide) w47 hk1 hs1 dX4_init_7 (fun q1 H hG => ?_)
  have hG : BW D κ [(h0, .inr (4, [.null, .null, .null, .int 0])), (q1, .inl (κ.1, 10, .inl (fun _ => 0)))] _ s H locs := hG
  refine W.widen (k := 1) (n := 10) (by decide) (by decide) ?_
  refine bw_put (C := RX4) (T := TX4) (N := 4) (ci := 4) (ty0 := tyX4) (ty := .array .int) (v := .ref q1) 0 (by decide) 0 hC hG iwX4 tyX4_ok nmX4 rfl rfl w66 rfl (Or.inr ⟨hin, rfl⟩) (by decide +kernel) rfl rfl (Nat.le_of_ble_eq_true rfl) dX4_init_9 (fun H locs hG => ?_)
  have hG : BW D κ [(h0, .inr (4, [.ref q1, .null, .null, .int 0])), (q1, .inl (κ.1, 10, .inl (fun _ => 0)))] _ s H locs := hG
  refine lv_aload_n hx hb dX4_init_12 rfl (lv_at hl 0 rfl) ?_
  refine lv_bipush (v := nI 10) hx hb dX4_init_13 (by decide) ?_
  have hk2 : 1 + 1 ≤ 3 := by decide
  have hs2 : 10 + 10 ≤ 30 := by decide
  refine bw_nJ hC hG (by decide) w6 hk2 hs2 dX4_init_15 (fun q2 H hG => ?_)
  have hG : BW D κ [(h0, .inr (4, [.ref q1, .null, .null, .int 0])), (q1, .inl (κ.1, 10, .inl (fun _ => 0))), (q2, .inl (κ.2.1, 10, .inr (.inl (fun _ => 0))))] _ s H locs := hG
  refine W.widen (k := 2) (n := 20) (by decide) (by decide) ?_
  refine bw_put (C := RX4) (T := TX4) (N := 4) (ci := 4) (ty0 := tyX4) (ty := .array .long) (v := .ref q2) 1 (by decide) 0 hC hG iwX4 tyX4_ok nmX4 rfl rfl w67 rfl (Or.inr ⟨hin, rfl⟩) (by decide +kernel) rfl rfl (Nat.le_of_ble_eq_true rfl) dX4_init_17 (fun H locs hG => ?_)
  have hG : BW D κ [(h0, .inr (4, [.ref q1, .ref q2, .null, .int 0])), (q1, .inl (κ.1, 10, .inl (fun _ => 0))), (q2, .inl (κ.2.1, 10, .inr (.inl (fun _ => 0))))] _ s H locs := hG
  refine lv_aload_n hx hb dX4_init_20 rfl (lv_at hl 0 rfl) ?_
  refine lv_bipush (v := nI 10) hx hb dX4_init_21 (by decide) ?_
  have hk3 : 2 + 1 ≤ 3 := by decide
  have hs3 : 20 + 10 ≤ 30 := by decide
  refine bw_nJ hC hG (by decide) w6 hk3 hs3 dX4_init_23 (fun q3 H hG => ?_)
  have hG : BW D κ [(h0, .inr (4, [.ref q1, .ref q2, .null, .int 0])), (q1, .inl (κ.1, 10, .inl (fun _ => 0))), (q2, .inl (κ.2.1, 10, .inr (.inl (fun _ => 0)))), (q3, .inl (κ.2.1, 10, .inr (.inl (fun _ => 0))))] _ s H locs := hG
  refine W.widen (k := 3) (n := 30) (by decide) (by decide) ?_
  refine bw_put (C := RX4) (T := TX4) (N := 4) (ci := 4) (ty0 := tyX4) (ty := .array .long) (v := .ref q3) 2 (by decide) 0 hC hG iwX4 tyX4_ok nmX4 rfl rfl w68 rfl (Or.inr ⟨hin, rfl⟩) (by decide +kernel) rfl rfl (Nat.le_of_ble_eq_true rfl) dX4_init_25 (fun H locs hG => ?_)
  have hG : BW D κ [(h0, .inr (4, [.ref q1, .ref q2, .ref q3, .int 0])), (q1, .inl (κ.1, 10, .inl (fun _ => 0))), (q2, .inl (κ.2.1, 10, .inr (.inl (fun _ => 0)))), (q3, .inl (κ.2.1, 10, .inr (.inl (fun _ => 0))))] _ s H locs := hG
  refine lv_aload_n hx hb dX4_init_28 rfl (lv_at hl 0 rfl) ?_
  refine lv_iconst (v := nI 0) hx hb dX4_init_29 (by decide) ?_
  refine bw_put (C := RX4) (T := TX4) (N := 4) (ci := 4) (ty0 := tyX4) (ty := .int) (v := .int (nI 0)) 3 (by decide) 0 hC hG iwX4 tyX4_ok nmX4 rfl rfl w69 rfl (Or.inl rfl) (by decide +kernel) rfl rfl (Nat.le_of_ble_eq_true rfl) dX4_init_30 (fun H locs hG => ?_)
  have hG : BW D κ [(h0, .inr (4, [.ref q1, .ref q2, .ref q3, .int (nI 0)])), (q1, .inl (κ.1, 10, .inl (fun _ => 0))), (q2, .inl (κ.2.1, 10, .inr (.inl (fun _ => 0)))), (q3, .inl (κ.2.1, 10, .inr (.inl (fun _ => 0))))] _ s H locs := hG
  exact bw_end (qs := fun k => match k with | 0 => q1 | 1 => q2 | _ => q3) hC hG rfl hr hk (by decide) (by decide) dX4_init_33

theorem dX1_init_0 : decode cX1_init 0 = .ok (.aload_n 0, 1) := by decide +kernel
theorem dX1_init_1 : decode cX1_init 1 = .ok (.invokespecial 1, 3) := by decide +kernel
theorem dX1_init_12 : decode cX1_init 12 = .ok (.putfield 10, 3) := by decide +kernel
theorem dX1_init_15 : decode cX1_init 15 = .ok (.aload_n 0, 1) := by decide +kernel
theorem dX1_init_16 : decode cX1_init 16 = .ok (.iconst 0, 1) := by decide +kernel
theorem dX1_init_17 : decode cX1_init 17 = .ok (.putfield 16, 3) := by decide +kernel
theorem dX1_init_20 : decode cX1_init 20 = .ok (.aload_n 0, 1) := by decide +kernel
theorem dX1_init_21 : decode cX1_init 21 = .ok (.iconst 0, 1) := by decide +kernel
theorem dX1_init_22 : decode cX1_init 22 = .ok (.putfield 20, 3) := by decide +kernel
theorem dX1_init_25 : decode cX1_init 25 = .ok (.aload_n 0, 1) := by decide +kernel
theorem dX1_init_26 : decode cX1_init 26 = .ok (.iconst 0, 1) := by decide +kernel
theorem dX1_init_27 : decode cX1_init 27 = .ok (.putfield 24, 3) := by decide +kernel
theorem dX1_init_30 : decode cX1_init 30 = .ok (.return_, 1) := by decide +kernel
theorem dX1_init_4 : decode cX1_init 4 = .ok (.aload_n 0, 1) := by decide +kernel
theorem dX1_init_5 : decode cX1_init 5 = .ok (.new 7, 3) := by decide +kernel
theorem dX1_init_8 : decode cX1_init 8 = .ok (.dup, 1) := by decide +kernel
theorem dX1_init_9 : decode cX1_init 9 = .ok (.invokespecial 9, 3) := by decide +kernel
set_option maxHeartbeats 4000000 in
set_option maxRecDepth 100000 in
theorem c_init_1 (l : Launch) (D : va_G) (κ : K4) (sz h0 : Nat) : CM l yX1_init cX1_init 1 2 32 4 34 D κ [(RX1, 9, yX4_init)] [(h0, .inr (1, [.null, .int 0, .int 0, .int 0]))] sz [.ref h0] (fun qs : Nat → Nat => [(h0, .inr (1, [.ref (qs 0), .int (bI false), .int (nI 0), .int (nI 0)])), (qs 0, .inr (4, [.ref (qs 1), .ref (qs 2), .ref (qs 3), .int (nI 0)])), (qs 1, .inl (κ.1, 10, .inl (fun _ => 0))), (qs 2, .inl (κ.2.1, 10, .inr (.inl (fun _ => 0)))), (qs 3, .inl (κ.2.1, 10, .inr (.inl (fun _ => 0))))]) := by
  refine CM.of (by decide +kernel) (Nat.le_of_ble_eq_true rfl) rfl ?_
  intro p e s m below meth c ls hC hr hk hin hsz hX H locs hG hl
  have hx := hC.1
  have hb := hC.2.1
  have hl : lv_has ls 1 [(0, (.ref h0))] := hl
  refine lv_aload_n hx hb dX1_init_0 rfl (lv_at hl 0 rfl) ?_
  refine bw_obj hC w57 hl.1 dX1_init_1 (by decide) (by decide) w11 w12 ?_
  refine lv_aload_n hx hb dX1_init_4 rfl (lv_at hl 0 rfl) ?_
  have hk1 : 0 + 1 ≤ 4 := by decide
  have hs1 : 0 + 4 ≤ 34 := by decide
  refine bw_new (C := RX4) (T := TX4) (N := 4) (ci := 4) (fs := [.null, .null, .null, .int 0]) hC hG iwX4 tyX4_ok w58 w39 w40 rfl (fun j hj => by rcases (show j = 0 ∨ j = 1 ∨ j = 2 ∨ j = 3 by omega) with rfl | rfl | rfl | rfl <;> rfl) hk1 hs1 dX1_init_5 (fun q1 H hG => ?_)
  have hG : BW D κ [(h0, .inr (1, [.null, .int 0, .int 0, .int 0])), (q1, .inr (4, [.null, .null, .null, .int 0]))] _ s H locs := hG
  refine W.widen (k := 1) (n := 4) (by decide) (by decide) ?_
  refine lv_dup hx hb dX1_init_8 rfl ?_
  have hGc : BW D κ [(q1, .inr (4, [.null, .null, .null, .int 0]))] _ s H locs := hG.at [1] (by decide) rfl
  refine bw_run (wc := [(q1, .inr (4, [.null, .null, .null, .int 0]))]) (wr := [(h0, .inr (1, [.null, .int 0, .int 0, .int 0]))]) hG [1] [0] rfl rfl (by decide) (by decide) (va_runIN (host := "Tollgate") (As := []) (rest := [.ref q1, .ref h0]) hC (c_init_4 l D κ H.size q1 ) ⟨va_cnB 0 hC.2.2.2.2 (fun w h => by rcases List.mem_cons.mp h with rfl | h; exact wl_in _ w64; exact wl_in _ h) rfl rfl rfl (hX (RX1, 9, yX4_init) (by decide)) (hC.2.2.2.2 _ w40) (by decide +kernel) ⟨by decide, by decide⟩, rfl, hC.2.2.2.2 _ w63⟩ ⟨fun x U g mk q => ⟨q.1, q.2.1, ⟨va_K.moved (u := U) (U := U.calling g mk x) (Vm.Alike.refl U.vm) q.2.2.1.1, q.2.2.1.2⟩, XN.same rfl q.2.2.2⟩, fun U hU hW => ⟨rfl, by rw [hU], ⟨va_K.moved hW.alike hGc.1, by rw [hU]; exact hGc.2.1, hGc.2.2.1.weaken (fun _ _ _ _ => trivial)⟩, XN.warm hW hX (by decide)⟩⟩ rfl rfl hl.1 rfl (lv_room (Nat.le_of_ble_eq_true rfl)) dX1_init_9 ⟨by decide, by decide⟩) (fun z2 H locs hG => ?_)
  have hG : BW D κ [(h0, .inr (1, [.null, .int 0, .int 0, .int 0])), (q1, .inr (4, [.ref (z2 0), .ref (z2 1), .ref (z2 2), .int (nI 0)])), (z2 0, .inl (κ.1, 10, .inl (fun _ => 0))), (z2 1, .inl (κ.2.1, 10, .inr (.inl (fun _ => 0)))), (z2 2, .inl (κ.2.1, 10, .inr (.inl (fun _ => 0))))] _ s H locs := hG
  refine W.widen (k := 4) (n := 34) (by decide) (by decide) ?_
  refine bw_put (C := RX1) (T := TX1) (N := 4) (ci := 1) (ty0 := tyX1) (ty := .object "Tollgate$LegRow") (v := .ref q1) 0 (by decide) 0 hC hG iwX1 tyX1_ok nmX1 rfl rfl w59 rfl (Or.inr ⟨hin, rfl⟩) (by decide +kernel) rfl rfl (Nat.le_of_ble_eq_true rfl) dX1_init_12 (fun H locs hG => ?_)
  have hG : BW D κ [(h0, .inr (1, [.ref q1, .int 0, .int 0, .int 0])), (q1, .inr (4, [.ref (z2 0), .ref (z2 1), .ref (z2 2), .int (nI 0)])), (z2 0, .inl (κ.1, 10, .inl (fun _ => 0))), (z2 1, .inl (κ.2.1, 10, .inr (.inl (fun _ => 0)))), (z2 2, .inl (κ.2.1, 10, .inr (.inl (fun _ => 0))))] _ s H locs := hG
  refine lv_aload_n hx hb dX1_init_15 rfl (lv_at hl 0 rfl) ?_
  refine lv_iconst (v := nI 0) hx hb dX1_init_16 (by decide) ?_
  refine W.eq (g2 := F0 m 17 ls [.int (bI false), .ref h0]) rfl ?_
  refine bw_put (C := RX1) (T := TX1) (N := 4) (ci := 1) (ty0 := tyX1) (ty := .boolean) (v := .int (bI false)) 1 (by decide) 0 hC hG iwX1 tyX1_ok nmX1 rfl rfl w60 rfl (Or.inl rfl) (by decide +kernel) (bI_n _) (bI_f _) (Nat.le_of_ble_eq_true rfl) dX1_init_17 (fun H locs hG => ?_)
  have hG : BW D κ [(h0, .inr (1, [.ref q1, .int (bI false), .int 0, .int 0])), (q1, .inr (4, [.ref (z2 0), .ref (z2 1), .ref (z2 2), .int (nI 0)])), (z2 0, .inl (κ.1, 10, .inl (fun _ => 0))), (z2 1, .inl (κ.2.1, 10, .inr (.inl (fun _ => 0)))), (z2 2, .inl (κ.2.1, 10, .inr (.inl (fun _ => 0))))] _ s H locs := hG
  refine lv_aload_n hx hb dX1_init_20 rfl (lv_at hl 0 rfl) ?_
  refine lv_iconst (v := nI 0) hx hb dX1_init_21 (by decide) ?_
  refine bw_put (C := RX1) (T := TX1) (N := 4) (ci := 1) (ty0 := tyX1) (ty := .int) (v := .int (nI 0)) 2 (by decide) 0 hC hG iwX1 tyX1_ok nmX1 rfl rfl w61 rfl (Or.inl rfl) (by decide +kernel) rfl rfl (Nat.le_of_ble_eq_true rfl) dX1_init_22 (fun H locs hG => ?_)
  have hG : BW D κ [(h0, .inr (1, [.ref q1, .int (bI false), .int (nI 0), .int 0])), (q1, .inr (4, [.ref (z2 0), .ref (z2 1), .ref (z2 2), .int (nI 0)])), (z2 0, .inl (κ.1, 10, .inl (fun _ => 0))), (z2 1, .inl (κ.2.1, 10, .inr (.inl (fun _ => 0)))), (z2 2, .inl (κ.2.1, 10, .inr (.inl (fun _ => 0))))] _ s H locs := hG
  refine lv_aload_n hx hb dX1_init_25 rfl (lv_at hl 0 rfl) ?_
  refine lv_iconst (v := nI 0) hx hb dX1_init_26 (by decide) ?_
  refine bw_put (C := RX1) (T := TX1) (N := 4) (ci := 1) (ty0 := tyX1) (ty := .int) (v := .int (nI 0)) 3 (by decide) 0 hC hG iwX1 tyX1_ok nmX1 rfl rfl w62 rfl (Or.inl rfl) (by decide +kernel) rfl rfl (Nat.le_of_ble_eq_true rfl) dX1_init_27 (fun H locs hG => ?_)
  have hG : BW D κ [(h0, .inr (1, [.ref q1, .int (bI false), .int (nI 0), .int (nI 0)])), (q1, .inr (4, [.ref (z2 0), .ref (z2 1), .ref (z2 2), .int (nI 0)])), (z2 0, .inl (κ.1, 10, .inl (fun _ => 0))), (z2 1, .inl (κ.2.1, 10, .inr (.inl (fun _ => 0)))), (z2 2, .inl (κ.2.1, 10, .inr (.inl (fun _ => 0))))] _ s H locs := hG
  exact bw_end (qs := fun k => match k with | 0 => q1 | 1 => z2 0 | 2 => z2 1 | _ => z2 2) hC hG rfl hr hk (by decide) (by decide) dX1_init_30

theorem dX3_init_0 : decode cX3_init 0 = .ok (.aload_n 0, 1) := by decide +kernel
theorem dX3_init_1 : decode cX3_init 1 = .ok (.invokespecial 3, 3) := by decide +kernel
theorem dX3_init_12 : decode cX3_init 12 = .ok (.aload_n 0, 1) := by decide +kernel
theorem dX3_init_13 : decode cX3_init 13 = .ok (.bipush 60, 2) := by decide +kernel
theorem dX3_init_15 : decode cX3_init 15 = .ok (.newarray .int, 2) := by decide +kernel
theorem dX3_init_17 : decode cX3_init 17 = .ok (.putfield 15, 3) := by decide +kernel
theorem dX3_init_20 : decode cX3_init 20 = .ok (.aload_n 0, 1) := by decide +kernel
theorem dX3_init_21 : decode cX3_init 21 = .ok (.bipush 60, 2) := by decide +kernel
theorem dX3_init_23 : decode cX3_init 23 = .ok (.newarray .int, 2) := by decide +kernel
theorem dX3_init_25 : decode cX3_init 25 = .ok (.putfield 18, 3) := by decide +kernel
theorem dX3_init_28 : decode cX3_init 28 = .ok (.aload_n 0, 1) := by decide +kernel
theorem dX3_init_29 : decode cX3_init 29 = .ok (.bipush 60, 2) := by decide +kernel
theorem dX3_init_31 : decode cX3_init 31 = .ok (.newarray .int, 2) := by decide +kernel
theorem dX3_init_33 : decode cX3_init 33 = .ok (.putfield 21, 3) := by decide +kernel
theorem dX3_init_36 : decode cX3_init 36 = .ok (.aload_n 0, 1) := by decide +kernel
theorem dX3_init_37 : decode cX3_init 37 = .ok (.bipush 60, 2) := by decide +kernel
theorem dX3_init_39 : decode cX3_init 39 = .ok (.newarray .boolean, 2) := by decide +kernel
theorem dX3_init_4 : decode cX3_init 4 = .ok (.aload_n 0, 1) := by decide +kernel
theorem dX3_init_41 : decode cX3_init 41 = .ok (.putfield 24, 3) := by decide +kernel
theorem dX3_init_44 : decode cX3_init 44 = .ok (.aload_n 0, 1) := by decide +kernel
theorem dX3_init_45 : decode cX3_init 45 = .ok (.bipush 60, 2) := by decide +kernel
theorem dX3_init_47 : decode cX3_init 47 = .ok (.newarray .boolean, 2) := by decide +kernel
theorem dX3_init_49 : decode cX3_init 49 = .ok (.putfield 28, 3) := by decide +kernel
theorem dX3_init_5 : decode cX3_init 5 = .ok (.bipush 60, 2) := by decide +kernel
theorem dX3_init_52 : decode cX3_init 52 = .ok (.aload_n 0, 1) := by decide +kernel
theorem dX3_init_53 : decode cX3_init 53 = .ok (.iconst 0, 1) := by decide +kernel
theorem dX3_init_54 : decode cX3_init 54 = .ok (.putfield 31, 3) := by decide +kernel
theorem dX3_init_57 : decode cX3_init 57 = .ok (.aload_n 0, 1) := by decide +kernel
theorem dX3_init_58 : decode cX3_init 58 = .ok (.sipush 600, 3) := by decide +kernel
theorem dX3_init_61 : decode cX3_init 61 = .ok (.newarray .int, 2) := by decide +kernel
theorem dX3_init_63 : decode cX3_init 63 = .ok (.putfield 35, 3) := by decide +kernel
theorem dX3_init_66 : decode cX3_init 66 = .ok (.aload_n 0, 1) := by decide +kernel
theorem dX3_init_67 : decode cX3_init 67 = .ok (.sipush 600, 3) := by decide +kernel
theorem dX3_init_7 : decode cX3_init 7 = .ok (.newarray .int, 2) := by decide +kernel
theorem dX3_init_70 : decode cX3_init 70 = .ok (.newarray .int, 2) := by decide +kernel
theorem dX3_init_72 : decode cX3_init 72 = .ok (.putfield 38, 3) := by decide +kernel
theorem dX3_init_75 : decode cX3_init 75 = .ok (.aload_n 0, 1) := by decide +kernel
theorem dX3_init_76 : decode cX3_init 76 = .ok (.sipush 600, 3) := by decide +kernel
theorem dX3_init_79 : decode cX3_init 79 = .ok (.newarray .long, 2) := by decide +kernel
theorem dX3_init_81 : decode cX3_init 81 = .ok (.putfield 41, 3) := by decide +kernel
theorem dX3_init_84 : decode cX3_init 84 = .ok (.aload_n 0, 1) := by decide +kernel
theorem dX3_init_85 : decode cX3_init 85 = .ok (.sipush 600, 3) := by decide +kernel
theorem dX3_init_88 : decode cX3_init 88 = .ok (.newarray .long, 2) := by decide +kernel
theorem dX3_init_9 : decode cX3_init 9 = .ok (.putfield 9, 3) := by decide +kernel
theorem dX3_init_90 : decode cX3_init 90 = .ok (.putfield 45, 3) := by decide +kernel
theorem dX3_init_93 : decode cX3_init 93 = .ok (.aload_n 0, 1) := by decide +kernel
theorem dX3_init_94 : decode cX3_init 94 = .ok (.iconst 0, 1) := by decide +kernel
theorem dX3_init_95 : decode cX3_init 95 = .ok (.putfield 48, 3) := by decide +kernel
theorem dX3_init_98 : decode cX3_init 98 = .ok (.return_, 1) := by decide +kernel
set_option maxHeartbeats 4000000 in
set_option maxRecDepth 100000 in
theorem c_init_3 (l : Launch) (D : va_G) (κ : K4) (sz h0 : Nat) : CM l yX3_init cX3_init 1 1 12 10 2760 D κ [] [(h0, .inr (3, [.null, .null, .null, .null, .null, .null, .int 0, .null, .null, .null, .null, .int 0]))] sz [.ref h0] (fun qs : Nat → Nat => [(h0, .inr (3, [.ref (qs 0), .ref (qs 1), .ref (qs 2), .ref (qs 3), .ref (qs 4), .ref (qs 5), .int (nI 0), .ref (qs 6), .ref (qs 7), .ref (qs 8), .ref (qs 9), .int (nI 0)])), (qs 0, .inl (κ.1, 60, .inl (fun _ => 0))), (qs 1, .inl (κ.1, 60, .inl (fun _ => 0))), (qs 2, .inl (κ.1, 60, .inl (fun _ => 0))), (qs 3, .inl (κ.1, 60, .inl (fun _ => 0))), (qs 4, .inl (κ.2.2.1, 60, .inl (fun _ => 0))), (qs 5, .inl (κ.2.2.1, 60, .inl (fun _ => 0))), (qs 6, .inl (κ.1, 600, .inl (fun _ => 0))), (qs 7, .inl (κ.1, 600, .inl (fun _ => 0))), (qs 8, .inl (κ.2.1, 600, .inr (.inl (fun _ => 0)))), (qs 9, .inl (κ.2.1, 600, .inr (.inl (fun _ => 0))))]) := by
  refine CM.of (by decide +kernel) (Nat.le_of_ble_eq_true rfl) rfl ?_
  intro p e s m below meth c ls hC hr hk hin hsz hX H locs hG hl
  have hx := hC.1
  have hb := hC.2.1
  have hl : lv_has ls 1 [(0, (.ref h0))] := hl
  refine lv_aload_n hx hb dX3_init_0 rfl (lv_at hl 0 rfl) ?_
  refine bw_obj hC w72 hl.1 dX3_init_1 (by decide) (by decide) w11 w12 ?_
  refine lv_aload_n hx hb dX3_init_4 rfl (lv_at hl 0 rfl) ?_
  refine lv_bipush (v := nI 60) hx hb dX3_init_5 (by decide) ?_
  have hk1 : 0 + 1 ≤ 10 := by decide
  have hs1 : 0 + 60 ≤ 2760 := by decide
  refine bw_nI hC hG (by decide) w47 hk1 hs1 dX3_init_7 (fun q1 H hG => ?_)
  have hG : BW D κ [(h0, .inr (3, [.null, .null, .null, .null, .null, .null, .int 0, .null, .null, .null, .null, .int 0])), (q1, .inl (κ.1, 60, .inl (fun _ => 0)))] _ s H locs := hG
  refine W.widen (k := 1) (n := 60) (by decide) (by decide) ?_
  refine bw_put (C := RX3) (T := TX3) (N := 12) (ci := 3) (ty0 := tyX3) (ty := .array .int) (v := .ref q1) 0 (by decide) 0 hC hG iwX3 tyX3_ok nmX3 rfl rfl w73 rfl (Or.inr ⟨hin, rfl⟩) (by decide +kernel) rfl rfl (Nat.le_of_ble_eq_true rfl) dX3_init_9 (fun H locs hG => ?_)
  have hG : BW D κ [(h0, .inr (3, [.ref q1, .null, .null, .null, .null, .null, .int 0, .null, .null, .null, .null, .int 0])), (q1, .inl (κ.1, 60, .inl (fun _ => 0)))] _ s H locs := hG
  refine lv_aload_n hx hb dX3_init_12 rfl (lv_at hl 0 rfl) ?_
  refine lv_bipush (v := nI 60) hx hb dX3_init_13 (by decide) ?_
  have hk2 : 1 + 1 ≤ 10 := by decide
  have hs2 : 60 + 60 ≤ 2760 := by decide
  refine bw_nI hC hG (by decide) w47 hk2 hs2 dX3_init_15 (fun q2 H hG => ?_)
  have hG : BW D κ [(h0, .inr (3, [.ref q1, .null, .null, .null, .null, .null, .int 0, .null, .null, .null, .null, .int 0])), (q1, .inl (κ.1, 60, .inl (fun _ => 0))), (q2, .inl (κ.1, 60, .inl (fun _ => 0)))] _ s H locs := hG
  refine W.widen (k := 2) (n := 120) (by decide) (by decide) ?_
  refine bw_put (C := RX3) (T := TX3) (N := 12) (ci := 3) (ty0 := tyX3) (ty := .array .int) (v := .ref q2) 1 (by decide) 0 hC hG iwX3 tyX3_ok nmX3 rfl rfl w74 rfl (Or.inr ⟨hin, rfl⟩) (by decide +kernel) rfl rfl (Nat.le_of_ble_eq_true rfl) dX3_init_17 (fun H locs hG => ?_)
  have hG : BW D κ [(h0, .inr (3, [.ref q1, .ref q2, .null, .null, .null, .null, .int 0, .null, .null, .null, .null, .int 0])), (q1, .inl (κ.1, 60, .inl (fun _ => 0))), (q2, .inl (κ.1, 60, .inl (fun _ => 0)))] _ s H locs := hG
  refine lv_aload_n hx hb dX3_init_20 rfl (lv_at hl 0 rfl) ?_
  refine lv_bipush (v := nI 60) hx hb dX3_init_21 (by decide) ?_
  have hk3 : 2 + 1 ≤ 10 := by decide
  have hs3 : 120 + 60 ≤ 2760 := by decide
  refine bw_nI hC hG (by decide) w47 hk3 hs3 dX3_init_23 (fun q3 H hG => ?_)
  have hG : BW D κ [(h0, .inr (3, [.ref q1, .ref q2, .null, .null, .null, .null, .int 0, .null, .null, .null, .null, .int 0])), (q1, .inl (κ.1, 60, .inl (fun _ => 0))), (q2, .inl (κ.1, 60, .inl (fun _ => 0))), (q3, .inl (κ.1, 60, .inl (fun _ => 0)))] _ s H locs := hG
  refine W.widen (k := 3) (n := 180) (by decide) (by decide) ?_
  refine bw_put (C := RX3) (T := TX3) (N := 12) (ci := 3) (ty0 := tyX3) (ty := .array .int) (v := .ref q3) 2 (by decide) 0 hC hG iwX3 tyX3_ok nmX3 rfl rfl w75 rfl (Or.inr ⟨hin, rfl⟩) (by decide +kernel) rfl rfl (Nat.le_of_ble_eq_true rfl) dX3_init_25 (fun H locs hG => ?_)
  have hG : BW D κ [(h0, .inr (3, [.ref q1, .ref q2, .ref q3, .null, .null, .null, .int 0, .null, .null, .null, .null, .int 0])), (q1, .inl (κ.1, 60, .inl (fun _ => 0))), (q2, .inl (κ.1, 60, .inl (fun _ => 0))), (q3, .inl (κ.1, 60, .inl (fun _ => 0)))] _ s H locs := hG
  refine lv_aload_n hx hb dX3_init_28 rfl (lv_at hl 0 rfl) ?_
  refine lv_bipush (v := nI 60) hx hb dX3_init_29 (by decide) ?_
  have hk4 : 3 + 1 ≤ 10 := by decide
  have hs4 : 180 + 60 ≤ 2760 := by decide
  refine bw_nI hC hG (by decide) w47 hk4 hs4 dX3_init_31 (fun q4 H hG => ?_)
  have hG : BW D κ [(h0, .inr (3, [.ref q1, .ref q2, .ref q3, .null, .null, .null, .int 0, .null, .null, .null, .null, .int 0])), (q1, .inl (κ.1, 60, .inl (fun _ => 0))), (q2, .inl (κ.1, 60, .inl (fun _ => 0))), (q3, .inl (κ.1, 60, .inl (fun _ => 0))), (q4, .inl (κ.1, 60, .inl (fun _ => 0)))] _ s H locs := hG
  refine W.widen (k := 4) (n := 240) (by decide) (by decide) ?_
  refine bw_put (C := RX3) (T := TX3) (N := 12) (ci := 3) (ty0 := tyX3) (ty := .array .int) (v := .ref q4) 3 (by decide) 0 hC hG iwX3 tyX3_ok nmX3 rfl rfl w76 rfl (Or.inr ⟨hin, rfl⟩) (by decide +kernel) rfl rfl (Nat.le_of_ble_eq_true rfl) dX3_init_33 (fun H locs hG => ?_)
  have hG : BW D κ [(h0, .inr (3, [.ref q1, .ref q2, .ref q3, .ref q4, .null, .null, .int 0, .null, .null, .null, .null, .int 0])), (q1, .inl (κ.1, 60, .inl (fun _ => 0))), (q2, .inl (κ.1, 60, .inl (fun _ => 0))), (q3, .inl (κ.1, 60, .inl (fun _ => 0))), (q4, .inl (κ.1, 60, .inl (fun _ => 0)))] _ s H locs := hG
  refine lv_aload_n hx hb dX3_init_36 rfl (lv_at hl 0 rfl) ?_
  refine lv_bipush (v := nI 60) hx hb dX3_init_37 (by decide) ?_
  have hk5 : 4 + 1 ≤ 10 := by decide
  have hs5 : 240 + 60 ≤ 2760 := by decide
  refine bw_nZ hC hG (by decide) w52 hk5 hs5 dX3_init_39 (fun q5 H hG => ?_)
  have hG : BW D κ [(h0, .inr (3, [.ref q1, .ref q2, .ref q3, .ref q4, .null, .null, .int 0, .null, .null, .null, .null, .int 0])), (q1, .inl (κ.1, 60, .inl (fun _ => 0))), (q2, .inl (κ.1, 60, .inl (fun _ => 0))), (q3, .inl (κ.1, 60, .inl (fun _ => 0))), (q4, .inl (κ.1, 60, .inl (fun _ => 0))), (q5, .inl (κ.2.2.1, 60, .inl (fun _ => 0)))] _ s H locs := hG
  refine W.widen (k := 5) (n := 300) (by decide) (by decide) ?_
  refine bw_put (C := RX3) (T := TX3) (N := 12) (ci := 3) (ty0 := tyX3) (ty := .array .boolean) (v := .ref q5) 4 (by decide) 0 hC hG iwX3 tyX3_ok nmX3 rfl rfl w77 rfl (Or.inr ⟨hin, rfl⟩) (by decide +kernel) rfl rfl (Nat.le_of_ble_eq_true rfl) dX3_init_41 (fun H locs hG => ?_)
  have hG : BW D κ [(h0, .inr (3, [.ref q1, .ref q2, .ref q3, .ref q4, .ref q5, .null, .int 0, .null, .null, .null, .null, .int 0])), (q1, .inl (κ.1, 60, .inl (fun _ => 0))), (q2, .inl (κ.1, 60, .inl (fun _ => 0))), (q3, .inl (κ.1, 60, .inl (fun _ => 0))), (q4, .inl (κ.1, 60, .inl (fun _ => 0))), (q5, .inl (κ.2.2.1, 60, .inl (fun _ => 0)))] _ s H locs := hG
  refine lv_aload_n hx hb dX3_init_44 rfl (lv_at hl 0 rfl) ?_
  refine lv_bipush (v := nI 60) hx hb dX3_init_45 (by decide) ?_
  have hk6 : 5 + 1 ≤ 10 := by decide
  have hs6 : 300 + 60 ≤ 2760 := by decide
  refine bw_nZ hC hG (by decide) w52 hk6 hs6 dX3_init_47 (fun q6 H hG => ?_)
  have hG : BW D κ [(h0, .inr (3, [.ref q1, .ref q2, .ref q3, .ref q4, .ref q5, .null, .int 0, .null, .null, .null, .null, .int 0])), (q1, .inl (κ.1, 60, .inl (fun _ => 0))), (q2, .inl (κ.1, 60, .inl (fun _ => 0))), (q3, .inl (κ.1, 60, .inl (fun _ => 0))), (q4, .inl (κ.1, 60, .inl (fun _ => 0))), (q5, .inl (κ.2.2.1, 60, .inl (fun _ => 0))), (q6, .inl (κ.2.2.1, 60, .inl (fun _ => 0)))] _ s H locs := hG
  refine W.widen (k := 6) (n := 360) (by decide) (by decide) ?_
  refine bw_put (C := RX3) (T := TX3) (N := 12) (ci := 3) (ty0 := tyX3) (ty := .array .boolean) (v := .ref q6) 5 (by decide) 0 hC hG iwX3 tyX3_ok nmX3 rfl rfl w78 rfl (Or.inr ⟨hin, rfl⟩) (by decide +kernel) rfl rfl (Nat.le_of_ble_eq_true rfl) dX3_init_49 (fun H locs hG => ?_)
  have hG : BW D κ [(h0, .inr (3, [.ref q1, .ref q2, .ref q3, .ref q4, .ref q5, .ref q6, .int 0, .null, .null, .null, .null, .int 0])), (q1, .inl (κ.1, 60, .inl (fun _ => 0))), (q2, .inl (κ.1, 60, .inl (fun _ => 0))), (q3, .inl (κ.1, 60, .inl (fun _ => 0))), (q4, .inl (κ.1, 60, .inl (fun _ => 0))), (q5, .inl (κ.2.2.1, 60, .inl (fun _ => 0))), (q6, .inl (κ.2.2.1, 60, .inl (fun _ => 0)))] _ s H locs := hG
  refine lv_aload_n hx hb dX3_init_52 rfl (lv_at hl 0 rfl) ?_
  refine lv_iconst (v := nI 0) hx hb dX3_init_53 (by decide) ?_
  refine bw_put (C := RX3) (T := TX3) (N := 12) (ci := 3) (ty0 := tyX3) (ty := .int) (v := .int (nI 0)) 6 (by decide) 0 hC hG iwX3 tyX3_ok nmX3 rfl rfl w79 rfl (Or.inl rfl) (by decide +kernel) rfl rfl (Nat.le_of_ble_eq_true rfl) dX3_init_54 (fun H locs hG => ?_)
  have hG : BW D κ [(h0, .inr (3, [.ref q1, .ref q2, .ref q3, .ref q4, .ref q5, .ref q6, .int (nI 0), .null, .null, .null, .null, .int 0])), (q1, .inl (κ.1, 60, .inl (fun _ => 0))), (q2, .inl (κ.1, 60, .inl (fun _ => 0))), (q3, .inl (κ.1, 60, .inl (fun _ => 0))), (q4, .inl (κ.1, 60, .inl (fun _ => 0))), (q5, .inl (κ.2.2.1, 60, .inl (fun _ => 0))), (q6, .inl (κ.2.2.1, 60, .inl (fun _ => 0)))] _ s H locs := hG
  refine lv_aload_n hx hb dX3_init_57 rfl (lv_at hl 0 rfl) ?_
  refine lv_sipush (v := nI 600) hx hb dX3_init_58 (by decide) ?_
  have hk7 : 6 + 1 ≤ 10 := by decide
  have hs7 : 360 + 600 ≤ 2760 := by decide
  refine bw_nI hC hG (by decide) w47 hk7 hs7 dX3_init_61 (fun q7 H hG => ?_)
  have hG : BW D κ [(h0, .inr (3, [.ref q1, .ref q2, .ref q3, .ref q4, .ref q5, .ref q6, .int (nI 0), .null, .null, .null, .null, .int 0])), (q1, .inl (κ.1, 60, .inl (fun _ => 0))), (q2, .inl (κ.1, 60, .inl (fun _ => 0))), (q3, .inl (κ.1, 60, .inl (fun _ => 0))), (q4, .inl (κ.1, 60, .inl (fun _ => 0))), (q5, .inl (κ.2.2.1, 60, .inl (fun _ => 0))), (q6, .inl (κ.2.2.1, 60, .inl (fun _ => 0))), (q7, .inl (κ.1, 600, .inl (fun _ => 0)))] _ s H locs := hG
  refine W.widen (k := 7) (n := 960) (by decide) (by decide) ?_
  refine bw_put (C := RX3) (T := TX3) (N := 12) (ci := 3) (ty0 := tyX3) (ty := .array .int) (v := .ref q7) 7 (by decide) 0 hC hG iwX3 tyX3_ok nmX3 rfl rfl w80 rfl (Or.inr ⟨hin, rfl⟩) (by decide +kernel) rfl rfl (Nat.le_of_ble_eq_true rfl) dX3_init_63 (fun H locs hG => ?_)
  have hG : BW D κ [(h0, .inr (3, [.ref q1, .ref q2, .ref q3, .ref q4, .ref q5, .ref q6, .int (nI 0), .ref q7, .null, .null, .null, .int 0])), (q1, .inl (κ.1, 60, .inl (fun _ => 0))), (q2, .inl (κ.1, 60, .inl (fun _ => 0))), (q3, .inl (κ.1, 60, .inl (fun _ => 0))), (q4, .inl (κ.1, 60, .inl (fun _ => 0))), (q5, .inl (κ.2.2.1, 60, .inl (fun _ => 0))), (q6, .inl (κ.2.2.1, 60, .inl (fun _ => 0))), (q7, .inl (κ.1, 600, .inl (fun _ => 0)))] _ s H locs := hG
  refine lv_aload_n hx hb dX3_init_66 rfl (lv_at hl 0 rfl) ?_
  refine lv_sipush (v := nI 600) hx hb dX3_init_67 (by decide) ?_
  have hk8 : 7 + 1 ≤ 10 := by decide
  have hs8 : 960 + 600 ≤ 2760 := by decide
  refine bw_nI hC hG (by decide) w47 hk8 hs8 dX3_init_70 (fun q8 H hG => ?_)
  have hG : BW D κ [(h0, .inr (3, [.ref q1, .ref q2, .ref q3, .ref q4, .ref q5, .ref q6, .int (nI 0), .ref q7, .null, .null, .null, .int 0])), (q1, .inl (κ.1, 60, .inl (fun _ => 0))), (q2, .inl (κ.1, 60, .inl (fun _ => 0))), (q3, .inl (κ.1, 60, .inl (fun _ => 0))), (q4, .inl (κ.1, 60, .inl (fun _ => 0))), (q5, .inl (κ.2.2.1, 60, .inl (fun _ => 0))), (q6, .inl (κ.2.2.1, 60, .inl (fun _ => 0))), (q7, .inl (κ.1, 600, .inl (fun _ => 0))), (q8, .inl (κ.1, 600, .inl (fun _ => 0)))] _ s H locs := hG
  refine W.widen (k := 8) (n := 1560) (by decide) (by decide) ?_
  refine bw_put (C := RX3) (T := TX3) (N := 12) (ci := 3) (ty0 := tyX3) (ty := .array .int) (v := .ref q8) 8 (by decide) 0 hC hG iwX3 tyX3_ok nmX3 rfl rfl w81 rfl (Or.inr ⟨hin, rfl⟩) (by decide +kernel) rfl rfl (Nat.le_of_ble_eq_true rfl) dX3_init_72 (fun H locs hG => ?_)
  have hG : BW D κ [(h0, .inr (3, [.ref q1, .ref q2, .ref q3, .ref q4, .ref q5, .ref q6, .int (nI 0), .ref q7, .ref q8, .null, .null, .int 0])), (q1, .inl (κ.1, 60, .inl (fun _ => 0))), (q2, .inl (κ.1, 60, .inl (fun _ => 0))), (q3, .inl (κ.1, 60, .inl (fun _ => 0))), (q4, .inl (κ.1, 60, .inl (fun _ => 0))), (q5, .inl (κ.2.2.1, 60, .inl (fun _ => 0))), (q6, .inl (κ.2.2.1, 60, .inl (fun _ => 0))), (q7, .inl (κ.1, 600, .inl (fun _ => 0))), (q8, .inl (κ.1, 600, .inl (fun _ => 0)))] _ s H locs := hG
  refine lv_aload_n hx hb dX3_init_75 rfl (lv_at hl 0 rfl) ?_
  refine lv_sipush (v := nI 600) hx hb dX3_init_76 (by decide) ?_
  have hk9 : 8 + 1 ≤ 10 := by decide
  have hs9 : 1560 + 600 ≤ 2760 := by decide
  refine bw_nJ hC hG (by decide) w6 hk9 hs9 dX3_init_79 (fun q9 H hG => ?_)
  have hG : BW D κ [(h0, .inr (3, [.ref q1, .ref q2, .ref q3, .ref q4, .ref q5, .ref q6, .int (nI 0), .ref q7, .ref q8, .null, .null, .int 0])), (q1, .inl (κ.1, 60, .inl (fun _ => 0))), (q2, .inl (κ.1, 60, .inl (fun _ => 0))), (q3, .inl (κ.1, 60, .inl (fun _ => 0))), (q4, .inl (κ.1, 60, .inl (fun _ => 0))), (q5, .inl (κ.2.2.1, 60, .inl (fun _ => 0))), (q6, .inl (κ.2.2.1, 60, .inl (fun _ => 0))), (q7, .inl (κ.1, 600, .inl (fun _ => 0))), (q8, .inl (κ.1, 600, .inl (fun _ => 0))), (q9, .inl (κ.2.1, 600, .inr (.inl (fun _ => 0))))] _ s H locs := hG
  refine W.widen (k := 9) (n := 2160) (by decide) (by decide) ?_
  refine bw_put (C := RX3) (T := TX3) (N := 12) (ci := 3) (ty0 := tyX3) (ty := .array .long) (v := .ref q9) 9 (by decide) 0 hC hG iwX3 tyX3_ok nmX3 rfl rfl w82 rfl (Or.inr ⟨hin, rfl⟩) (by decide +kernel) rfl rfl (Nat.le_of_ble_eq_true rfl) dX3_init_81 (fun H locs hG => ?_)
  have hG : BW D κ [(h0, .inr (3, [.ref q1, .ref q2, .ref q3, .ref q4, .ref q5, .ref q6, .int (nI 0), .ref q7, .ref q8, .ref q9, .null, .int 0])), (q1, .inl (κ.1, 60, .inl (fun _ => 0))), (q2, .inl (κ.1, 60, .inl (fun _ => 0))), (q3, .inl (κ.1, 60, .inl (fun _ => 0))), (q4, .inl (κ.1, 60, .inl (fun _ => 0))), (q5, .inl (κ.2.2.1, 60, .inl (fun _ => 0))), (q6, .inl (κ.2.2.1, 60, .inl (fun _ => 0))), (q7, .inl (κ.1, 600, .inl (fun _ => 0))), (q8, .inl (κ.1, 600, .inl (fun _ => 0))), (q9, .inl (κ.2.1, 600, .inr (.inl (fun _ => 0))))] _ s H locs := hG
  refine lv_aload_n hx hb dX3_init_84 rfl (lv_at hl 0 rfl) ?_
  refine lv_sipush (v := nI 600) hx hb dX3_init_85 (by decide) ?_
  have hk10 : 9 + 1 ≤ 10 := by decide
  have hs10 : 2160 + 600 ≤ 2760 := by decide
  refine bw_nJ hC hG (by decide) w6 hk10 hs10 dX3_init_88 (fun q10 H hG => ?_)
  have hG : BW D κ [(h0, .inr (3, [.ref q1, .ref q2, .ref q3, .ref q4, .ref q5, .ref q6, .int (nI 0), .ref q7, .ref q8, .ref q9, .null, .int 0])), (q1, .inl (κ.1, 60, .inl (fun _ => 0))), (q2, .inl (κ.1, 60, .inl (fun _ => 0))), (q3, .inl (κ.1, 60, .inl (fun _ => 0))), (q4, .inl (κ.1, 60, .inl (fun _ => 0))), (q5, .inl (κ.2.2.1, 60, .inl (fun _ => 0))), (q6, .inl (κ.2.2.1, 60, .inl (fun _ => 0))), (q7, .inl (κ.1, 600, .inl (fun _ => 0))), (q8, .inl (κ.1, 600, .inl (fun _ => 0))), (q9, .inl (κ.2.1, 600, .inr (.inl (fun _ => 0)))), (q10, .inl (κ.2.1, 600, .inr (.inl (fun _ => 0))))] _ s H locs := hG
  refine W.widen (k := 10) (n := 2760) (by decide) (by decide) ?_
  refine bw_put (C := RX3) (T := TX3) (N := 12) (ci := 3) (ty0 := tyX3) (ty := .array .long) (v := .ref q10) 10 (by decide) 0 hC hG iwX3 tyX3_ok nmX3 rfl rfl w83 rfl (Or.inr ⟨hin, rfl⟩) (by decide +kernel) rfl rfl (Nat.le_of_ble_eq_true rfl) dX3_init_90 (fun H locs hG => ?_)
  have hG : BW D κ [(h0, .inr (3, [.ref q1, .ref q2, .ref q3, .ref q4, .ref q5, .ref q6, .int (nI 0), .ref q7, .ref q8, .ref q9, .ref q10, .int 0])), (q1, .inl (κ.1, 60, .inl (fun _ => 0))), (q2, .inl (κ.1, 60, .inl (fun _ => 0))), (q3, .inl (κ.1, 60, .inl (fun _ => 0))), (q4, .inl (κ.1, 60, .inl (fun _ => 0))), (q5, .inl (κ.2.2.1, 60, .inl (fun _ => 0))), (q6, .inl (κ.2.2.1, 60, .inl (fun _ => 0))), (q7, .inl (κ.1, 600, .inl (fun _ => 0))), (q8, .inl (κ.1, 600, .inl (fun _ => 0))), (q9, .inl (κ.2.1, 600, .inr (.inl (fun _ => 0)))), (q10, .inl (κ.2.1, 600, .inr (.inl (fun _ => 0))))] _ s H locs := hG
  refine lv_aload_n hx hb dX3_init_93 rfl (lv_at hl 0 rfl) ?_
  refine lv_iconst (v := nI 0) hx hb dX3_init_94 (by decide) ?_
  refine bw_put (C := RX3) (T := TX3) (N := 12) (ci := 3) (ty0 := tyX3) (ty := .int) (v := .int (nI 0)) 11 (by decide) 0 hC hG iwX3 tyX3_ok nmX3 rfl rfl w84 rfl (Or.inl rfl) (by decide +kernel) rfl rfl (Nat.le_of_ble_eq_true rfl) dX3_init_95 (fun H locs hG => ?_)
  have hG : BW D κ [(h0, .inr (3, [.ref q1, .ref q2, .ref q3, .ref q4, .ref q5, .ref q6, .int (nI 0), .ref q7, .ref q8, .ref q9, .ref q10, .int (nI 0)])), (q1, .inl (κ.1, 60, .inl (fun _ => 0))), (q2, .inl (κ.1, 60, .inl (fun _ => 0))), (q3, .inl (κ.1, 60, .inl (fun _ => 0))), (q4, .inl (κ.1, 60, .inl (fun _ => 0))), (q5, .inl (κ.2.2.1, 60, .inl (fun _ => 0))), (q6, .inl (κ.2.2.1, 60, .inl (fun _ => 0))), (q7, .inl (κ.1, 600, .inl (fun _ => 0))), (q8, .inl (κ.1, 600, .inl (fun _ => 0))), (q9, .inl (κ.2.1, 600, .inr (.inl (fun _ => 0)))), (q10, .inl (κ.2.1, 600, .inr (.inl (fun _ => 0))))] _ s H locs := hG
  exact bw_end (qs := fun k => match k with | 0 => q1 | 1 => q2 | 2 => q3 | 3 => q4 | 4 => q5 | 5 => q6 | 6 => q7 | 7 => q8 | 8 => q9 | _ => q10) hC hG rfl hr hk (by decide) (by decide) dX3_init_98

theorem dX2_init_0 : decode cX2_init 0 = .ok (.aload_n 0, 1) := by decide +kernel
theorem dX2_init_1 : decode cX2_init 1 = .ok (.invokespecial 3, 3) := by decide +kernel
theorem dX2_init_12 : decode cX2_init 12 = .ok (.aload_n 0, 1) := by decide +kernel
theorem dX2_init_13 : decode cX2_init 13 = .ok (.bipush 20, 2) := by decide +kernel
theorem dX2_init_15 : decode cX2_init 15 = .ok (.newarray .int, 2) := by decide +kernel
theorem dX2_init_17 : decode cX2_init 17 = .ok (.putfield 15, 3) := by decide +kernel
theorem dX2_init_20 : decode cX2_init 20 = .ok (.aload_n 0, 1) := by decide +kernel
theorem dX2_init_21 : decode cX2_init 21 = .ok (.bipush 20, 2) := by decide +kernel
theorem dX2_init_23 : decode cX2_init 23 = .ok (.newarray .int, 2) := by decide +kernel
theorem dX2_init_25 : decode cX2_init 25 = .ok (.putfield 18, 3) := by decide +kernel
theorem dX2_init_28 : decode cX2_init 28 = .ok (.aload_n 0, 1) := by decide +kernel
theorem dX2_init_29 : decode cX2_init 29 = .ok (.bipush 20, 2) := by decide +kernel
theorem dX2_init_31 : decode cX2_init 31 = .ok (.newarray .boolean, 2) := by decide +kernel
theorem dX2_init_33 : decode cX2_init 33 = .ok (.putfield 21, 3) := by decide +kernel
theorem dX2_init_36 : decode cX2_init 36 = .ok (.aload_n 0, 1) := by decide +kernel
theorem dX2_init_37 : decode cX2_init 37 = .ok (.iconst 0, 1) := by decide +kernel
theorem dX2_init_38 : decode cX2_init 38 = .ok (.putfield 25, 3) := by decide +kernel
theorem dX2_init_4 : decode cX2_init 4 = .ok (.aload_n 0, 1) := by decide +kernel
theorem dX2_init_41 : decode cX2_init 41 = .ok (.return_, 1) := by decide +kernel
theorem dX2_init_5 : decode cX2_init 5 = .ok (.bipush 20, 2) := by decide +kernel
theorem dX2_init_7 : decode cX2_init 7 = .ok (.newarray .int, 2) := by decide +kernel
theorem dX2_init_9 : decode cX2_init 9 = .ok (.putfield 9, 3) := by decide +kernel
set_option maxHeartbeats 4000000 in
set_option maxRecDepth 100000 in
theorem c_init_2 (l : Launch) (D : va_G) (κ : K4) (sz h0 : Nat) : CM l yX2_init cX2_init 1 1 12 4 80 D κ [] [(h0, .inr (2, [.null, .null, .null, .null, .int 0]))] sz [.ref h0] (fun qs : Nat → Nat => [(h0, .inr (2, [.ref (qs 0), .ref (qs 1), .ref (qs 2), .ref (qs 3), .int (nI 0)])), (qs 0, .inl (κ.1, 20, .inl (fun _ => 0))), (qs 1, .inl (κ.1, 20, .inl (fun _ => 0))), (qs 2, .inl (κ.1, 20, .inl (fun _ => 0))), (qs 3, .inl (κ.2.2.1, 20, .inl (fun _ => 0)))]) := by
  refine CM.of (by decide +kernel) (Nat.le_of_ble_eq_true rfl) rfl ?_
  intro p e s m below meth c ls hC hr hk hin hsz hX H locs hG hl
  have hx := hC.1
  have hb := hC.2.1
  have hl : lv_has ls 1 [(0, (.ref h0))] := hl
  refine lv_aload_n hx hb dX2_init_0 rfl (lv_at hl 0 rfl) ?_
  refine bw_obj hC w87 hl.1 dX2_init_1 (by decide) (by decide) w11 w12 ?_
  refine lv_aload_n hx hb dX2_init_4 rfl (lv_at hl 0 rfl) ?_
  refine lv_bipush (v := nI 20) hx hb dX2_init_5 (by decide) ?_
  have hk1 : 0 + 1 ≤ 4 := by decide
  have hs1 : 0 + 20 ≤ 80 := by decide
  refine bw_nI hC hG (by decide) w47 hk1 hs1 dX2_init_7 (fun q1 H hG => ?_)
  have hG : BW D κ [(h0, .inr (2, [.null, .null, .null, .null, .int 0])), (q1, .inl (κ.1, 20, .inl (fun _ => 0)))] _ s H locs := hG
  refine W.widen (k := 1) (n := 20) (by decide) (by decide) ?_
  refine bw_put (C := RX2) (T := TX2) (N := 5) (ci := 2) (ty0 := tyX2) (ty := .array .int) (v := .ref q1) 0 (by decide) 0 hC hG iwX2 tyX2_ok nmX2 rfl rfl w88 rfl (Or.inr ⟨hin, rfl⟩) (by decide +kernel) rfl rfl (Nat.le_of_ble_eq_true rfl) dX2_init_9 (fun H locs hG => ?_)
  have hG : BW D κ [(h0, .inr (2, [.ref q1, .null, .null, .null, .int 0])), (q1, .inl (κ.1, 20, .inl (fun _ => 0)))] _ s H locs := hG
  refine lv_aload_n hx hb dX2_init_12 rfl (lv_at hl 0 rfl) ?_
  refine lv_bipush (v := nI 20) hx hb dX2_init_13 (by decide) ?_
  have hk2 : 1 + 1 ≤ 4 := by decide
  have hs2 : 20 + 20 ≤ 80 := by decide
  refine bw_nI hC hG (by decide) w47 hk2 hs2 dX2_init_15 (fun q2 H hG => ?_)
  have hG : BW D κ [(h0, .inr (2, [.ref q1, .null, .null, .null, .int 0])), (q1, .inl (κ.1, 20, .inl (fun _ => 0))), (q2, .inl (κ.1, 20, .inl (fun _ => 0)))] _ s H locs := hG
  refine W.widen (k := 2) (n := 40) (by decide) (by decide) ?_
  refine bw_put (C := RX2) (T := TX2) (N := 5) (ci := 2) (ty0 := tyX2) (ty := .array .int) (v := .ref q2) 1 (by decide) 0 hC hG iwX2 tyX2_ok nmX2 rfl rfl w89 rfl (Or.inr ⟨hin, rfl⟩) (by decide +kernel) rfl rfl (Nat.le_of_ble_eq_true rfl) dX2_init_17 (fun H locs hG => ?_)
  have hG : BW D κ [(h0, .inr (2, [.ref q1, .ref q2, .null, .null, .int 0])), (q1, .inl (κ.1, 20, .inl (fun _ => 0))), (q2, .inl (κ.1, 20, .inl (fun _ => 0)))] _ s H locs := hG
  refine lv_aload_n hx hb dX2_init_20 rfl (lv_at hl 0 rfl) ?_
  refine lv_bipush (v := nI 20) hx hb dX2_init_21 (by decide) ?_
  have hk3 : 2 + 1 ≤ 4 := by decide
  have hs3 : 40 + 20 ≤ 80 := by decide
  refine bw_nI hC hG (by decide) w47 hk3 hs3 dX2_init_23 (fun q3 H hG => ?_)
  have hG : BW D κ [(h0, .inr (2, [.ref q1, .ref q2, .null, .null, .int 0])), (q1, .inl (κ.1, 20, .inl (fun _ => 0))), (q2, .inl (κ.1, 20, .inl (fun _ => 0))), (q3, .inl (κ.1, 20, .inl (fun _ => 0)))] _ s H locs := hG
  refine W.widen (k := 3) (n := 60) (by decide) (by decide) ?_
  refine bw_put (C := RX2) (T := TX2) (N := 5) (ci := 2) (ty0 := tyX2) (ty := .array .int) (v := .ref q3) 2 (by decide) 0 hC hG iwX2 tyX2_ok nmX2 rfl rfl w90 rfl (Or.inr ⟨hin, rfl⟩) (by decide +kernel) rfl rfl (Nat.le_of_ble_eq_true rfl) dX2_init_25 (fun H locs hG => ?_)
  have hG : BW D κ [(h0, .inr (2, [.ref q1, .ref q2, .ref q3, .null, .int 0])), (q1, .inl (κ.1, 20, .inl (fun _ => 0))), (q2, .inl (κ.1, 20, .inl (fun _ => 0))), (q3, .inl (κ.1, 20, .inl (fun _ => 0)))] _ s H locs := hG
  refine lv_aload_n hx hb dX2_init_28 rfl (lv_at hl 0 rfl) ?_
  refine lv_bipush (v := nI 20) hx hb dX2_init_29 (by decide) ?_
  have hk4 : 3 + 1 ≤ 4 := by decide
  have hs4 : 60 + 20 ≤ 80 := by decide
  refine bw_nZ hC hG (by decide) w52 hk4 hs4 dX2_init_31 (fun q4 H hG => ?_)
  have hG : BW D κ [(h0, .inr (2, [.ref q1, .ref q2, .ref q3, .null, .int 0])), (q1, .inl (κ.1, 20, .inl (fun _ => 0))), (q2, .inl (κ.1, 20, .inl (fun _ => 0))), (q3, .inl (κ.1, 20, .inl (fun _ => 0))), (q4, .inl (κ.2.2.1, 20, .inl (fun _ => 0)))] _ s H locs := hG
  refine W.widen (k := 4) (n := 80) (by decide) (by decide) ?_
  refine bw_put (C := RX2) (T := TX2) (N := 5) (ci := 2) (ty0 := tyX2) (ty := .array .boolean) (v := .ref q4) 3 (by decide) 0 hC hG iwX2 tyX2_ok nmX2 rfl rfl w91 rfl (Or.inr ⟨hin, rfl⟩) (by decide +kernel) rfl rfl (Nat.le_of_ble_eq_true rfl) dX2_init_33 (fun H locs hG => ?_)
  have hG : BW D κ [(h0, .inr (2, [.ref q1, .ref q2, .ref q3, .ref q4, .int 0])), (q1, .inl (κ.1, 20, .inl (fun _ => 0))), (q2, .inl (κ.1, 20, .inl (fun _ => 0))), (q3, .inl (κ.1, 20, .inl (fun _ => 0))), (q4, .inl (κ.2.2.1, 20, .inl (fun _ => 0)))] _ s H locs := hG
  refine lv_aload_n hx hb dX2_init_36 rfl (lv_at hl 0 rfl) ?_
  refine lv_iconst (v := nI 0) hx hb dX2_init_37 (by decide) ?_
  refine bw_put (C := RX2) (T := TX2) (N := 5) (ci := 2) (ty0 := tyX2) (ty := .int) (v := .int (nI 0)) 4 (by decide) 0 hC hG iwX2 tyX2_ok nmX2 rfl rfl w92 rfl (Or.inl rfl) (by decide +kernel) rfl rfl (Nat.le_of_ble_eq_true rfl) dX2_init_38 (fun H locs hG => ?_)
  have hG : BW D κ [(h0, .inr (2, [.ref q1, .ref q2, .ref q3, .ref q4, .int (nI 0)])), (q1, .inl (κ.1, 20, .inl (fun _ => 0))), (q2, .inl (κ.1, 20, .inl (fun _ => 0))), (q3, .inl (κ.1, 20, .inl (fun _ => 0))), (q4, .inl (κ.2.2.1, 20, .inl (fun _ => 0)))] _ s H locs := hG
  exact bw_end (qs := fun k => match k with | 0 => q1 | 1 => q2 | 2 => q3 | _ => q4) hC hG rfl hr hk (by decide) (by decide) dX2_init_41

theorem dX5_init_0 : decode cX5_init 0 = .ok (.aload_n 0, 1) := by decide +kernel
theorem dX5_init_1 : decode cX5_init 1 = .ok (.invokespecial 3, 3) := by decide +kernel
theorem dX5_init_12 : decode cX5_init 12 = .ok (.aload_n 0, 1) := by decide +kernel
theorem dX5_init_13 : decode cX5_init 13 = .ok (.bipush 40, 2) := by decide +kernel
theorem dX5_init_15 : decode cX5_init 15 = .ok (.newarray .int, 2) := by decide +kernel
theorem dX5_init_17 : decode cX5_init 17 = .ok (.putfield 15, 3) := by decide +kernel
theorem dX5_init_20 : decode cX5_init 20 = .ok (.aload_n 0, 1) := by decide +kernel
theorem dX5_init_21 : decode cX5_init 21 = .ok (.bipush 40, 2) := by decide +kernel
theorem dX5_init_23 : decode cX5_init 23 = .ok (.newarray .int, 2) := by decide +kernel
theorem dX5_init_25 : decode cX5_init 25 = .ok (.putfield 18, 3) := by decide +kernel
theorem dX5_init_28 : decode cX5_init 28 = .ok (.aload_n 0, 1) := by decide +kernel
theorem dX5_init_29 : decode cX5_init 29 = .ok (.bipush 40, 2) := by decide +kernel
theorem dX5_init_31 : decode cX5_init 31 = .ok (.newarray .int, 2) := by decide +kernel
theorem dX5_init_33 : decode cX5_init 33 = .ok (.putfield 21, 3) := by decide +kernel
theorem dX5_init_36 : decode cX5_init 36 = .ok (.aload_n 0, 1) := by decide +kernel
theorem dX5_init_37 : decode cX5_init 37 = .ok (.iconst 0, 1) := by decide +kernel
theorem dX5_init_38 : decode cX5_init 38 = .ok (.putfield 24, 3) := by decide +kernel
theorem dX5_init_4 : decode cX5_init 4 = .ok (.aload_n 0, 1) := by decide +kernel
theorem dX5_init_41 : decode cX5_init 41 = .ok (.return_, 1) := by decide +kernel
theorem dX5_init_5 : decode cX5_init 5 = .ok (.bipush 40, 2) := by decide +kernel
theorem dX5_init_7 : decode cX5_init 7 = .ok (.newarray .int, 2) := by decide +kernel
theorem dX5_init_9 : decode cX5_init 9 = .ok (.putfield 9, 3) := by decide +kernel
set_option maxHeartbeats 4000000 in
set_option maxRecDepth 100000 in
theorem c_init_5 (l : Launch) (D : va_G) (κ : K4) (sz h0 : Nat) : CM l yX5_init cX5_init 1 1 12 4 160 D κ [] [(h0, .inr (5, [.null, .null, .null, .null, .int 0]))] sz [.ref h0] (fun qs : Nat → Nat => [(h0, .inr (5, [.ref (qs 0), .ref (qs 1), .ref (qs 2), .ref (qs 3), .int (nI 0)])), (qs 0, .inl (κ.1, 40, .inl (fun _ => 0))), (qs 1, .inl (κ.1, 40, .inl (fun _ => 0))), (qs 2, .inl (κ.1, 40, .inl (fun _ => 0))), (qs 3, .inl (κ.1, 40, .inl (fun _ => 0)))]) := by
  refine CM.of (by decide +kernel) (Nat.le_of_ble_eq_true rfl) rfl ?_
  intro p e s m below meth c ls hC hr hk hin hsz hX H locs hG hl
  have hx := hC.1
  have hb := hC.2.1
  have hl : lv_has ls 1 [(0, (.ref h0))] := hl
  refine lv_aload_n hx hb dX5_init_0 rfl (lv_at hl 0 rfl) ?_
  refine bw_obj hC w95 hl.1 dX5_init_1 (by decide) (by decide) w11 w12 ?_
  refine lv_aload_n hx hb dX5_init_4 rfl (lv_at hl 0 rfl) ?_
  refine lv_bipush (v := nI 40) hx hb dX5_init_5 (by decide) ?_
  have hk1 : 0 + 1 ≤ 4 := by decide
  have hs1 : 0 + 40 ≤ 160 := by decide
  refine bw_nI hC hG (by decide) w47 hk1 hs1 dX5_init_7 (fun q1 H hG => ?_)
  have hG : BW D κ [(h0, .inr (5, [.null, .null, .null, .null, .int 0])), (q1, .inl (κ.1, 40, .inl (fun _ => 0)))] _ s H locs := hG
  refine W.widen (k := 1) (n := 40) (by decide) (by decide) ?_
  refine bw_put (C := RX5) (T := TX5) (N := 5) (ci := 5) (ty0 := tyX5) (ty := .array .int) (v := .ref q1) 0 (by decide) 0 hC hG iwX5 tyX5_ok nmX5 rfl rfl w96 rfl (Or.inr ⟨hin, rfl⟩) (by decide +kernel) rfl rfl (Nat.le_of_ble_eq_true rfl) dX5_init_9 (fun H locs hG => ?_)
  have hG : BW D κ [(h0, .inr (5, [.ref q1, .null, .null, .null, .int 0])), (q1, .inl (κ.1, 40, .inl (fun _ => 0)))] _ s H locs := hG
  refine lv_aload_n hx hb dX5_init_12 rfl (lv_at hl 0 rfl) ?_
  refine lv_bipush (v := nI 40) hx hb dX5_init_13 (by decide) ?_
  have hk2 : 1 + 1 ≤ 4 := by decide
  have hs2 : 40 + 40 ≤ 160 := by decide
  refine bw_nI hC hG (by decide) w47 hk2 hs2 dX5_init_15 (fun q2 H hG => ?_)
  have hG : BW D κ [(h0, .inr (5, [.ref q1, .null, .null, .null, .int 0])), (q1, .inl (κ.1, 40, .inl (fun _ => 0))), (q2, .inl (κ.1, 40, .inl (fun _ => 0)))] _ s H locs := hG
  refine W.widen (k := 2) (n := 80) (by decide) (by decide) ?_
  refine bw_put (C := RX5) (T := TX5) (N := 5) (ci := 5) (ty0 := tyX5) (ty := .array .int) (v := .ref q2) 1 (by decide) 0 hC hG iwX5 tyX5_ok nmX5 rfl rfl w97 rfl (Or.inr ⟨hin, rfl⟩) (by decide +kernel) rfl rfl (Nat.le_of_ble_eq_true rfl) dX5_init_17 (fun H locs hG => ?_)
  have hG : BW D κ [(h0, .inr (5, [.ref q1, .ref q2, .null, .null, .int 0])), (q1, .inl (κ.1, 40, .inl (fun _ => 0))), (q2, .inl (κ.1, 40, .inl (fun _ => 0)))] _ s H locs := hG
  refine lv_aload_n hx hb dX5_init_20 rfl (lv_at hl 0 rfl) ?_
  refine lv_bipush (v := nI 40) hx hb dX5_init_21 (by decide) ?_
  have hk3 : 2 + 1 ≤ 4 := by decide
  have hs3 : 80 + 40 ≤ 160 := by decide
  refine bw_nI hC hG (by decide) w47 hk3 hs3 dX5_init_23 (fun q3 H hG => ?_)
  have hG : BW D κ [(h0, .inr (5, [.ref q1, .ref q2, .null, .null, .int 0])), (q1, .inl (κ.1, 40, .inl (fun _ => 0))), (q2, .inl (κ.1, 40, .inl (fun _ => 0))), (q3, .inl (κ.1, 40, .inl (fun _ => 0)))] _ s H locs := hG
  refine W.widen (k := 3) (n := 120) (by decide) (by decide) ?_
  refine bw_put (C := RX5) (T := TX5) (N := 5) (ci := 5) (ty0 := tyX5) (ty := .array .int) (v := .ref q3) 2 (by decide) 0 hC hG iwX5 tyX5_ok nmX5 rfl rfl w98 rfl (Or.inr ⟨hin, rfl⟩) (by decide +kernel) rfl rfl (Nat.le_of_ble_eq_true rfl) dX5_init_25 (fun H locs hG => ?_)
  have hG : BW D κ [(h0, .inr (5, [.ref q1, .ref q2, .ref q3, .null, .int 0])), (q1, .inl (κ.1, 40, .inl (fun _ => 0))), (q2, .inl (κ.1, 40, .inl (fun _ => 0))), (q3, .inl (κ.1, 40, .inl (fun _ => 0)))] _ s H locs := hG
  refine lv_aload_n hx hb dX5_init_28 rfl (lv_at hl 0 rfl) ?_
  refine lv_bipush (v := nI 40) hx hb dX5_init_29 (by decide) ?_
  have hk4 : 3 + 1 ≤ 4 := by decide
  have hs4 : 120 + 40 ≤ 160 := by decide
  refine bw_nI hC hG (by decide) w47 hk4 hs4 dX5_init_31 (fun q4 H hG => ?_)
  have hG : BW D κ [(h0, .inr (5, [.ref q1, .ref q2, .ref q3, .null, .int 0])), (q1, .inl (κ.1, 40, .inl (fun _ => 0))), (q2, .inl (κ.1, 40, .inl (fun _ => 0))), (q3, .inl (κ.1, 40, .inl (fun _ => 0))), (q4, .inl (κ.1, 40, .inl (fun _ => 0)))] _ s H locs := hG
  refine W.widen (k := 4) (n := 160) (by decide) (by decide) ?_
  refine bw_put (C := RX5) (T := TX5) (N := 5) (ci := 5) (ty0 := tyX5) (ty := .array .int) (v := .ref q4) 3 (by decide) 0 hC hG iwX5 tyX5_ok nmX5 rfl rfl w99 rfl (Or.inr ⟨hin, rfl⟩) (by decide +kernel) rfl rfl (Nat.le_of_ble_eq_true rfl) dX5_init_33 (fun H locs hG => ?_)
  have hG : BW D κ [(h0, .inr (5, [.ref q1, .ref q2, .ref q3, .ref q4, .int 0])), (q1, .inl (κ.1, 40, .inl (fun _ => 0))), (q2, .inl (κ.1, 40, .inl (fun _ => 0))), (q3, .inl (κ.1, 40, .inl (fun _ => 0))), (q4, .inl (κ.1, 40, .inl (fun _ => 0)))] _ s H locs := hG
  refine lv_aload_n hx hb dX5_init_36 rfl (lv_at hl 0 rfl) ?_
  refine lv_iconst (v := nI 0) hx hb dX5_init_37 (by decide) ?_
  refine bw_put (C := RX5) (T := TX5) (N := 5) (ci := 5) (ty0 := tyX5) (ty := .int) (v := .int (nI 0)) 4 (by decide) 0 hC hG iwX5 tyX5_ok nmX5 rfl rfl w100 rfl (Or.inl rfl) (by decide +kernel) rfl rfl (Nat.le_of_ble_eq_true rfl) dX5_init_38 (fun H locs hG => ?_)
  have hG : BW D κ [(h0, .inr (5, [.ref q1, .ref q2, .ref q3, .ref q4, .int (nI 0)])), (q1, .inl (κ.1, 40, .inl (fun _ => 0))), (q2, .inl (κ.1, 40, .inl (fun _ => 0))), (q3, .inl (κ.1, 40, .inl (fun _ => 0))), (q4, .inl (κ.1, 40, .inl (fun _ => 0)))] _ s H locs := hG
  exact bw_end (qs := fun k => match k with | 0 => q1 | 1 => q2 | 2 => q3 | _ => q4) hC hG rfl hr hk (by decide) (by decide) dX5_init_41

theorem dX6_init_0 : decode cX6_init 0 = .ok (.aload_n 0, 1) := by decide +kernel
theorem dX6_init_1 : decode cX6_init 1 = .ok (.invokespecial 3, 3) := by decide +kernel
theorem dX6_init_10 : decode cX6_init 10 = .ok (.putfield 9, 3) := by decide +kernel
theorem dX6_init_13 : decode cX6_init 13 = .ok (.aload_n 0, 1) := by decide +kernel
theorem dX6_init_14 : decode cX6_init 14 = .ok (.bipush 40, 2) := by decide +kernel
theorem dX6_init_16 : decode cX6_init 16 = .ok (.newarray .int, 2) := by decide +kernel
theorem dX6_init_18 : decode cX6_init 18 = .ok (.putfield 15, 3) := by decide +kernel
theorem dX6_init_21 : decode cX6_init 21 = .ok (.aload_n 0, 1) := by decide +kernel
theorem dX6_init_22 : decode cX6_init 22 = .ok (.bipush 40, 2) := by decide +kernel
theorem dX6_init_24 : decode cX6_init 24 = .ok (.newarray .int, 2) := by decide +kernel
theorem dX6_init_26 : decode cX6_init 26 = .ok (.putfield 18, 3) := by decide +kernel
theorem dX6_init_29 : decode cX6_init 29 = .ok (.aload_n 0, 1) := by decide +kernel
theorem dX6_init_30 : decode cX6_init 30 = .ok (.aload_n 1, 1) := by decide +kernel
theorem dX6_init_31 : decode cX6_init 31 = .ok (.putfield 21, 3) := by decide +kernel
theorem dX6_init_34 : decode cX6_init 34 = .ok (.aload_n 0, 1) := by decide +kernel
theorem dX6_init_35 : decode cX6_init 35 = .ok (.aload_n 2, 1) := by decide +kernel
theorem dX6_init_36 : decode cX6_init 36 = .ok (.putfield 25, 3) := by decide +kernel
theorem dX6_init_39 : decode cX6_init 39 = .ok (.iconst 0, 1) := by decide +kernel
theorem dX6_init_4 : decode cX6_init 4 = .ok (.aload_n 0, 1) := by decide +kernel
theorem dX6_init_40 : decode cX6_init 40 = .ok (.istore_n 3, 1) := by decide +kernel
theorem dX6_init_41 : decode cX6_init 41 = .ok (.iload_n 3, 1) := by decide +kernel
theorem dX6_init_42 : decode cX6_init 42 = .ok (.sipush 600, 3) := by decide +kernel
theorem dX6_init_45 : decode cX6_init 45 = .ok (.if_icmp .ge 16, 3) := by decide +kernel
theorem dX6_init_48 : decode cX6_init 48 = .ok (.aload_n 0, 1) := by decide +kernel
theorem dX6_init_49 : decode cX6_init 49 = .ok (.getfield 9, 3) := by decide +kernel
theorem dX6_init_5 : decode cX6_init 5 = .ok (.sipush 600, 3) := by decide +kernel
theorem dX6_init_52 : decode cX6_init 52 = .ok (.iload_n 3, 1) := by decide +kernel
theorem dX6_init_53 : decode cX6_init 53 = .ok (.iconst (-1), 1) := by decide +kernel
theorem dX6_init_54 : decode cX6_init 54 = .ok (.iastore, 1) := by decide +kernel
theorem dX6_init_55 : decode cX6_init 55 = .ok (.iinc 3 1, 3) := by decide +kernel
theorem dX6_init_58 : decode cX6_init 58 = .ok (.goto (-17), 3) := by decide +kernel
theorem dX6_init_61 : decode cX6_init 61 = .ok (.iconst 0, 1) := by decide +kernel
theorem dX6_init_62 : decode cX6_init 62 = .ok (.istore_n 3, 1) := by decide +kernel
theorem dX6_init_63 : decode cX6_init 63 = .ok (.iload_n 3, 1) := by decide +kernel
theorem dX6_init_64 : decode cX6_init 64 = .ok (.bipush 40, 2) := by decide +kernel
theorem dX6_init_66 : decode cX6_init 66 = .ok (.if_icmp .ge 23, 3) := by decide +kernel
theorem dX6_init_69 : decode cX6_init 69 = .ok (.aload_n 0, 1) := by decide +kernel
theorem dX6_init_70 : decode cX6_init 70 = .ok (.getfield 15, 3) := by decide +kernel
theorem dX6_init_73 : decode cX6_init 73 = .ok (.iload_n 3, 1) := by decide +kernel
theorem dX6_init_74 : decode cX6_init 74 = .ok (.iconst (-1), 1) := by decide +kernel
theorem dX6_init_75 : decode cX6_init 75 = .ok (.iastore, 1) := by decide +kernel
theorem dX6_init_76 : decode cX6_init 76 = .ok (.aload_n 0, 1) := by decide +kernel
theorem dX6_init_77 : decode cX6_init 77 = .ok (.getfield 18, 3) := by decide +kernel
theorem dX6_init_8 : decode cX6_init 8 = .ok (.newarray .int, 2) := by decide +kernel
theorem dX6_init_80 : decode cX6_init 80 = .ok (.iload_n 3, 1) := by decide +kernel
theorem dX6_init_81 : decode cX6_init 81 = .ok (.iconst (-1), 1) := by decide +kernel
theorem dX6_init_82 : decode cX6_init 82 = .ok (.iastore, 1) := by decide +kernel
theorem dX6_init_83 : decode cX6_init 83 = .ok (.iinc 3 1, 3) := by decide +kernel
theorem dX6_init_86 : decode cX6_init 86 = .ok (.goto (-23), 3) := by decide +kernel
theorem dX6_init_89 : decode cX6_init 89 = .ok (.return_, 1) := by decide +kernel
set_option maxHeartbeats 4000000 in
set_option maxRecDepth 100000 in
theorem c_init_6 (l : Launch) (D : va_G) (κ : K4) (sz h0 : Nat) (jr li : Nat) : CM l yX6_init cX6_init 4 1 12 3 680 D κ [] [(h0, .inr (6, [.null, .null, .null, .null, .null]))] sz [.ref h0, .ref jr, .ref li] (fun qs : Nat → Nat => [(h0, .inr (6, [.ref jr, .ref li, .ref (qs 0), .ref (qs 1), .ref (qs 2)])), (qs 0, .inl (κ.1, 600, .inl (fun _ => -1))), (qs 1, .inl (κ.1, 40, .inl (fun _ => -1))), (qs 2, .inl (κ.1, 40, .inl (fun _ => -1)))]) := by
  refine CM.of (by decide +kernel) (Nat.le_of_ble_eq_true rfl) rfl ?_
  intro p e s m below meth c ls hC hr hk hin hsz hX H locs hG hl
  have hx := hC.1
  have hb := hC.2.1
  have hl : lv_has ls 4 [(0, (.ref h0)), (1, (.ref jr)), (2, (.ref li))] := hl
  refine lv_aload_n hx hb dX6_init_0 rfl (lv_at hl 0 rfl) ?_
  refine bw_obj hC w104 hl.1 dX6_init_1 (by decide) (by decide) w11 w12 ?_
  refine lv_aload_n hx hb dX6_init_4 rfl (lv_at hl 0 rfl) ?_
  refine lv_sipush (v := nI 600) hx hb dX6_init_5 (by decide) ?_
  have hk1 : 0 + 1 ≤ 3 := by decide
  have hs1 : 0 + 600 ≤ 680 := by decide
  refine bw_nI hC hG (by decide) w47 hk1 hs1 dX6_init_8 (fun q1 H hG => ?_)
  have hG : BW D κ [(h0, .inr (6, [.null, .null, .null, .null, .null])), (q1, .inl (κ.1, 600, .inl (fun _ => 0)))] _ s H locs := hG
  refine W.widen (k := 1) (n := 600) (by decide) (by decide) ?_
  refine bw_put (C := RX6) (T := TX6) (N := 5) (ci := 6) (ty0 := tyX6) (ty := .array .int) (v := .ref q1) 2 (by decide) 0 hC hG iwX6 tyX6_ok nmX6 rfl rfl w105 rfl (Or.inr ⟨hin, rfl⟩) (by decide +kernel) rfl rfl (Nat.le_of_ble_eq_true rfl) dX6_init_10 (fun H locs hG => ?_)
  have hG : BW D κ [(h0, .inr (6, [.null, .null, .ref q1, .null, .null])), (q1, .inl (κ.1, 600, .inl (fun _ => 0)))] _ s H locs := hG
  refine lv_aload_n hx hb dX6_init_13 rfl (lv_at hl 0 rfl) ?_
  refine lv_bipush (v := nI 40) hx hb dX6_init_14 (by decide) ?_
  have hk2 : 1 + 1 ≤ 3 := by decide
  have hs2 : 600 + 40 ≤ 680 := by decide
  refine bw_nI hC hG (by decide) w47 hk2 hs2 dX6_init_16 (fun q2 H hG => ?_)
  have hG : BW D κ [(h0, .inr (6, [.null, .null, .ref q1, .null, .null])), (q1, .inl (κ.1, 600, .inl (fun _ => 0))), (q2, .inl (κ.1, 40, .inl (fun _ => 0)))] _ s H locs := hG
  refine W.widen (k := 2) (n := 640) (by decide) (by decide) ?_
  refine bw_put (C := RX6) (T := TX6) (N := 5) (ci := 6) (ty0 := tyX6) (ty := .array .int) (v := .ref q2) 3 (by decide) 0 hC hG iwX6 tyX6_ok nmX6 rfl rfl w106 rfl (Or.inr ⟨hin, rfl⟩) (by decide +kernel) rfl rfl (Nat.le_of_ble_eq_true rfl) dX6_init_18 (fun H locs hG => ?_)
  have hG : BW D κ [(h0, .inr (6, [.null, .null, .ref q1, .ref q2, .null])), (q1, .inl (κ.1, 600, .inl (fun _ => 0))), (q2, .inl (κ.1, 40, .inl (fun _ => 0)))] _ s H locs := hG
  refine lv_aload_n hx hb dX6_init_21 rfl (lv_at hl 0 rfl) ?_
  refine lv_bipush (v := nI 40) hx hb dX6_init_22 (by decide) ?_
  have hk3 : 2 + 1 ≤ 3 := by decide
  have hs3 : 640 + 40 ≤ 680 := by decide
  refine bw_nI hC hG (by decide) w47 hk3 hs3 dX6_init_24 (fun q3 H hG => ?_)
  have hG : BW D κ [(h0, .inr (6, [.null, .null, .ref q1, .ref q2, .null])), (q1, .inl (κ.1, 600, .inl (fun _ => 0))), (q2, .inl (κ.1, 40, .inl (fun _ => 0))), (q3, .inl (κ.1, 40, .inl (fun _ => 0)))] _ s H locs := hG
  refine W.widen (k := 3) (n := 680) (by decide) (by decide) ?_
  refine bw_put (C := RX6) (T := TX6) (N := 5) (ci := 6) (ty0 := tyX6) (ty := .array .int) (v := .ref q3) 4 (by decide) 0 hC hG iwX6 tyX6_ok nmX6 rfl rfl w107 rfl (Or.inr ⟨hin, rfl⟩) (by decide +kernel) rfl rfl (Nat.le_of_ble_eq_true rfl) dX6_init_26 (fun H locs hG => ?_)
  have hG : BW D κ [(h0, .inr (6, [.null, .null, .ref q1, .ref q2, .ref q3])), (q1, .inl (κ.1, 600, .inl (fun _ => 0))), (q2, .inl (κ.1, 40, .inl (fun _ => 0))), (q3, .inl (κ.1, 40, .inl (fun _ => 0)))] _ s H locs := hG
  refine lv_aload_n hx hb dX6_init_29 rfl (lv_at hl 0 rfl) ?_
  refine lv_aload_n hx hb dX6_init_30 rfl (lv_at hl 1 rfl) ?_
  refine bw_put (C := RX6) (T := TX6) (N := 5) (ci := 6) (ty0 := tyX6) (ty := .object "Tollgate$Journal") (v := .ref jr) 0 (by decide) 0 hC hG iwX6 tyX6_ok nmX6 rfl rfl w108 rfl (Or.inr ⟨hin, rfl⟩) (by decide +kernel) rfl rfl (Nat.le_of_ble_eq_true rfl) dX6_init_31 (fun H locs hG => ?_)
  have hG : BW D κ [(h0, .inr (6, [.ref jr, .null, .ref q1, .ref q2, .ref q3])), (q1, .inl (κ.1, 600, .inl (fun _ => 0))), (q2, .inl (κ.1, 40, .inl (fun _ => 0))), (q3, .inl (κ.1, 40, .inl (fun _ => 0)))] _ s H locs := hG
  refine lv_aload_n hx hb dX6_init_34 rfl (lv_at hl 0 rfl) ?_
  refine lv_aload_n hx hb dX6_init_35 rfl (lv_at hl 2 rfl) ?_
  refine bw_put (C := RX6) (T := TX6) (N := 5) (ci := 6) (ty0 := tyX6) (ty := .object "Tollgate$Lines") (v := .ref li) 1 (by decide) 0 hC hG iwX6 tyX6_ok nmX6 rfl rfl w109 rfl (Or.inr ⟨hin, rfl⟩) (by decide +kernel) rfl rfl (Nat.le_of_ble_eq_true rfl) dX6_init_36 (fun H locs hG => ?_)
  have hG : BW D κ [(h0, .inr (6, [.ref jr, .ref li, .ref q1, .ref q2, .ref q3])), (q1, .inl (κ.1, 600, .inl (fun _ => 0))), (q2, .inl (κ.1, 40, .inl (fun _ => 0))), (q3, .inl (κ.1, 40, .inl (fun _ => 0)))] _ s H locs := hG
  refine lv_iconst (v := nI 0) hx hb dX6_init_39 (by decide) ?_
  refine lv_istore_n (lv' := [(3, .int (nI 0)), (0, .ref h0), (1, .ref jr), (2, .ref li)]) hx hb dX6_init_40 rfl hl (by decide) rfl (fun ls hl => ?_)
  have hG := hG.arrI 1 (g := fill 0) rfl (fun j hj => rfl)
  have hG : BW D κ [(h0, .inr (6, [.ref jr, .ref li, .ref q1, .ref q2, .ref q3])), (q1, .inl (κ.1, 600, .inl (fill 0))), (q2, .inl (κ.1, 40, .inl (fun _ => 0))), (q3, .inl (κ.1, 40, .inl (fun _ => 0)))] _ s H locs := hG
  have lp41 : ∀ (n i : Nat), 600 - i < n → i ≤ 600 → (∀ (H : Heap) (locs : List Loc), BW D κ [(h0, .inr (6, [.ref jr, .ref li, .ref q1, .ref q2, .ref q3])), (q1, .inl (κ.1, 600, .inl (fill 600))), (q2, .inl (κ.1, 40, .inl (fun _ => 0))), (q3, .inl (κ.1, 40, .inl (fun _ => 0)))] (va_A [(h0, .inr (6, [.null, .null, .null, .null, .null]))] sz) s H locs → ∀ ls : Array Slot, lv_has ls 4 [(3, .int (nI 600)), (0, .ref h0), (1, .ref jr), (2, .ref li)] → W p l e { frames := 1, cells := 3, slots := 680, locals := 12 } s m [.ref h0, .ref jr, .ref li].toArray below meth c H locs 3 680 (MQ below (va_Qv (fun _ : Nat → Nat => True) (fun qs t => BC D κ ((fun qs : Nat → Nat => [(h0, .inr (6, [.ref jr, .ref li, .ref (qs 0), .ref (qs 1), .ref (qs 2)])), (qs 0, .inl (κ.1, 600, .inl (fun _ => -1))), (qs 1, .inl (κ.1, 40, .inl (fun _ => -1))), (qs 2, .inl (κ.1, 40, .inl (fun _ => -1)))]) qs) t ∧ va_D (va_A [(h0, .inr (6, [.null, .null, .null, .null, .null]))] sz) ((fun qs : Nat → Nat => [(h0, .inr (6, [.ref jr, .ref li, .ref (qs 0), .ref (qs 1), .ref (qs 2)])), (qs 0, .inl (κ.1, 600, .inl (fun _ => -1))), (qs 1, .inl (κ.1, 40, .inl (fun _ => -1))), (qs 2, .inl (κ.1, 40, .inl (fun _ => -1)))]) qs)) (va_A [(h0, .inr (6, [.null, .null, .null, .null, .null]))] sz)) [.ref h0, .ref jr, .ref li].toArray s 3 680 (va_A [(h0, .inr (6, [.null, .null, .null, .null, .null]))] sz)) (F0 m 61 ls [])) → ∀ (H : Heap) (locs : List Loc), BW D κ [(h0, .inr (6, [.ref jr, .ref li, .ref q1, .ref q2, .ref q3])), (q1, .inl (κ.1, 600, .inl (fill i))), (q2, .inl (κ.1, 40, .inl (fun _ => 0))), (q3, .inl (κ.1, 40, .inl (fun _ => 0)))] (va_A [(h0, .inr (6, [.null, .null, .null, .null, .null]))] sz) s H locs → ∀ ls : Array Slot, lv_has ls 4 [(3, .int (nI i)), (0, .ref h0), (1, .ref jr), (2, .ref li)] → W p l e { frames := 1, cells := 3, slots := 680, locals := 12 } s m [.ref h0, .ref jr, .ref li].toArray below meth c H locs 3 680 (MQ below (va_Qv (fun _ : Nat → Nat => True) (fun qs t => BC D κ ((fun qs : Nat → Nat => [(h0, .inr (6, [.ref jr, .ref li, .ref (qs 0), .ref (qs 1), .ref (qs 2)])), (qs 0, .inl (κ.1, 600, .inl (fun _ => -1))), (qs 1, .inl (κ.1, 40, .inl (fun _ => -1))), (qs 2, .inl (κ.1, 40, .inl (fun _ => -1)))]) qs) t ∧ va_D (va_A [(h0, .inr (6, [.null, .null, .null, .null, .null]))] sz) ((fun qs : Nat → Nat => [(h0, .inr (6, [.ref jr, .ref li, .ref (qs 0), .ref (qs 1), .ref (qs 2)])), (qs 0, .inl (κ.1, 600, .inl (fun _ => -1))), (qs 1, .inl (κ.1, 40, .inl (fun _ => -1))), (qs 2, .inl (κ.1, 40, .inl (fun _ => -1)))]) qs)) (va_A [(h0, .inr (6, [.null, .null, .null, .null, .null]))] sz)) [.ref h0, .ref jr, .ref li].toArray s 3 680 (va_A [(h0, .inr (6, [.null, .null, .null, .null, .null]))] sz)) (F0 m 41 ls []) := by
    intro n
    induction n with
    | zero =>
      intro i h1
      exact absurd h1 (Nat.not_lt_zero _)
    | succ n ih =>
      intro i h1 h2 kx H locs hG ls hl
      refine lv_iload_n hx hb dX6_init_41 rfl (lv_at hl 0 rfl) ?_
      refine lv_sipush (v := nI 600) hx hb dX6_init_42 (by decide) ?_
      refine bn_ge (tgt := 61) hx hb (by omega) (by omega) dX6_init_45 (by decide) (fun h9 => ?_) (fun h9 => ?_)
      · have hi : i = 600 := by omega
        subst hi
        exact kx H locs hG ls hl
      · refine lv_aload_n hx hb dX6_init_48 rfl (lv_at hl 1 rfl) ?_
        refine bw_get (C := RX6) (T := TX6) (N := 5) (ci := 6) (v := .ref q1) 2 (by decide) 0 hC hG iwX6 rfl rfl w105 rfl rfl dX6_init_49 ?_
        refine lv_iload_n hx hb dX6_init_52 rfl (lv_at hl 0 rfl) ?_
        refine lv_iconst (v := -1) hx hb dX6_init_53 (by decide) ?_
        refine bw_ast 1 hC hG rfl (by omega) (by decide) dX6_init_54 (fun H locs hG => ?_)
        have hG : BW D κ [(h0, .inr (6, [.ref jr, .ref li, .ref q1, .ref q2, .ref q3])), (q1, .inl (κ.1, 600, .inl (va_up (fill i) i (-1)))), (q2, .inl (κ.1, 40, .inl (fun _ => 0))), (q3, .inl (κ.1, 40, .inl (fun _ => 0)))] _ s H locs := hG
        have hG := hG.arrI 1 (g := fill (i + 1)) rfl (fun j hj => fill_s i j)
        have hG : BW D κ [(h0, .inr (6, [.ref jr, .ref li, .ref q1, .ref q2, .ref q3])), (q1, .inl (κ.1, 600, .inl (fill (i + 1)))), (q2, .inl (κ.1, 40, .inl (fun _ => 0))), (q3, .inl (κ.1, 40, .inl (fun _ => 0)))] _ s H locs := hG
        refine lv_iinc (v := nI (i + 1)) (lv' := [(3, .int (nI (i + 1))), (0, .ref h0), (1, .ref jr), (2, .ref li)]) hx hb dX6_init_55 hl (k := 0) rfl (nI_1 _) (by decide) rfl (fun ls hl => ?_)
        refine lv_goto (tgt := 41) hx hb dX6_init_58 (by decide) ?_
        exact ih (i + 1) (by omega) (by omega) kx H locs hG ls hl
  refine lp41 601 0 (by decide) (by decide) (fun H locs hG ls hl => ?_) H locs hG ls (lv_sub hl [0, 1, 2, 3] rfl)
  have hG := hG.arrI 1 (g := fun _ => -1) rfl (fun j hj => by unfold fill; rw [if_pos hj])
  have hG : BW D κ [(h0, .inr (6, [.ref jr, .ref li, .ref q1, .ref q2, .ref q3])), (q1, .inl (κ.1, 600, .inl (fun _ => -1))), (q2, .inl (κ.1, 40, .inl (fun _ => 0))), (q3, .inl (κ.1, 40, .inl (fun _ => 0)))] _ s H locs := hG
  refine lv_iconst (v := nI 0) hx hb dX6_init_61 (by decide) ?_
  refine lv_istore_n (lv' := [(3, .int (nI 0)), (0, .ref h0), (1, .ref jr), (2, .ref li)]) hx hb dX6_init_62 rfl hl (by decide) rfl (fun ls hl => ?_)
  have hG := hG.arrI 2 (g := fill 0) rfl (fun j hj => rfl)
  have hG := hG.arrI 3 (g := fill 0) rfl (fun j hj => rfl)
  have hG : BW D κ [(h0, .inr (6, [.ref jr, .ref li, .ref q1, .ref q2, .ref q3])), (q1, .inl (κ.1, 600, .inl (fun _ => -1))), (q2, .inl (κ.1, 40, .inl (fill 0))), (q3, .inl (κ.1, 40, .inl (fill 0)))] _ s H locs := hG
  have lp63 : ∀ (n i : Nat), 40 - i < n → i ≤ 40 → (∀ (H : Heap) (locs : List Loc), BW D κ [(h0, .inr (6, [.ref jr, .ref li, .ref q1, .ref q2, .ref q3])), (q1, .inl (κ.1, 600, .inl (fun _ => -1))), (q2, .inl (κ.1, 40, .inl (fill 40))), (q3, .inl (κ.1, 40, .inl (fill 40)))] (va_A [(h0, .inr (6, [.null, .null, .null, .null, .null]))] sz) s H locs → ∀ ls : Array Slot, lv_has ls 4 [(3, .int (nI 40)), (0, .ref h0), (1, .ref jr), (2, .ref li)] → W p l e { frames := 1, cells := 3, slots := 680, locals := 12 } s m [.ref h0, .ref jr, .ref li].toArray below meth c H locs 3 680 (MQ below (va_Qv (fun _ : Nat → Nat => True) (fun qs t => BC D κ ((fun qs : Nat → Nat => [(h0, .inr (6, [.ref jr, .ref li, .ref (qs 0), .ref (qs 1), .ref (qs 2)])), (qs 0, .inl (κ.1, 600, .inl (fun _ => -1))), (qs 1, .inl (κ.1, 40, .inl (fun _ => -1))), (qs 2, .inl (κ.1, 40, .inl (fun _ => -1)))]) qs) t ∧ va_D (va_A [(h0, .inr (6, [.null, .null, .null, .null, .null]))] sz) ((fun qs : Nat → Nat => [(h0, .inr (6, [.ref jr, .ref li, .ref (qs 0), .ref (qs 1), .ref (qs 2)])), (qs 0, .inl (κ.1, 600, .inl (fun _ => -1))), (qs 1, .inl (κ.1, 40, .inl (fun _ => -1))), (qs 2, .inl (κ.1, 40, .inl (fun _ => -1)))]) qs)) (va_A [(h0, .inr (6, [.null, .null, .null, .null, .null]))] sz)) [.ref h0, .ref jr, .ref li].toArray s 3 680 (va_A [(h0, .inr (6, [.null, .null, .null, .null, .null]))] sz)) (F0 m 89 ls [])) → ∀ (H : Heap) (locs : List Loc), BW D κ [(h0, .inr (6, [.ref jr, .ref li, .ref q1, .ref q2, .ref q3])), (q1, .inl (κ.1, 600, .inl (fun _ => -1))), (q2, .inl (κ.1, 40, .inl (fill i))), (q3, .inl (κ.1, 40, .inl (fill i)))] (va_A [(h0, .inr (6, [.null, .null, .null, .null, .null]))] sz) s H locs → ∀ ls : Array Slot, lv_has ls 4 [(3, .int (nI i)), (0, .ref h0), (1, .ref jr), (2, .ref li)] → W p l e { frames := 1, cells := 3, slots := 680, locals := 12 } s m [.ref h0, .ref jr, .ref li].toArray below meth c H locs 3 680 (MQ below (va_Qv (fun _ : Nat → Nat => True) (fun qs t => BC D κ ((fun qs : Nat → Nat => [(h0, .inr (6, [.ref jr, .ref li, .ref (qs 0), .ref (qs 1), .ref (qs 2)])), (qs 0, .inl (κ.1, 600, .inl (fun _ => -1))), (qs 1, .inl (κ.1, 40, .inl (fun _ => -1))), (qs 2, .inl (κ.1, 40, .inl (fun _ => -1)))]) qs) t ∧ va_D (va_A [(h0, .inr (6, [.null, .null, .null, .null, .null]))] sz) ((fun qs : Nat → Nat => [(h0, .inr (6, [.ref jr, .ref li, .ref (qs 0), .ref (qs 1), .ref (qs 2)])), (qs 0, .inl (κ.1, 600, .inl (fun _ => -1))), (qs 1, .inl (κ.1, 40, .inl (fun _ => -1))), (qs 2, .inl (κ.1, 40, .inl (fun _ => -1)))]) qs)) (va_A [(h0, .inr (6, [.null, .null, .null, .null, .null]))] sz)) [.ref h0, .ref jr, .ref li].toArray s 3 680 (va_A [(h0, .inr (6, [.null, .null, .null, .null, .null]))] sz)) (F0 m 63 ls []) := by
    intro n
    induction n with
    | zero =>
      intro i h1
      exact absurd h1 (Nat.not_lt_zero _)
    | succ n ih =>
      intro i h1 h2 kx H locs hG ls hl
      refine lv_iload_n hx hb dX6_init_63 rfl (lv_at hl 0 rfl) ?_
      refine lv_bipush (v := nI 40) hx hb dX6_init_64 (by decide) ?_
      refine bn_ge (tgt := 89) hx hb (by omega) (by omega) dX6_init_66 (by decide) (fun h9 => ?_) (fun h9 => ?_)
      · have hi : i = 40 := by omega
        subst hi
        exact kx H locs hG ls hl
      · refine lv_aload_n hx hb dX6_init_69 rfl (lv_at hl 1 rfl) ?_
        refine bw_get (C := RX6) (T := TX6) (N := 5) (ci := 6) (v := .ref q2) 3 (by decide) 0 hC hG iwX6 rfl rfl w106 rfl rfl dX6_init_70 ?_
        refine lv_iload_n hx hb dX6_init_73 rfl (lv_at hl 0 rfl) ?_
        refine lv_iconst (v := -1) hx hb dX6_init_74 (by decide) ?_
        refine bw_ast 2 hC hG rfl (by omega) (by decide) dX6_init_75 (fun H locs hG => ?_)
        have hG : BW D κ [(h0, .inr (6, [.ref jr, .ref li, .ref q1, .ref q2, .ref q3])), (q1, .inl (κ.1, 600, .inl (fun _ => -1))), (q2, .inl (κ.1, 40, .inl (va_up (fill i) i (-1)))), (q3, .inl (κ.1, 40, .inl (fill i)))] _ s H locs := hG
        refine lv_aload_n hx hb dX6_init_76 rfl (lv_at hl 1 rfl) ?_
        refine bw_get (C := RX6) (T := TX6) (N := 5) (ci := 6) (v := .ref q3) 4 (by decide) 0 hC hG iwX6 rfl rfl w107 rfl rfl dX6_init_77 ?_
        refine lv_iload_n hx hb dX6_init_80 rfl (lv_at hl 0 rfl) ?_
        refine lv_iconst (v := -1) hx hb dX6_init_81 (by decide) ?_
        refine bw_ast 3 hC hG rfl (by omega) (by decide) dX6_init_82 (fun H locs hG => ?_)
        have hG : BW D κ [(h0, .inr (6, [.ref jr, .ref li, .ref q1, .ref q2, .ref q3])), (q1, .inl (κ.1, 600, .inl (fun _ => -1))), (q2, .inl (κ.1, 40, .inl (va_up (fill i) i (-1)))), (q3, .inl (κ.1, 40, .inl (va_up (fill i) i (-1))))] _ s H locs := hG
        have hG := hG.arrI 2 (g := fill (i + 1)) rfl (fun j hj => fill_s i j)
        have hG := hG.arrI 3 (g := fill (i + 1)) rfl (fun j hj => fill_s i j)
        have hG : BW D κ [(h0, .inr (6, [.ref jr, .ref li, .ref q1, .ref q2, .ref q3])), (q1, .inl (κ.1, 600, .inl (fun _ => -1))), (q2, .inl (κ.1, 40, .inl (fill (i + 1)))), (q3, .inl (κ.1, 40, .inl (fill (i + 1))))] _ s H locs := hG
        refine lv_iinc (v := nI (i + 1)) (lv' := [(3, .int (nI (i + 1))), (0, .ref h0), (1, .ref jr), (2, .ref li)]) hx hb dX6_init_83 hl (k := 0) rfl (nI_1 _) (by decide) rfl (fun ls hl => ?_)
        refine lv_goto (tgt := 63) hx hb dX6_init_86 (by decide) ?_
        exact ih (i + 1) (by omega) (by omega) kx H locs hG ls hl
  refine lp63 41 0 (by decide) (by decide) (fun H locs hG ls hl => ?_) H locs hG ls (lv_sub hl [0, 1, 2, 3] rfl)
  have hG := hG.arrI 2 (g := fun _ => -1) rfl (fun j hj => by unfold fill; rw [if_pos hj])
  have hG := hG.arrI 3 (g := fun _ => -1) rfl (fun j hj => by unfold fill; rw [if_pos hj])
  have hG : BW D κ [(h0, .inr (6, [.ref jr, .ref li, .ref q1, .ref q2, .ref q3])), (q1, .inl (κ.1, 600, .inl (fun _ => -1))), (q2, .inl (κ.1, 40, .inl (fun _ => -1))), (q3, .inl (κ.1, 40, .inl (fun _ => -1)))] _ s H locs := hG
  exact bw_end (qs := fun k => match k with | 0 => q1 | 1 => q2 | _ => q3) hC hG rfl hr hk (by decide) (by decide) dX6_init_89

theorem dX7_init_0 : decode cX7_init 0 = .ok (.aload_n 0, 1) := by decide +kernel
theorem dX7_init_1 : decode cX7_init 1 = .ok (.invokespecial 3, 3) := by decide +kernel
theorem dX7_init_101 : decode cX7_init 101 = .ok (.dup, 1) := by decide +kernel
theorem dX7_init_102 : decode cX7_init 102 = .ok (.invokespecial 58, 3) := by decide +kernel
theorem dX7_init_105 : decode cX7_init 105 = .ok (.putfield 59, 3) := by decide +kernel
theorem dX7_init_108 : decode cX7_init 108 = .ok (.aload_n 0, 1) := by decide +kernel
theorem dX7_init_109 : decode cX7_init 109 = .ok (.iconst (-1), 1) := by decide +kernel
theorem dX7_init_110 : decode cX7_init 110 = .ok (.putfield 63, 3) := by decide +kernel
theorem dX7_init_113 : decode cX7_init 113 = .ok (.aload_n 0, 1) := by decide +kernel
theorem dX7_init_114 : decode cX7_init 114 = .ok (.iconst 0, 1) := by decide +kernel
theorem dX7_init_115 : decode cX7_init 115 = .ok (.putfield 67, 3) := by decide +kernel
theorem dX7_init_118 : decode cX7_init 118 = .ok (.return_, 1) := by decide +kernel
theorem dX7_init_12 : decode cX7_init 12 = .ok (.putfield 12, 3) := by decide +kernel
theorem dX7_init_15 : decode cX7_init 15 = .ok (.aload_n 0, 1) := by decide +kernel
theorem dX7_init_16 : decode cX7_init 16 = .ok (.new 16, 3) := by decide +kernel
theorem dX7_init_19 : decode cX7_init 19 = .ok (.dup, 1) := by decide +kernel
theorem dX7_init_20 : decode cX7_init 20 = .ok (.invokespecial 18, 3) := by decide +kernel
theorem dX7_init_23 : decode cX7_init 23 = .ok (.putfield 19, 3) := by decide +kernel
theorem dX7_init_26 : decode cX7_init 26 = .ok (.aload_n 0, 1) := by decide +kernel
theorem dX7_init_27 : decode cX7_init 27 = .ok (.new 23, 3) := by decide +kernel
theorem dX7_init_30 : decode cX7_init 30 = .ok (.dup, 1) := by decide +kernel
theorem dX7_init_31 : decode cX7_init 31 = .ok (.invokespecial 25, 3) := by decide +kernel
theorem dX7_init_34 : decode cX7_init 34 = .ok (.putfield 26, 3) := by decide +kernel
theorem dX7_init_37 : decode cX7_init 37 = .ok (.aload_n 0, 1) := by decide +kernel
theorem dX7_init_38 : decode cX7_init 38 = .ok (.new 30, 3) := by decide +kernel
theorem dX7_init_4 : decode cX7_init 4 = .ok (.aload_n 0, 1) := by decide +kernel
theorem dX7_init_41 : decode cX7_init 41 = .ok (.dup, 1) := by decide +kernel
theorem dX7_init_42 : decode cX7_init 42 = .ok (.invokespecial 32, 3) := by decide +kernel
theorem dX7_init_45 : decode cX7_init 45 = .ok (.putfield 33, 3) := by decide +kernel
theorem dX7_init_48 : decode cX7_init 48 = .ok (.aload_n 0, 1) := by decide +kernel
theorem dX7_init_49 : decode cX7_init 49 = .ok (.new 37, 3) := by decide +kernel
theorem dX7_init_5 : decode cX7_init 5 = .ok (.new 9, 3) := by decide +kernel
theorem dX7_init_52 : decode cX7_init 52 = .ok (.dup, 1) := by decide +kernel
theorem dX7_init_53 : decode cX7_init 53 = .ok (.invokespecial 39, 3) := by decide +kernel
theorem dX7_init_56 : decode cX7_init 56 = .ok (.putfield 40, 3) := by decide +kernel
theorem dX7_init_59 : decode cX7_init 59 = .ok (.aload_n 0, 1) := by decide +kernel
theorem dX7_init_60 : decode cX7_init 60 = .ok (.new 44, 3) := by decide +kernel
theorem dX7_init_63 : decode cX7_init 63 = .ok (.dup, 1) := by decide +kernel
theorem dX7_init_64 : decode cX7_init 64 = .ok (.aload_n 0, 1) := by decide +kernel
theorem dX7_init_65 : decode cX7_init 65 = .ok (.getfield 26, 3) := by decide +kernel
theorem dX7_init_68 : decode cX7_init 68 = .ok (.aload_n 0, 1) := by decide +kernel
theorem dX7_init_69 : decode cX7_init 69 = .ok (.getfield 40, 3) := by decide +kernel
theorem dX7_init_72 : decode cX7_init 72 = .ok (.invokespecial 46, 3) := by decide +kernel
theorem dX7_init_75 : decode cX7_init 75 = .ok (.putfield 49, 3) := by decide +kernel
theorem dX7_init_78 : decode cX7_init 78 = .ok (.aload_n 0, 1) := by decide +kernel
theorem dX7_init_79 : decode cX7_init 79 = .ok (.new 44, 3) := by decide +kernel
theorem dX7_init_8 : decode cX7_init 8 = .ok (.dup, 1) := by decide +kernel
theorem dX7_init_82 : decode cX7_init 82 = .ok (.dup, 1) := by decide +kernel
theorem dX7_init_83 : decode cX7_init 83 = .ok (.aload_n 0, 1) := by decide +kernel
theorem dX7_init_84 : decode cX7_init 84 = .ok (.getfield 26, 3) := by decide +kernel
theorem dX7_init_87 : decode cX7_init 87 = .ok (.aload_n 0, 1) := by decide +kernel
theorem dX7_init_88 : decode cX7_init 88 = .ok (.getfield 40, 3) := by decide +kernel
theorem dX7_init_9 : decode cX7_init 9 = .ok (.invokespecial 11, 3) := by decide +kernel
theorem dX7_init_91 : decode cX7_init 91 = .ok (.invokespecial 46, 3) := by decide +kernel
theorem dX7_init_94 : decode cX7_init 94 = .ok (.putfield 53, 3) := by decide +kernel
theorem dX7_init_97 : decode cX7_init 97 = .ok (.aload_n 0, 1) := by decide +kernel
theorem dX7_init_98 : decode cX7_init 98 = .ok (.new 56, 3) := by decide +kernel
set_option maxHeartbeats 4000000 in
set_option maxRecDepth 100000 in
theorem c_init_7 (l : Launch) (D : va_G) (κ : K4) (sz h0 : Nat) : CM l yX7_init cX7_init 1 3 52 44 4514 D κ [(RX7, 11, yX0_init), (RX7, 18, yX1_init), (RX1, 9, yX4_init), (RX7, 25, yX3_init), (RX7, 32, yX2_init), (RX7, 39, yX5_init), (RX7, 58, yX4_init)] [(h0, .inr (7, [.null, .null, .null, .null, .null, .null, .null, .null, .int 0, .int 0]))] sz [.ref h0] (fun qs : Nat → Nat => [(h0, .inr (7, [.ref (qs 0), .ref (qs 6), .ref (qs 11), .ref (qs 22), .ref (qs 27), .ref (qs 32), .ref (qs 36), .ref (qs 40), .int (-1), .int (nI 0)])), (qs 0, .inr (0, [.ref (qs 1), .ref (qs 2), .ref (qs 3), .ref (qs 4), .ref (qs 5), .int (nI 0)])), (qs 1, .inl (κ.1, 4, .inl (fun _ => nI 1000))), (qs 2, .inl (κ.1, 10, .inl (fun _ => 0))), (qs 3, .inl (κ.1, 10, .inl (fun _ => 0))), (qs 4, .inl (κ.1, 10, .inl (fun _ => 0))), (qs 5, .inl (κ.2.2.1, 10, .inl (fun _ => 0))), (qs 6, .inr (1, [.ref (qs 7), .int (bI false), .int (nI 0), .int (nI 0)])), (qs 7, .inr (4, [.ref (qs 8), .ref (qs 9), .ref (qs 10), .int (nI 0)])), (qs 8, .inl (κ.1, 10, .inl (fun _ => 0))), (qs 9, .inl (κ.2.1, 10, .inr (.inl (fun _ => 0)))), (qs 10, .inl (κ.2.1, 10, .inr (.inl (fun _ => 0)))), (qs 11, .inr (3, [.ref (qs 12), .ref (qs 13), .ref (qs 14), .ref (qs 15), .ref (qs 16), .ref (qs 17), .int (nI 0), .ref (qs 18), .ref (qs 19), .ref (qs 20), .ref (qs 21), .int (nI 0)])), (qs 12, .inl (κ.1, 60, .inl (fun _ => 0))), (qs 13, .inl (κ.1, 60, .inl (fun _ => 0))), (qs 14, .inl (κ.1, 60, .inl (fun _ => 0))), (qs 15, .inl (κ.1, 60, .inl (fun _ => 0))), (qs 16, .inl (κ.2.2.1, 60, .inl (fun _ => 0))), (qs 17, .inl (κ.2.2.1, 60, .inl (fun _ => 0))), (qs 18, .inl (κ.1, 600, .inl (fun _ => 0))), (qs 19, .inl (κ.1, 600, .inl (fun _ => 0))), (qs 20, .inl (κ.2.1, 600, .inr (.inl (fun _ => 0)))), (qs 21, .inl (κ.2.1, 600, .inr (.inl (fun _ => 0)))), (qs 22, .inr (2, [.ref (qs 23), .ref (qs 24), .ref (qs 25), .ref (qs 26), .int (nI 0)])), (qs 23, .inl (κ.1, 20, .inl (fun _ => 0))), (qs 24, .inl (κ.1, 20, .inl (fun _ => 0))), (qs 25, .inl (κ.1, 20, .inl (fun _ => 0))), (qs 26, .inl (κ.2.2.1, 20, .inl (fun _ => 0))), (qs 27, .inr (5, [.ref (qs 28), .ref (qs 29), .ref (qs 30), .ref (qs 31), .int (nI 0)])), (qs 28, .inl (κ.1, 40, .inl (fun _ => 0))), (qs 29, .inl (κ.1, 40, .inl (fun _ => 0))), (qs 30, .inl (κ.1, 40, .inl (fun _ => 0))), (qs 31, .inl (κ.1, 40, .inl (fun _ => 0))), (qs 32, .inr (6, [.ref (qs 11), .ref (qs 27), .ref (qs 33), .ref (qs 34), .ref (qs 35)])), (qs 33, .inl (κ.1, 600, .inl (fun _ => -1))), (qs 34, .inl (κ.1, 40, .inl (fun _ => -1))), (qs 35, .inl (κ.1, 40, .inl (fun _ => -1))), (qs 36, .inr (6, [.ref (qs 11), .ref (qs 27), .ref (qs 37), .ref (qs 38), .ref (qs 39)])), (qs 37, .inl (κ.1, 600, .inl (fun _ => -1))), (qs 38, .inl (κ.1, 40, .inl (fun _ => -1))), (qs 39, .inl (κ.1, 40, .inl (fun _ => -1))), (qs 40, .inr (4, [.ref (qs 41), .ref (qs 42), .ref (qs 43), .int (nI 0)])), (qs 41, .inl (κ.1, 10, .inl (fun _ => 0))), (qs 42, .inl (κ.2.1, 10, .inr (.inl (fun _ => 0)))), (qs 43, .inl (κ.2.1, 10, .inr (.inl (fun _ => 0))))]) := by
  refine CM.of (by decide +kernel) (Nat.le_of_ble_eq_true rfl) rfl ?_
  intro p e s m below meth c ls hC hr hk hin hsz hX H locs hG hl
  have hx := hC.1
  have hb := hC.2.1
  have hl : lv_has ls 1 [(0, (.ref h0))] := hl
  refine lv_aload_n hx hb dX7_init_0 rfl (lv_at hl 0 rfl) ?_
  refine bw_obj hC w10 hl.1 dX7_init_1 (by decide) (by decide) w11 w12 ?_
  refine lv_aload_n hx hb dX7_init_4 rfl (lv_at hl 0 rfl) ?_
  have hk1 : 0 + 1 ≤ 44 := by decide
  have hs1 : 0 + 6 ≤ 4514 := by decide
  refine bw_new (C := RX0) (T := TX0) (N := 6) (ci := 0) (fs := [.null, .null, .null, .null, .null, .int 0]) hC hG iwX0 tyX0_ok w13 w14 w15 rfl (fun j hj => by rcases (show j = 0 ∨ j = 1 ∨ j = 2 ∨ j = 3 ∨ j = 4 ∨ j = 5 by omega) with rfl | rfl | rfl | rfl | rfl | rfl <;> rfl) hk1 hs1 dX7_init_5 (fun q1 H hG => ?_)
  have hG : BW D κ [(h0, .inr (7, [.null, .null, .null, .null, .null, .null, .null, .null, .int 0, .int 0])), (q1, .inr (0, [.null, .null, .null, .null, .null, .int 0]))] _ s H locs := hG
  refine W.widen (k := 1) (n := 6) (by decide) (by decide) ?_
  refine lv_dup hx hb dX7_init_8 rfl ?_
  have hGc : BW D κ [(q1, .inr (0, [.null, .null, .null, .null, .null, .int 0]))] _ s H locs := hG.at [1] (by decide) rfl
  refine bw_run (wc := [(q1, .inr (0, [.null, .null, .null, .null, .null, .int 0]))]) (wr := [(h0, .inr (7, [.null, .null, .null, .null, .null, .null, .null, .null, .int 0, .int 0]))]) hG [1] [0] rfl rfl (by decide) (by decide) (va_runIN (host := "Tollgate") (As := []) (rest := [.ref q1, .ref h0]) hC (c_init_0 l D κ H.size q1 ) ⟨va_cnB 0 hC.2.2.2.2 (fun w h => by rcases List.mem_cons.mp h with rfl | h; exact wl_in _ w45; exact wl_in _ h) rfl rfl rfl (hX (RX7, 11, yX0_init) (by decide)) (hC.2.2.2.2 _ w15) (by decide +kernel) ⟨by decide, by decide⟩, rfl, hC.2.2.2.2 _ w44⟩ ⟨fun x U g mk q => ⟨q.1, q.2.1, ⟨va_K.moved (u := U) (U := U.calling g mk x) (Vm.Alike.refl U.vm) q.2.2.1.1, q.2.2.1.2⟩, XN.same rfl q.2.2.2⟩, fun U hU hW => ⟨rfl, by rw [hU], ⟨va_K.moved hW.alike hGc.1, by rw [hU]; exact hGc.2.1, hGc.2.2.1.weaken (fun _ _ _ _ => trivial)⟩, XN.warm hW hX (by decide)⟩⟩ rfl rfl hl.1 rfl (lv_room (Nat.le_of_ble_eq_true rfl)) dX7_init_9 ⟨by decide, by decide⟩) (fun z2 H locs hG => ?_)
  have hG : BW D κ [(h0, .inr (7, [.null, .null, .null, .null, .null, .null, .null, .null, .int 0, .int 0])), (q1, .inr (0, [.ref (z2 0), .ref (z2 1), .ref (z2 2), .ref (z2 3), .ref (z2 4), .int (nI 0)])), (z2 0, .inl (κ.1, 4, .inl (fun _ => nI 1000))), (z2 1, .inl (κ.1, 10, .inl (fun _ => 0))), (z2 2, .inl (κ.1, 10, .inl (fun _ => 0))), (z2 3, .inl (κ.1, 10, .inl (fun _ => 0))), (z2 4, .inl (κ.2.2.1, 10, .inl (fun _ => 0)))] _ s H locs := hG
  refine W.widen (k := 6) (n := 50) (by decide) (by decide) ?_
  refine bw_put (C := RX7) (T := TX7) (N := 10) (ci := 7) (ty0 := tyX7) (ty := .object "Tollgate$Accounts") (v := .ref q1) 0 (by decide) 0 hC hG iwX7 tyX7_ok nmX7 rfl rfl w16 rfl (Or.inr ⟨hin, rfl⟩) (by decide +kernel) rfl rfl (Nat.le_of_ble_eq_true rfl) dX7_init_12 (fun H locs hG => ?_)
  have hG : BW D κ [(h0, .inr (7, [.ref q1, .null, .null, .null, .null, .null, .null, .null, .int 0, .int 0])), (q1, .inr (0, [.ref (z2 0), .ref (z2 1), .ref (z2 2), .ref (z2 3), .ref (z2 4), .int (nI 0)])), (z2 0, .inl (κ.1, 4, .inl (fun _ => nI 1000))), (z2 1, .inl (κ.1, 10, .inl (fun _ => 0))), (z2 2, .inl (κ.1, 10, .inl (fun _ => 0))), (z2 3, .inl (κ.1, 10, .inl (fun _ => 0))), (z2 4, .inl (κ.2.2.1, 10, .inl (fun _ => 0)))] _ s H locs := hG
  refine lv_aload_n hx hb dX7_init_15 rfl (lv_at hl 0 rfl) ?_
  have hk3 : 6 + 1 ≤ 44 := by decide
  have hs3 : 50 + 4 ≤ 4514 := by decide
  refine bw_new (C := RX1) (T := TX1) (N := 4) (ci := 1) (fs := [.null, .int 0, .int 0, .int 0]) hC hG iwX1 tyX1_ok w17 w18 w19 rfl (fun j hj => by rcases (show j = 0 ∨ j = 1 ∨ j = 2 ∨ j = 3 by omega) with rfl | rfl | rfl | rfl <;> rfl) hk3 hs3 dX7_init_16 (fun q3 H hG => ?_)
  have hG : BW D κ [(h0, .inr (7, [.ref q1, .null, .null, .null, .null, .null, .null, .null, .int 0, .int 0])), (q1, .inr (0, [.ref (z2 0), .ref (z2 1), .ref (z2 2), .ref (z2 3), .ref (z2 4), .int (nI 0)])), (z2 0, .inl (κ.1, 4, .inl (fun _ => nI 1000))), (z2 1, .inl (κ.1, 10, .inl (fun _ => 0))), (z2 2, .inl (κ.1, 10, .inl (fun _ => 0))), (z2 3, .inl (κ.1, 10, .inl (fun _ => 0))), (z2 4, .inl (κ.2.2.1, 10, .inl (fun _ => 0))), (q3, .inr (1, [.null, .int 0, .int 0, .int 0]))] _ s H locs := hG
  refine W.widen (k := 7) (n := 54) (by decide) (by decide) ?_
  refine lv_dup hx hb dX7_init_19 rfl ?_
  have hGc : BW D κ [(q3, .inr (1, [.null, .int 0, .int 0, .int 0]))] _ s H locs := hG.at [7] (by decide) rfl
  refine bw_run (wc := [(q3, .inr (1, [.null, .int 0, .int 0, .int 0]))]) (wr := [(h0, .inr (7, [.ref q1, .null, .null, .null, .null, .null, .null, .null, .int 0, .int 0])), (q1, .inr (0, [.ref (z2 0), .ref (z2 1), .ref (z2 2), .ref (z2 3), .ref (z2 4), .int (nI 0)])), (z2 0, .inl (κ.1, 4, .inl (fun _ => nI 1000))), (z2 1, .inl (κ.1, 10, .inl (fun _ => 0))), (z2 2, .inl (κ.1, 10, .inl (fun _ => 0))), (z2 3, .inl (κ.1, 10, .inl (fun _ => 0))), (z2 4, .inl (κ.2.2.1, 10, .inl (fun _ => 0)))]) hG [7] [0, 1, 2, 3, 4, 5, 6] rfl rfl (by decide) (by decide) (va_runIN (host := "Tollgate") (As := []) (rest := [.ref q3, .ref h0]) hC (c_init_1 l D κ H.size q3 ) ⟨va_cnB 0 hC.2.2.2.2 (fun w h => by rcases List.mem_cons.mp h with rfl | h; exact wl_in _ w56; exact wl_in _ h) rfl rfl rfl (hX (RX7, 18, yX1_init) (by decide)) (hC.2.2.2.2 _ w19) (by decide +kernel) ⟨by decide, by decide⟩, rfl, hC.2.2.2.2 _ w55⟩ ⟨fun x U g mk q => ⟨q.1, q.2.1, ⟨va_K.moved (u := U) (U := U.calling g mk x) (Vm.Alike.refl U.vm) q.2.2.1.1, q.2.2.1.2⟩, XN.same rfl q.2.2.2⟩, fun U hU hW => ⟨rfl, by rw [hU], ⟨va_K.moved hW.alike hGc.1, by rw [hU]; exact hGc.2.1, hGc.2.2.1.weaken (fun _ _ _ _ => trivial)⟩, XN.warm hW hX (by decide)⟩⟩ rfl rfl hl.1 rfl (lv_room (Nat.le_of_ble_eq_true rfl)) dX7_init_20 ⟨by decide, by decide⟩) (fun z4 H locs hG => ?_)
  have hG : BW D κ [(h0, .inr (7, [.ref q1, .null, .null, .null, .null, .null, .null, .null, .int 0, .int 0])), (q1, .inr (0, [.ref (z2 0), .ref (z2 1), .ref (z2 2), .ref (z2 3), .ref (z2 4), .int (nI 0)])), (z2 0, .inl (κ.1, 4, .inl (fun _ => nI 1000))), (z2 1, .inl (κ.1, 10, .inl (fun _ => 0))), (z2 2, .inl (κ.1, 10, .inl (fun _ => 0))), (z2 3, .inl (κ.1, 10, .inl (fun _ => 0))), (z2 4, .inl (κ.2.2.1, 10, .inl (fun _ => 0))), (q3, .inr (1, [.ref (z4 0), .int (bI false), .int (nI 0), .int (nI 0)])), (z4 0, .inr (4, [.ref (z4 1), .ref (z4 2), .ref (z4 3), .int (nI 0)])), (z4 1, .inl (κ.1, 10, .inl (fun _ => 0))), (z4 2, .inl (κ.2.1, 10, .inr (.inl (fun _ => 0)))), (z4 3, .inl (κ.2.1, 10, .inr (.inl (fun _ => 0))))] _ s H locs := hG
  refine W.widen (k := 11) (n := 88) (by decide) (by decide) ?_
  refine bw_put (C := RX7) (T := TX7) (N := 10) (ci := 7) (ty0 := tyX7) (ty := .object "Tollgate$Draft") (v := .ref q3) 1 (by decide) 0 hC hG iwX7 tyX7_ok nmX7 rfl rfl w20 rfl (Or.inr ⟨hin, rfl⟩) (by decide +kernel) rfl rfl (Nat.le_of_ble_eq_true rfl) dX7_init_23 (fun H locs hG => ?_)
  have hG : BW D κ [(h0, .inr (7, [.ref q1, .ref q3, .null, .null, .null, .null, .null, .null, .int 0, .int 0])), (q1, .inr (0, [.ref (z2 0), .ref (z2 1), .ref (z2 2), .ref (z2 3), .ref (z2 4), .int (nI 0)])), (z2 0, .inl (κ.1, 4, .inl (fun _ => nI 1000))), (z2 1, .inl (κ.1, 10, .inl (fun _ => 0))), (z2 2, .inl (κ.1, 10, .inl (fun _ => 0))), (z2 3, .inl (κ.1, 10, .inl (fun _ => 0))), (z2 4, .inl (κ.2.2.1, 10, .inl (fun _ => 0))), (q3, .inr (1, [.ref (z4 0), .int (bI false), .int (nI 0), .int (nI 0)])), (z4 0, .inr (4, [.ref (z4 1), .ref (z4 2), .ref (z4 3), .int (nI 0)])), (z4 1, .inl (κ.1, 10, .inl (fun _ => 0))), (z4 2, .inl (κ.2.1, 10, .inr (.inl (fun _ => 0)))), (z4 3, .inl (κ.2.1, 10, .inr (.inl (fun _ => 0))))] _ s H locs := hG
  refine lv_aload_n hx hb dX7_init_26 rfl (lv_at hl 0 rfl) ?_
  have hk5 : 11 + 1 ≤ 44 := by decide
  have hs5 : 88 + 12 ≤ 4514 := by decide
  refine bw_new (C := RX3) (T := TX3) (N := 12) (ci := 3) (fs := [.null, .null, .null, .null, .null, .null, .int 0, .null, .null, .null, .null, .int 0]) hC hG iwX3 tyX3_ok w21 w22 w23 rfl (fun j hj => by rcases (show j = 0 ∨ j = 1 ∨ j = 2 ∨ j = 3 ∨ j = 4 ∨ j = 5 ∨ j = 6 ∨ j = 7 ∨ j = 8 ∨ j = 9 ∨ j = 10 ∨ j = 11 by omega) with rfl | rfl | rfl | rfl | rfl | rfl | rfl | rfl | rfl | rfl | rfl | rfl <;> rfl) hk5 hs5 dX7_init_27 (fun q5 H hG => ?_)
  have hG : BW D κ [(h0, .inr (7, [.ref q1, .ref q3, .null, .null, .null, .null, .null, .null, .int 0, .int 0])), (q1, .inr (0, [.ref (z2 0), .ref (z2 1), .ref (z2 2), .ref (z2 3), .ref (z2 4), .int (nI 0)])), (z2 0, .inl (κ.1, 4, .inl (fun _ => nI 1000))), (z2 1, .inl (κ.1, 10, .inl (fun _ => 0))), (z2 2, .inl (κ.1, 10, .inl (fun _ => 0))), (z2 3, .inl (κ.1, 10, .inl (fun _ => 0))), (z2 4, .inl (κ.2.2.1, 10, .inl (fun _ => 0))), (q3, .inr (1, [.ref (z4 0), .int (bI false), .int (nI 0), .int (nI 0)])), (z4 0, .inr (4, [.ref (z4 1), .ref (z4 2), .ref (z4 3), .int (nI 0)])), (z4 1, .inl (κ.1, 10, .inl (fun _ => 0))), (z4 2, .inl (κ.2.1, 10, .inr (.inl (fun _ => 0)))), (z4 3, .inl (κ.2.1, 10, .inr (.inl (fun _ => 0)))), (q5, .inr (3, [.null, .null, .null, .null, .null, .null, .int 0, .null, .null, .null, .null, .int 0]))] _ s H locs := hG
  refine W.widen (k := 12) (n := 100) (by decide) (by decide) ?_
  refine lv_dup hx hb dX7_init_30 rfl ?_
  have hGc : BW D κ [(q5, .inr (3, [.null, .null, .null, .null, .null, .null, .int 0, .null, .null, .null, .null, .int 0]))] _ s H locs := hG.at [12] (by decide) rfl
  refine bw_run (wc := [(q5, .inr (3, [.null, .null, .null, .null, .null, .null, .int 0, .null, .null, .null, .null, .int 0]))]) (wr := [(h0, .inr (7, [.ref q1, .ref q3, .null, .null, .null, .null, .null, .null, .int 0, .int 0])), (q1, .inr (0, [.ref (z2 0), .ref (z2 1), .ref (z2 2), .ref (z2 3), .ref (z2 4), .int (nI 0)])), (z2 0, .inl (κ.1, 4, .inl (fun _ => nI 1000))), (z2 1, .inl (κ.1, 10, .inl (fun _ => 0))), (z2 2, .inl (κ.1, 10, .inl (fun _ => 0))), (z2 3, .inl (κ.1, 10, .inl (fun _ => 0))), (z2 4, .inl (κ.2.2.1, 10, .inl (fun _ => 0))), (q3, .inr (1, [.ref (z4 0), .int (bI false), .int (nI 0), .int (nI 0)])), (z4 0, .inr (4, [.ref (z4 1), .ref (z4 2), .ref (z4 3), .int (nI 0)])), (z4 1, .inl (κ.1, 10, .inl (fun _ => 0))), (z4 2, .inl (κ.2.1, 10, .inr (.inl (fun _ => 0)))), (z4 3, .inl (κ.2.1, 10, .inr (.inl (fun _ => 0))))]) hG [12] [0, 1, 2, 3, 4, 5, 6, 7, 8, 9, 10, 11] rfl rfl (by decide) (by decide) (va_runIN (host := "Tollgate") (As := []) (rest := [.ref q5, .ref h0]) hC (c_init_3 l D κ H.size q5 ) ⟨va_cnB 0 hC.2.2.2.2 (fun w h => by rcases List.mem_cons.mp h with rfl | h; exact wl_in _ w71; exact wl_in _ h) rfl rfl rfl (hX (RX7, 25, yX3_init) (by decide)) (hC.2.2.2.2 _ w23) (by decide +kernel) ⟨by decide, by decide⟩, rfl, hC.2.2.2.2 _ w70⟩ ⟨fun x U g mk q => ⟨q.1, q.2.1, ⟨va_K.moved (u := U) (U := U.calling g mk x) (Vm.Alike.refl U.vm) q.2.2.1.1, q.2.2.1.2⟩, XN.same rfl q.2.2.2⟩, fun U hU hW => ⟨rfl, by rw [hU], ⟨va_K.moved hW.alike hGc.1, by rw [hU]; exact hGc.2.1, hGc.2.2.1.weaken (fun _ _ _ _ => trivial)⟩, XN.warm hW hX (by decide)⟩⟩ rfl rfl hl.1 rfl (lv_room (Nat.le_of_ble_eq_true rfl)) dX7_init_31 ⟨by decide, by decide⟩) (fun z6 H locs hG => ?_)
  have hG : BW D κ [(h0, .inr (7, [.ref q1, .ref q3, .null, .null, .null, .null, .null, .null, .int 0, .int 0])), (q1, .inr (0, [.ref (z2 0), .ref (z2 1), .ref (z2 2), .ref (z2 3), .ref (z2 4), .int (nI 0)])), (z2 0, .inl (κ.1, 4, .inl (fun _ => nI 1000))), (z2 1, .inl (κ.1, 10, .inl (fun _ => 0))), (z2 2, .inl (κ.1, 10, .inl (fun _ => 0))), (z2 3, .inl (κ.1, 10, .inl (fun _ => 0))), (z2 4, .inl (κ.2.2.1, 10, .inl (fun _ => 0))), (q3, .inr (1, [.ref (z4 0), .int (bI false), .int (nI 0), .int (nI 0)])), (z4 0, .inr (4, [.ref (z4 1), .ref (z4 2), .ref (z4 3), .int (nI 0)])), (z4 1, .inl (κ.1, 10, .inl (fun _ => 0))), (z4 2, .inl (κ.2.1, 10, .inr (.inl (fun _ => 0)))), (z4 3, .inl (κ.2.1, 10, .inr (.inl (fun _ => 0)))), (q5, .inr (3, [.ref (z6 0), .ref (z6 1), .ref (z6 2), .ref (z6 3), .ref (z6 4), .ref (z6 5), .int (nI 0), .ref (z6 6), .ref (z6 7), .ref (z6 8), .ref (z6 9), .int (nI 0)])), (z6 0, .inl (κ.1, 60, .inl (fun _ => 0))), (z6 1, .inl (κ.1, 60, .inl (fun _ => 0))), (z6 2, .inl (κ.1, 60, .inl (fun _ => 0))), (z6 3, .inl (κ.1, 60, .inl (fun _ => 0))), (z6 4, .inl (κ.2.2.1, 60, .inl (fun _ => 0))), (z6 5, .inl (κ.2.2.1, 60, .inl (fun _ => 0))), (z6 6, .inl (κ.1, 600, .inl (fun _ => 0))), (z6 7, .inl (κ.1, 600, .inl (fun _ => 0))), (z6 8, .inl (κ.2.1, 600, .inr (.inl (fun _ => 0)))), (z6 9, .inl (κ.2.1, 600, .inr (.inl (fun _ => 0))))] _ s H locs := hG
  refine W.widen (k := 22) (n := 2860) (by decide) (by decide) ?_
  refine bw_put (C := RX7) (T := TX7) (N := 10) (ci := 7) (ty0 := tyX7) (ty := .object "Tollgate$Journal") (v := .ref q5) 2 (by decide) 0 hC hG iwX7 tyX7_ok nmX7 rfl rfl w24 rfl (Or.inr ⟨hin, rfl⟩) (by decide +kernel) rfl rfl (Nat.le_of_ble_eq_true rfl) dX7_init_34 (fun H locs hG => ?_)
  have hG : BW D κ [(h0, .inr (7, [.ref q1, .ref q3, .ref q5, .null, .null, .null, .null, .null, .int 0, .int 0])), (q1, .inr (0, [.ref (z2 0), .ref (z2 1), .ref (z2 2), .ref (z2 3), .ref (z2 4), .int (nI 0)])), (z2 0, .inl (κ.1, 4, .inl (fun _ => nI 1000))), (z2 1, .inl (κ.1, 10, .inl (fun _ => 0))), (z2 2, .inl (κ.1, 10, .inl (fun _ => 0))), (z2 3, .inl (κ.1, 10, .inl (fun _ => 0))), (z2 4, .inl (κ.2.2.1, 10, .inl (fun _ => 0))), (q3, .inr (1, [.ref (z4 0), .int (bI false), .int (nI 0), .int (nI 0)])), (z4 0, .inr (4, [.ref (z4 1), .ref (z4 2), .ref (z4 3), .int (nI 0)])), (z4 1, .inl (κ.1, 10, .inl (fun _ => 0))), (z4 2, .inl (κ.2.1, 10, .inr (.inl (fun _ => 0)))), (z4 3, .inl (κ.2.1, 10, .inr (.inl (fun _ => 0)))), (q5, .inr (3, [.ref (z6 0), .ref (z6 1), .ref (z6 2), .ref (z6 3), .ref (z6 4), .ref (z6 5), .int (nI 0), .ref (z6 6), .ref (z6 7), .ref (z6 8), .ref (z6 9), .int (nI 0)])), (z6 0, .inl (κ.1, 60, .inl (fun _ => 0))), (z6 1, .inl (κ.1, 60, .inl (fun _ => 0))), (z6 2, .inl (κ.1, 60, .inl (fun _ => 0))), (z6 3, .inl (κ.1, 60, .inl (fun _ => 0))), (z6 4, .inl (κ.2.2.1, 60, .inl (fun _ => 0))), (z6 5, .inl (κ.2.2.1, 60, .inl (fun _ => 0))), (z6 6, .inl (κ.1, 600, .inl (fun _ => 0))), (z6 7, .inl (κ.1, 600, .inl (fun _ => 0))), (z6 8, .inl (κ.2.1, 600, .inr (.inl (fun _ => 0)))), (z6 9, .inl (κ.2.1, 600, .inr (.inl (fun _ => 0))))] _ s H locs := hG
  refine lv_aload_n hx hb dX7_init_37 rfl (lv_at hl 0 rfl) ?_
  have hk7 : 22 + 1 ≤ 44 := by decide
  have hs7 : 2860 + 5 ≤ 4514 := by decide
  refine bw_new (C := RX2) (T := TX2) (N := 5) (ci := 2) (fs := [.null, .null, .null, .null, .int 0]) hC hG iwX2 tyX2_ok w25 w26 w27 rfl (fun j hj => by rcases (show j = 0 ∨ j = 1 ∨ j = 2 ∨ j = 3 ∨ j = 4 by omega) with rfl | rfl | rfl | rfl | rfl <;> rfl) hk7 hs7 dX7_init_38 (fun q7 H hG => ?_)
  have hG : BW D κ [(h0, .inr (7, [.ref q1, .ref q3, .ref q5, .null, .null, .null, .null, .null, .int 0, .int 0])), (q1, .inr (0, [.ref (z2 0), .ref (z2 1), .ref (z2 2), .ref (z2 3), .ref (z2 4), .int (nI 0)])), (z2 0, .inl (κ.1, 4, .inl (fun _ => nI 1000))), (z2 1, .inl (κ.1, 10, .inl (fun _ => 0))), (z2 2, .inl (κ.1, 10, .inl (fun _ => 0))), (z2 3, .inl (κ.1, 10, .inl (fun _ => 0))), (z2 4, .inl (κ.2.2.1, 10, .inl (fun _ => 0))), (q3, .inr (1, [.ref (z4 0), .int (bI false), .int (nI 0), .int (nI 0)])), (z4 0, .inr (4, [.ref (z4 1), .ref (z4 2), .ref (z4 3), .int (nI 0)])), (z4 1, .inl (κ.1, 10, .inl (fun _ => 0))), (z4 2, .inl (κ.2.1, 10, .inr (.inl (fun _ => 0)))), (z4 3, .inl (κ.2.1, 10, .inr (.inl (fun _ => 0)))), (q5, .inr (3, [.ref (z6 0), .ref (z6 1), .ref (z6 2), .ref (z6 3), .ref (z6 4), .ref (z6 5), .int (nI 0), .ref (z6 6), .ref (z6 7), .ref (z6 8), .ref (z6 9), .int (nI 0)])), (z6 0, .inl (κ.1, 60, .inl (fun _ => 0))), (z6 1, .inl (κ.1, 60, .inl (fun _ => 0))), (z6 2, .inl (κ.1, 60, .inl (fun _ => 0))), (z6 3, .inl (κ.1, 60, .inl (fun _ => 0))), (z6 4, .inl (κ.2.2.1, 60, .inl (fun _ => 0))), (z6 5, .inl (κ.2.2.1, 60, .inl (fun _ => 0))), (z6 6, .inl (κ.1, 600, .inl (fun _ => 0))), (z6 7, .inl (κ.1, 600, .inl (fun _ => 0))), (z6 8, .inl (κ.2.1, 600, .inr (.inl (fun _ => 0)))), (z6 9, .inl (κ.2.1, 600, .inr (.inl (fun _ => 0)))), (q7, .inr (2, [.null, .null, .null, .null, .int 0]))] _ s H locs := hG
  refine W.widen (k := 23) (n := 2865) (by decide) (by decide) ?_
  refine lv_dup hx hb dX7_init_41 rfl ?_
  have hGc : BW D κ [(q7, .inr (2, [.null, .null, .null, .null, .int 0]))] _ s H locs := hG.at [23] (by decide) rfl
  refine bw_run (wc := [(q7, .inr (2, [.null, .null, .null, .null, .int 0]))]) (wr := [(h0, .inr (7, [.ref q1, .ref q3, .ref q5, .null, .null, .null, .null, .null, .int 0, .int 0])), (q1, .inr (0, [.ref (z2 0), .ref (z2 1), .ref (z2 2), .ref (z2 3), .ref (z2 4), .int (nI 0)])), (z2 0, .inl (κ.1, 4, .inl (fun _ => nI 1000))), (z2 1, .inl (κ.1, 10, .inl (fun _ => 0))), (z2 2, .inl (κ.1, 10, .inl (fun _ => 0))), (z2 3, .inl (κ.1, 10, .inl (fun _ => 0))), (z2 4, .inl (κ.2.2.1, 10, .inl (fun _ => 0))), (q3, .inr (1, [.ref (z4 0), .int (bI false), .int (nI 0), .int (nI 0)])), (z4 0, .inr (4, [.ref (z4 1), .ref (z4 2), .ref (z4 3), .int (nI 0)])), (z4 1, .inl (κ.1, 10, .inl (fun _ => 0))), (z4 2, .inl (κ.2.1, 10, .inr (.inl (fun _ => 0)))), (z4 3, .inl (κ.2.1, 10, .inr (.inl (fun _ => 0)))), (q5, .inr (3, [.ref (z6 0), .ref (z6 1), .ref (z6 2), .ref (z6 3), .ref (z6 4), .ref (z6 5), .int (nI 0), .ref (z6 6), .ref (z6 7), .ref (z6 8), .ref (z6 9), .int (nI 0)])), (z6 0, .inl (κ.1, 60, .inl (fun _ => 0))), (z6 1, .inl (κ.1, 60, .inl (fun _ => 0))), (z6 2, .inl (κ.1, 60, .inl (fun _ => 0))), (z6 3, .inl (κ.1, 60, .inl (fun _ => 0))), (z6 4, .inl (κ.2.2.1, 60, .inl (fun _ => 0))), (z6 5, .inl (κ.2.2.1, 60, .inl (fun _ => 0))), (z6 6, .inl (κ.1, 600, .inl (fun _ => 0))), (z6 7, .inl (κ.1, 600, .inl (fun _ => 0))), (z6 8, .inl (κ.2.1, 600, .inr (.inl (fun _ => 0)))), (z6 9, .inl (κ.2.1, 600, .inr (.inl (fun _ => 0))))]) hG [23] [0, 1, 2, 3, 4, 5, 6, 7, 8, 9, 10, 11, 12, 13, 14, 15, 16, 17, 18, 19, 20, 21, 22] rfl rfl (by decide) (by decide) (va_runIN (host := "Tollgate") (As := []) (rest := [.ref q7, .ref h0]) hC (c_init_2 l D κ H.size q7 ) ⟨va_cnB 0 hC.2.2.2.2 (fun w h => by rcases List.mem_cons.mp h with rfl | h; exact wl_in _ w86; exact wl_in _ h) rfl rfl rfl (hX (RX7, 32, yX2_init) (by decide)) (hC.2.2.2.2 _ w27) (by decide +kernel) ⟨by decide, by decide⟩, rfl, hC.2.2.2.2 _ w85⟩ ⟨fun x U g mk q => ⟨q.1, q.2.1, ⟨va_K.moved (u := U) (U := U.calling g mk x) (Vm.Alike.refl U.vm) q.2.2.1.1, q.2.2.1.2⟩, XN.same rfl q.2.2.2⟩, fun U hU hW => ⟨rfl, by rw [hU], ⟨va_K.moved hW.alike hGc.1, by rw [hU]; exact hGc.2.1, hGc.2.2.1.weaken (fun _ _ _ _ => trivial)⟩, XN.warm hW hX (by decide)⟩⟩ rfl rfl hl.1 rfl (lv_room (Nat.le_of_ble_eq_true rfl)) dX7_init_42 ⟨by decide, by decide⟩) (fun z8 H locs hG => ?_)
  have hG : BW D κ [(h0, .inr (7, [.ref q1, .ref q3, .ref q5, .null, .null, .null, .null, .null, .int 0, .int 0])), (q1, .inr (0, [.ref (z2 0), .ref (z2 1), .ref (z2 2), .ref (z2 3), .ref (z2 4), .int (nI 0)])), (z2 0, .inl (κ.1, 4, .inl (fun _ => nI 1000))), (z2 1, .inl (κ.1, 10, .inl (fun _ => 0))), (z2 2, .inl (κ.1, 10, .inl (fun _ => 0))), (z2 3, .inl (κ.1, 10, .inl (fun _ => 0))), (z2 4, .inl (κ.2.2.1, 10, .inl (fun _ => 0))), (q3, .inr (1, [.ref (z4 0), .int (bI false), .int (nI 0), .int (nI 0)])), (z4 0, .inr (4, [.ref (z4 1), .ref (z4 2), .ref (z4 3), .int (nI 0)])), (z4 1, .inl (κ.1, 10, .inl (fun _ => 0))), (z4 2, .inl (κ.2.1, 10, .inr (.inl (fun _ => 0)))), (z4 3, .inl (κ.2.1, 10, .inr (.inl (fun _ => 0)))), (q5, .inr (3, [.ref (z6 0), .ref (z6 1), .ref (z6 2), .ref (z6 3), .ref (z6 4), .ref (z6 5), .int (nI 0), .ref (z6 6), .ref (z6 7), .ref (z6 8), .ref (z6 9), .int (nI 0)])), (z6 0, .inl (κ.1, 60, .inl (fun _ => 0))), (z6 1, .inl (κ.1, 60, .inl (fun _ => 0))), (z6 2, .inl (κ.1, 60, .inl (fun _ => 0))), (z6 3, .inl (κ.1, 60, .inl (fun _ => 0))), (z6 4, .inl (κ.2.2.1, 60, .inl (fun _ => 0))), (z6 5, .inl (κ.2.2.1, 60, .inl (fun _ => 0))), (z6 6, .inl (κ.1, 600, .inl (fun _ => 0))), (z6 7, .inl (κ.1, 600, .inl (fun _ => 0))), (z6 8, .inl (κ.2.1, 600, .inr (.inl (fun _ => 0)))), (z6 9, .inl (κ.2.1, 600, .inr (.inl (fun _ => 0)))), (q7, .inr (2, [.ref (z8 0), .ref (z8 1), .ref (z8 2), .ref (z8 3), .int (nI 0)])), (z8 0, .inl (κ.1, 20, .inl (fun _ => 0))), (z8 1, .inl (κ.1, 20, .inl (fun _ => 0))), (z8 2, .inl (κ.1, 20, .inl (fun _ => 0))), (z8 3, .inl (κ.2.2.1, 20, .inl (fun _ => 0)))] _ s H locs := hG
  refine W.widen (k := 27) (n := 2945) (by decide) (by decide) ?_
  refine bw_put (C := RX7) (T := TX7) (N := 10) (ci := 7) (ty0 := tyX7) (ty := .object "Tollgate$Holds") (v := .ref q7) 3 (by decide) 0 hC hG iwX7 tyX7_ok nmX7 rfl rfl w28 rfl (Or.inr ⟨hin, rfl⟩) (by decide +kernel) rfl rfl (Nat.le_of_ble_eq_true rfl) dX7_init_45 (fun H locs hG => ?_)
  have hG : BW D κ [(h0, .inr (7, [.ref q1, .ref q3, .ref q5, .ref q7, .null, .null, .null, .null, .int 0, .int 0])), (q1, .inr (0, [.ref (z2 0), .ref (z2 1), .ref (z2 2), .ref (z2 3), .ref (z2 4), .int (nI 0)])), (z2 0, .inl (κ.1, 4, .inl (fun _ => nI 1000))), (z2 1, .inl (κ.1, 10, .inl (fun _ => 0))), (z2 2, .inl (κ.1, 10, .inl (fun _ => 0))), (z2 3, .inl (κ.1, 10, .inl (fun _ => 0))), (z2 4, .inl (κ.2.2.1, 10, .inl (fun _ => 0))), (q3, .inr (1, [.ref (z4 0), .int (bI false), .int (nI 0), .int (nI 0)])), (z4 0, .inr (4, [.ref (z4 1), .ref (z4 2), .ref (z4 3), .int (nI 0)])), (z4 1, .inl (κ.1, 10, .inl (fun _ => 0))), (z4 2, .inl (κ.2.1, 10, .inr (.inl (fun _ => 0)))), (z4 3, .inl (κ.2.1, 10, .inr (.inl (fun _ => 0)))), (q5, .inr (3, [.ref (z6 0), .ref (z6 1), .ref (z6 2), .ref (z6 3), .ref (z6 4), .ref (z6 5), .int (nI 0), .ref (z6 6), .ref (z6 7), .ref (z6 8), .ref (z6 9), .int (nI 0)])), (z6 0, .inl (κ.1, 60, .inl (fun _ => 0))), (z6 1, .inl (κ.1, 60, .inl (fun _ => 0))), (z6 2, .inl (κ.1, 60, .inl (fun _ => 0))), (z6 3, .inl (κ.1, 60, .inl (fun _ => 0))), (z6 4, .inl (κ.2.2.1, 60, .inl (fun _ => 0))), (z6 5, .inl (κ.2.2.1, 60, .inl (fun _ => 0))), (z6 6, .inl (κ.1, 600, .inl (fun _ => 0))), (z6 7, .inl (κ.1, 600, .inl (fun _ => 0))), (z6 8, .inl (κ.2.1, 600, .inr (.inl (fun _ => 0)))), (z6 9, .inl (κ.2.1, 600, .inr (.inl (fun _ => 0)))), (q7, .inr (2, [.ref (z8 0), .ref (z8 1), .ref (z8 2), .ref (z8 3), .int (nI 0)])), (z8 0, .inl (κ.1, 20, .inl (fun _ => 0))), (z8 1, .inl (κ.1, 20, .inl (fun _ => 0))), (z8 2, .inl (κ.1, 20, .inl (fun _ => 0))), (z8 3, .inl (κ.2.2.1, 20, .inl (fun _ => 0)))] _ s H locs := hG
  refine lv_aload_n hx hb dX7_init_48 rfl (lv_at hl 0 rfl) ?_
  have hk9 : 27 + 1 ≤ 44 := by decide
  have hs9 : 2945 + 5 ≤ 4514 := by decide
  refine bw_new (C := RX5) (T := TX5) (N := 5) (ci := 5) (fs := [.null, .null, .null, .null, .int 0]) hC hG iwX5 tyX5_ok w29 w30 w31 rfl (fun j hj => by rcases (show j = 0 ∨ j = 1 ∨ j = 2 ∨ j = 3 ∨ j = 4 by omega) with rfl | rfl | rfl | rfl | rfl <;> rfl) hk9 hs9 dX7_init_49 (fun q9 H hG => ?_)
  have hG : BW D κ [(h0, .inr (7, [.ref q1, .ref q3, .ref q5, .ref q7, .null, .null, .null, .null, .int 0, .int 0])), (q1, .inr (0, [.ref (z2 0), .ref (z2 1), .ref (z2 2), .ref (z2 3), .ref (z2 4), .int (nI 0)])), (z2 0, .inl (κ.1, 4, .inl (fun _ => nI 1000))), (z2 1, .inl (κ.1, 10, .inl (fun _ => 0))), (z2 2, .inl (κ.1, 10, .inl (fun _ => 0))), (z2 3, .inl (κ.1, 10, .inl (fun _ => 0))), (z2 4, .inl (κ.2.2.1, 10, .inl (fun _ => 0))), (q3, .inr (1, [.ref (z4 0), .int (bI false), .int (nI 0), .int (nI 0)])), (z4 0, .inr (4, [.ref (z4 1), .ref (z4 2), .ref (z4 3), .int (nI 0)])), (z4 1, .inl (κ.1, 10, .inl (fun _ => 0))), (z4 2, .inl (κ.2.1, 10, .inr (.inl (fun _ => 0)))), (z4 3, .inl (κ.2.1, 10, .inr (.inl (fun _ => 0)))), (q5, .inr (3, [.ref (z6 0), .ref (z6 1), .ref (z6 2), .ref (z6 3), .ref (z6 4), .ref (z6 5), .int (nI 0), .ref (z6 6), .ref (z6 7), .ref (z6 8), .ref (z6 9), .int (nI 0)])), (z6 0, .inl (κ.1, 60, .inl (fun _ => 0))), (z6 1, .inl (κ.1, 60, .inl (fun _ => 0))), (z6 2, .inl (κ.1, 60, .inl (fun _ => 0))), (z6 3, .inl (κ.1, 60, .inl (fun _ => 0))), (z6 4, .inl (κ.2.2.1, 60, .inl (fun _ => 0))), (z6 5, .inl (κ.2.2.1, 60, .inl (fun _ => 0))), (z6 6, .inl (κ.1, 600, .inl (fun _ => 0))), (z6 7, .inl (κ.1, 600, .inl (fun _ => 0))), (z6 8, .inl (κ.2.1, 600, .inr (.inl (fun _ => 0)))), (z6 9, .inl (κ.2.1, 600, .inr (.inl (fun _ => 0)))), (q7, .inr (2, [.ref (z8 0), .ref (z8 1), .ref (z8 2), .ref (z8 3), .int (nI 0)])), (z8 0, .inl (κ.1, 20, .inl (fun _ => 0))), (z8 1, .inl (κ.1, 20, .inl (fun _ => 0))), (z8 2, .inl (κ.1, 20, .inl (fun _ => 0))), (z8 3, .inl (κ.2.2.1, 20, .inl (fun _ => 0))), (q9, .inr (5, [.null, .null, .null, .null, .int 0]))] _ s H locs := hG
  refine W.widen (k := 28) (n := 2950) (by decide) (by decide) ?_
  refine lv_dup hx hb dX7_init_52 rfl ?_
  have hGc : BW D κ [(q9, .inr (5, [.null, .null, .null, .null, .int 0]))] _ s H locs := hG.at [28] (by decide) rfl
  refine bw_run (wc := [(q9, .inr (5, [.null, .null, .null, .null, .int 0]))]) (wr := [(h0, .inr (7, [.ref q1, .ref q3, .ref q5, .ref q7, .null, .null, .null, .null, .int 0, .int 0])), (q1, .inr (0, [.ref (z2 0), .ref (z2 1), .ref (z2 2), .ref (z2 3), .ref (z2 4), .int (nI 0)])), (z2 0, .inl (κ.1, 4, .inl (fun _ => nI 1000))), (z2 1, .inl (κ.1, 10, .inl (fun _ => 0))), (z2 2, .inl (κ.1, 10, .inl (fun _ => 0))), (z2 3, .inl (κ.1, 10, .inl (fun _ => 0))), (z2 4, .inl (κ.2.2.1, 10, .inl (fun _ => 0))), (q3, .inr (1, [.ref (z4 0), .int (bI false), .int (nI 0), .int (nI 0)])), (z4 0, .inr (4, [.ref (z4 1), .ref (z4 2), .ref (z4 3), .int (nI 0)])), (z4 1, .inl (κ.1, 10, .inl (fun _ => 0))), (z4 2, .inl (κ.2.1, 10, .inr (.inl (fun _ => 0)))), (z4 3, .inl (κ.2.1, 10, .inr (.inl (fun _ => 0)))), (q5, .inr (3, [.ref (z6 0), .ref (z6 1), .ref (z6 2), .ref (z6 3), .ref (z6 4), .ref (z6 5), .int (nI 0), .ref (z6 6), .ref (z6 7), .ref (z6 8), .ref (z6 9), .int (nI 0)])), (z6 0, .inl (κ.1, 60, .inl (fun _ => 0))), (z6 1, .inl (κ.1, 60, .inl (fun _ => 0))), (z6 2, .inl (κ.1, 60, .inl (fun _ => 0))), (z6 3, .inl (κ.1, 60, .inl (fun _ => 0))), (z6 4, .inl (κ.2.2.1, 60, .inl (fun _ => 0))), (z6 5, .inl (κ.2.2.1, 60, .inl (fun _ => 0))), (z6 6, .inl (κ.1, 600, .inl (fun _ => 0))), (z6 7, .inl (κ.1, 600, .inl (fun _ => 0))), (z6 8, .inl (κ.2.1, 600, .inr (.inl (fun _ => 0)))), (z6 9, .inl (κ.2.1, 600, .inr (.inl (fun _ => 0)))), (q7, .inr (2, [.ref (z8 0), .ref (z8 1), .ref (z8 2), .ref (z8 3), .int (nI 0)])), (z8 0, .inl (κ.1, 20, .inl (fun _ => 0))), (z8 1, .inl (κ.1, 20, .inl (fun _ => 0))), (z8 2, .inl (κ.1, 20, .inl (fun _ => 0))), (z8 3, .inl (κ.2.2.1, 20, .inl (fun _ => 0)))]) hG [28] [0, 1, 2, 3, 4, 5, 6, 7, 8, 9, 10, 11, 12, 13, 14, 15, 16, 17, 18, 19, 20, 21, 22, 23, 24, 25, 26, 27] rfl rfl (by decide) (by decide) (va_runIN (host := "Tollgate") (As := []) (rest := [.ref q9, .ref h0]) hC (c_init_5 l D κ H.size q9 ) ⟨va_cnB 0 hC.2.2.2.2 (fun w h => by rcases List.mem_cons.mp h with rfl | h; exact wl_in _ w94; exact wl_in _ h) rfl rfl rfl (hX (RX7, 39, yX5_init) (by decide)) (hC.2.2.2.2 _ w31) (by decide +kernel) ⟨by decide, by decide⟩, rfl, hC.2.2.2.2 _ w93⟩ ⟨fun x U g mk q => ⟨q.1, q.2.1, ⟨va_K.moved (u := U) (U := U.calling g mk x) (Vm.Alike.refl U.vm) q.2.2.1.1, q.2.2.1.2⟩, XN.same rfl q.2.2.2⟩, fun U hU hW => ⟨rfl, by rw [hU], ⟨va_K.moved hW.alike hGc.1, by rw [hU]; exact hGc.2.1, hGc.2.2.1.weaken (fun _ _ _ _ => trivial)⟩, XN.warm hW hX (by decide)⟩⟩ rfl rfl hl.1 rfl (lv_room (Nat.le_of_ble_eq_true rfl)) dX7_init_53 ⟨by decide, by decide⟩) (fun z10 H locs hG => ?_)
  have hG : BW D κ [(h0, .inr (7, [.ref q1, .ref q3, .ref q5, .ref q7, .null, .null, .null, .null, .int 0, .int 0])), (q1, .inr (0, [.ref (z2 0), .ref (z2 1), .ref (z2 2), .ref (z2 3), .ref (z2 4), .int (nI 0)])), (z2 0, .inl (κ.1, 4, .inl (fun _ => nI 1000))), (z2 1, .inl (κ.1, 10, .inl (fun _ => 0))), (z2 2, .inl (κ.1, 10, .inl (fun _ => 0))), (z2 3, .inl (κ.1, 10, .inl (fun _ => 0))), (z2 4, .inl (κ.2.2.1, 10, .inl (fun _ => 0))), (q3, .inr (1, [.ref (z4 0), .int (bI false), .int (nI 0), .int (nI 0)])), (z4 0, .inr (4, [.ref (z4 1), .ref (z4 2), .ref (z4 3), .int (nI 0)])), (z4 1, .inl (κ.1, 10, .inl (fun _ => 0))), (z4 2, .inl (κ.2.1, 10, .inr (.inl (fun _ => 0)))), (z4 3, .inl (κ.2.1, 10, .inr (.inl (fun _ => 0)))), (q5, .inr (3, [.ref (z6 0), .ref (z6 1), .ref (z6 2), .ref (z6 3), .ref (z6 4), .ref (z6 5), .int (nI 0), .ref (z6 6), .ref (z6 7), .ref (z6 8), .ref (z6 9), .int (nI 0)])), (z6 0, .inl (κ.1, 60, .inl (fun _ => 0))), (z6 1, .inl (κ.1, 60, .inl (fun _ => 0))), (z6 2, .inl (κ.1, 60, .inl (fun _ => 0))), (z6 3, .inl (κ.1, 60, .inl (fun _ => 0))), (z6 4, .inl (κ.2.2.1, 60, .inl (fun _ => 0))), (z6 5, .inl (κ.2.2.1, 60, .inl (fun _ => 0))), (z6 6, .inl (κ.1, 600, .inl (fun _ => 0))), (z6 7, .inl (κ.1, 600, .inl (fun _ => 0))), (z6 8, .inl (κ.2.1, 600, .inr (.inl (fun _ => 0)))), (z6 9, .inl (κ.2.1, 600, .inr (.inl (fun _ => 0)))), (q7, .inr (2, [.ref (z8 0), .ref (z8 1), .ref (z8 2), .ref (z8 3), .int (nI 0)])), (z8 0, .inl (κ.1, 20, .inl (fun _ => 0))), (z8 1, .inl (κ.1, 20, .inl (fun _ => 0))), (z8 2, .inl (κ.1, 20, .inl (fun _ => 0))), (z8 3, .inl (κ.2.2.1, 20, .inl (fun _ => 0))), (q9, .inr (5, [.ref (z10 0), .ref (z10 1), .ref (z10 2), .ref (z10 3), .int (nI 0)])), (z10 0, .inl (κ.1, 40, .inl (fun _ => 0))), (z10 1, .inl (κ.1, 40, .inl (fun _ => 0))), (z10 2, .inl (κ.1, 40, .inl (fun _ => 0))), (z10 3, .inl (κ.1, 40, .inl (fun _ => 0)))] _ s H locs := hG
  refine W.widen (k := 32) (n := 3110) (by decide) (by decide) ?_
  refine bw_put (C := RX7) (T := TX7) (N := 10) (ci := 7) (ty0 := tyX7) (ty := .object "Tollgate$Lines") (v := .ref q9) 4 (by decide) 0 hC hG iwX7 tyX7_ok nmX7 rfl rfl w32 rfl (Or.inr ⟨hin, rfl⟩) (by decide +kernel) rfl rfl (Nat.le_of_ble_eq_true rfl) dX7_init_56 (fun H locs hG => ?_)
  have hG : BW D κ [(h0, .inr (7, [.ref q1, .ref q3, .ref q5, .ref q7, .ref q9, .null, .null, .null, .int 0, .int 0])), (q1, .inr (0, [.ref (z2 0), .ref (z2 1), .ref (z2 2), .ref (z2 3), .ref (z2 4), .int (nI 0)])), (z2 0, .inl (κ.1, 4, .inl (fun _ => nI 1000))), (z2 1, .inl (κ.1, 10, .inl (fun _ => 0))), (z2 2, .inl (κ.1, 10, .inl (fun _ => 0))), (z2 3, .inl (κ.1, 10, .inl (fun _ => 0))), (z2 4, .inl (κ.2.2.1, 10, .inl (fun _ => 0))), (q3, .inr (1, [.ref (z4 0), .int (bI false), .int (nI 0), .int (nI 0)])), (z4 0, .inr (4, [.ref (z4 1), .ref (z4 2), .ref (z4 3), .int (nI 0)])), (z4 1, .inl (κ.1, 10, .inl (fun _ => 0))), (z4 2, .inl (κ.2.1, 10, .inr (.inl (fun _ => 0)))), (z4 3, .inl (κ.2.1, 10, .inr (.inl (fun _ => 0)))), (q5, .inr (3, [.ref (z6 0), .ref (z6 1), .ref (z6 2), .ref (z6 3), .ref (z6 4), .ref (z6 5), .int (nI 0), .ref (z6 6), .ref (z6 7), .ref (z6 8), .ref (z6 9), .int (nI 0)])), (z6 0, .inl (κ.1, 60, .inl (fun _ => 0))), (z6 1, .inl (κ.1, 60, .inl (fun _ => 0))), (z6 2, .inl (κ.1, 60, .inl (fun _ => 0))), (z6 3, .inl (κ.1, 60, .inl (fun _ => 0))), (z6 4, .inl (κ.2.2.1, 60, .inl (fun _ => 0))), (z6 5, .inl (κ.2.2.1, 60, .inl (fun _ => 0))), (z6 6, .inl (κ.1, 600, .inl (fun _ => 0))), (z6 7, .inl (κ.1, 600, .inl (fun _ => 0))), (z6 8, .inl (κ.2.1, 600, .inr (.inl (fun _ => 0)))), (z6 9, .inl (κ.2.1, 600, .inr (.inl (fun _ => 0)))), (q7, .inr (2, [.ref (z8 0), .ref (z8 1), .ref (z8 2), .ref (z8 3), .int (nI 0)])), (z8 0, .inl (κ.1, 20, .inl (fun _ => 0))), (z8 1, .inl (κ.1, 20, .inl (fun _ => 0))), (z8 2, .inl (κ.1, 20, .inl (fun _ => 0))), (z8 3, .inl (κ.2.2.1, 20, .inl (fun _ => 0))), (q9, .inr (5, [.ref (z10 0), .ref (z10 1), .ref (z10 2), .ref (z10 3), .int (nI 0)])), (z10 0, .inl (κ.1, 40, .inl (fun _ => 0))), (z10 1, .inl (κ.1, 40, .inl (fun _ => 0))), (z10 2, .inl (κ.1, 40, .inl (fun _ => 0))), (z10 3, .inl (κ.1, 40, .inl (fun _ => 0)))] _ s H locs := hG
  refine lv_aload_n hx hb dX7_init_59 rfl (lv_at hl 0 rfl) ?_
  have hk11 : 32 + 1 ≤ 44 := by decide
  have hs11 : 3110 + 5 ≤ 4514 := by decide
  refine bw_new (C := RX6) (T := TX6) (N := 5) (ci := 6) (fs := [.null, .null, .null, .null, .null]) hC hG iwX6 tyX6_ok w33 w34 w35 rfl (fun j hj => by rcases (show j = 0 ∨ j = 1 ∨ j = 2 ∨ j = 3 ∨ j = 4 by omega) with rfl | rfl | rfl | rfl | rfl <;> rfl) hk11 hs11 dX7_init_60 (fun q11 H hG => ?_)
  have hG : BW D κ [(h0, .inr (7, [.ref q1, .ref q3, .ref q5, .ref q7, .ref q9, .null, .null, .null, .int 0, .int 0])), (q1, .inr (0, [.ref (z2 0), .ref (z2 1), .ref (z2 2), .ref (z2 3), .ref (z2 4), .int (nI 0)])), (z2 0, .inl (κ.1, 4, .inl (fun _ => nI 1000))), (z2 1, .inl (κ.1, 10, .inl (fun _ => 0))), (z2 2, .inl (κ.1, 10, .inl (fun _ => 0))), (z2 3, .inl (κ.1, 10, .inl (fun _ => 0))), (z2 4, .inl (κ.2.2.1, 10, .inl (fun _ => 0))), (q3, .inr (1, [.ref (z4 0), .int (bI false), .int (nI 0), .int (nI 0)])), (z4 0, .inr (4, [.ref (z4 1), .ref (z4 2), .ref (z4 3), .int (nI 0)])), (z4 1, .inl (κ.1, 10, .inl (fun _ => 0))), (z4 2, .inl (κ.2.1, 10, .inr (.inl (fun _ => 0)))), (z4 3, .inl (κ.2.1, 10, .inr (.inl (fun _ => 0)))), (q5, .inr (3, [.ref (z6 0), .ref (z6 1), .ref (z6 2), .ref (z6 3), .ref (z6 4), .ref (z6 5), .int (nI 0), .ref (z6 6), .ref (z6 7), .ref (z6 8), .ref (z6 9), .int (nI 0)])), (z6 0, .inl (κ.1, 60, .inl (fun _ => 0))), (z6 1, .inl (κ.1, 60, .inl (fun _ => 0))), (z6 2, .inl (κ.1, 60, .inl (fun _ => 0))), (z6 3, .inl (κ.1, 60, .inl (fun _ => 0))), (z6 4, .inl (κ.2.2.1, 60, .inl (fun _ => 0))), (z6 5, .inl (κ.2.2.1, 60, .inl (fun _ => 0))), (z6 6, .inl (κ.1, 600, .inl (fun _ => 0))), (z6 7, .inl (κ.1, 600, .inl (fun _ => 0))), (z6 8, .inl (κ.2.1, 600, .inr (.inl (fun _ => 0)))), (z6 9, .inl (κ.2.1, 600, .inr (.inl (fun _ => 0)))), (q7, .inr (2, [.ref (z8 0), .ref (z8 1), .ref (z8 2), .ref (z8 3), .int (nI 0)])), (z8 0, .inl (κ.1, 20, .inl (fun _ => 0))), (z8 1, .inl (κ.1, 20, .inl (fun _ => 0))), (z8 2, .inl (κ.1, 20, .inl (fun _ => 0))), (z8 3, .inl (κ.2.2.1, 20, .inl (fun _ => 0))), (q9, .inr (5, [.ref (z10 0), .ref (z10 1), .ref (z10 2), .ref (z10 3), .int (nI 0)])), (z10 0, .inl (κ.1, 40, .inl (fun _ => 0))), (z10 1, .inl (κ.1, 40, .inl (fun _ => 0))), (z10 2, .inl (κ.1, 40, .inl (fun _ => 0))), (z10 3, .inl (κ.1, 40, .inl (fun _ => 0))), (q11, .inr (6, [.null, .null, .null, .null, .null]))] _ s H locs := hG
  refine W.widen (k := 33) (n := 3115) (by decide) (by decide) ?_
  refine lv_dup hx hb dX7_init_63 rfl ?_
  refine lv_aload_n hx hb dX7_init_64 rfl (lv_at hl 0 rfl) ?_
  refine bw_get (C := RX7) (T := TX7) (N := 10) (ci := 7) (v := .ref q5) 2 (by decide) 0 hC hG iwX7 rfl rfl w24 rfl rfl dX7_init_65 ?_
  refine lv_aload_n hx hb dX7_init_68 rfl (lv_at hl 0 rfl) ?_
  refine bw_get (C := RX7) (T := TX7) (N := 10) (ci := 7) (v := .ref q9) 4 (by decide) 0 hC hG iwX7 rfl rfl w32 rfl rfl dX7_init_69 ?_
  have hGc : BW D κ [(q11, .inr (6, [.null, .null, .null, .null, .null]))] _ s H locs := hG.at [33] (by decide) rfl
  refine bw_run (wc := [(q11, .inr (6, [.null, .null, .null, .null, .null]))]) (wr := [(h0, .inr (7, [.ref q1, .ref q3, .ref q5, .ref q7, .ref q9, .null, .null, .null, .int 0, .int 0])), (q1, .inr (0, [.ref (z2 0), .ref (z2 1), .ref (z2 2), .ref (z2 3), .ref (z2 4), .int (nI 0)])), (z2 0, .inl (κ.1, 4, .inl (fun _ => nI 1000))), (z2 1, .inl (κ.1, 10, .inl (fun _ => 0))), (z2 2, .inl (κ.1, 10, .inl (fun _ => 0))), (z2 3, .inl (κ.1, 10, .inl (fun _ => 0))), (z2 4, .inl (κ.2.2.1, 10, .inl (fun _ => 0))), (q3, .inr (1, [.ref (z4 0), .int (bI false), .int (nI 0), .int (nI 0)])), (z4 0, .inr (4, [.ref (z4 1), .ref (z4 2), .ref (z4 3), .int (nI 0)])), (z4 1, .inl (κ.1, 10, .inl (fun _ => 0))), (z4 2, .inl (κ.2.1, 10, .inr (.inl (fun _ => 0)))), (z4 3, .inl (κ.2.1, 10, .inr (.inl (fun _ => 0)))), (q5, .inr (3, [.ref (z6 0), .ref (z6 1), .ref (z6 2), .ref (z6 3), .ref (z6 4), .ref (z6 5), .int (nI 0), .ref (z6 6), .ref (z6 7), .ref (z6 8), .ref (z6 9), .int (nI 0)])), (z6 0, .inl (κ.1, 60, .inl (fun _ => 0))), (z6 1, .inl (κ.1, 60, .inl (fun _ => 0))), (z6 2, .inl (κ.1, 60, .inl (fun _ => 0))), (z6 3, .inl (κ.1, 60, .inl (fun _ => 0))), (z6 4, .inl (κ.2.2.1, 60, .inl (fun _ => 0))), (z6 5, .inl (κ.2.2.1, 60, .inl (fun _ => 0))), (z6 6, .inl (κ.1, 600, .inl (fun _ => 0))), (z6 7, .inl (κ.1, 600, .inl (fun _ => 0))), (z6 8, .inl (κ.2.1, 600, .inr (.inl (fun _ => 0)))), (z6 9, .inl (κ.2.1, 600, .inr (.inl (fun _ => 0)))), (q7, .inr (2, [.ref (z8 0), .ref (z8 1), .ref (z8 2), .ref (z8 3), .int (nI 0)])), (z8 0, .inl (κ.1, 20, .inl (fun _ => 0))), (z8 1, .inl (κ.1, 20, .inl (fun _ => 0))), (z8 2, .inl (κ.1, 20, .inl (fun _ => 0))), (z8 3, .inl (κ.2.2.1, 20, .inl (fun _ => 0))), (q9, .inr (5, [.ref (z10 0), .ref (z10 1), .ref (z10 2), .ref (z10 3), .int (nI 0)])), (z10 0, .inl (κ.1, 40, .inl (fun _ => 0))), (z10 1, .inl (κ.1, 40, .inl (fun _ => 0))), (z10 2, .inl (κ.1, 40, .inl (fun _ => 0))), (z10 3, .inl (κ.1, 40, .inl (fun _ => 0)))]) hG [33] [0, 1, 2, 3, 4, 5, 6, 7, 8, 9, 10, 11, 12, 13, 14, 15, 16, 17, 18, 19, 20, 21, 22, 23, 24, 25, 26, 27, 28, 29, 30, 31, 32] rfl rfl (by decide) (by decide) (va_runI (As := [.ref q5, .ref q9]) (rest := [.ref q11, .ref h0]) hC (c_init_6 l D κ H.size q11 q5 q9) (cwI 2 hC.2.2.2.2 (fun w h => by rcases List.mem_cons.mp h with rfl | h; exact wl_in _ w103; exact wl_in _ h) rfl rfl rfl (hC.2.2.2.2 _ w35) (hC.2.2.2.2 _ w101) (hC.2.2.2.2 _ w102) rfl (by decide +kernel) ⟨by decide, by decide⟩) ⟨fun x U g mk q => ⟨q.1, q.2.1, ⟨va_K.moved (u := U) (U := U.calling g mk x) (Vm.Alike.refl U.vm) q.2.2.1.1, q.2.2.1.2⟩, XN.same rfl q.2.2.2⟩, fun U hU hW => ⟨rfl, by rw [hU], ⟨va_K.moved hW.alike hGc.1, by rw [hU]; exact hGc.2.1, hGc.2.2.1.weaken (fun _ _ _ _ => trivial)⟩, XN.warm hW hX (by decide)⟩⟩ rfl rfl hl.1 rfl (lv_room (Nat.le_of_ble_eq_true rfl)) dX7_init_72 ⟨by decide, by decide⟩) (fun z12 H locs hG => ?_)
  have hG : BW D κ [(h0, .inr (7, [.ref q1, .ref q3, .ref q5, .ref q7, .ref q9, .null, .null, .null, .int 0, .int 0])), (q1, .inr (0, [.ref (z2 0), .ref (z2 1), .ref (z2 2), .ref (z2 3), .ref (z2 4), .int (nI 0)])), (z2 0, .inl (κ.1, 4, .inl (fun _ => nI 1000))), (z2 1, .inl (κ.1, 10, .inl (fun _ => 0))), (z2 2, .inl (κ.1, 10, .inl (fun _ => 0))), (z2 3, .inl (κ.1, 10, .inl (fun _ => 0))), (z2 4, .inl (κ.2.2.1, 10, .inl (fun _ => 0))), (q3, .inr (1, [.ref (z4 0), .int (bI false), .int (nI 0), .int (nI 0)])), (z4 0, .inr (4, [.ref (z4 1), .ref (z4 2), .ref (z4 3), .int (nI 0)])), (z4 1, .inl (κ.1, 10, .inl (fun _ => 0))), (z4 2, .inl (κ.2.1, 10, .inr (.inl (fun _ => 0)))), (z4 3, .inl (κ.2.1, 10, .inr (.inl (fun _ => 0)))), (q5, .inr (3, [.ref (z6 0), .ref (z6 1), .ref (z6 2), .ref (z6 3), .ref (z6 4), .ref (z6 5), .int (nI 0), .ref (z6 6), .ref (z6 7), .ref (z6 8), .ref (z6 9), .int (nI 0)])), (z6 0, .inl (κ.1, 60, .inl (fun _ => 0))), (z6 1, .inl (κ.1, 60, .inl (fun _ => 0))), (z6 2, .inl (κ.1, 60, .inl (fun _ => 0))), (z6 3, .inl (κ.1, 60, .inl (fun _ => 0))), (z6 4, .inl (κ.2.2.1, 60, .inl (fun _ => 0))), (z6 5, .inl (κ.2.2.1, 60, .inl (fun _ => 0))), (z6 6, .inl (κ.1, 600, .inl (fun _ => 0))), (z6 7, .inl (κ.1, 600, .inl (fun _ => 0))), (z6 8, .inl (κ.2.1, 600, .inr (.inl (fun _ => 0)))), (z6 9, .inl (κ.2.1, 600, .inr (.inl (fun _ => 0)))), (q7, .inr (2, [.ref (z8 0), .ref (z8 1), .ref (z8 2), .ref (z8 3), .int (nI 0)])), (z8 0, .inl (κ.1, 20, .inl (fun _ => 0))), (z8 1, .inl (κ.1, 20, .inl (fun _ => 0))), (z8 2, .inl (κ.1, 20, .inl (fun _ => 0))), (z8 3, .inl (κ.2.2.1, 20, .inl (fun _ => 0))), (q9, .inr (5, [.ref (z10 0), .ref (z10 1), .ref (z10 2), .ref (z10 3), .int (nI 0)])), (z10 0, .inl (κ.1, 40, .inl (fun _ => 0))), (z10 1, .inl (κ.1, 40, .inl (fun _ => 0))), (z10 2, .inl (κ.1, 40, .inl (fun _ => 0))), (z10 3, .inl (κ.1, 40, .inl (fun _ => 0))), (q11, .inr (6, [.ref q5, .ref q9, .ref (z12 0), .ref (z12 1), .ref (z12 2)])), (z12 0, .inl (κ.1, 600, .inl (fun _ => -1))), (z12 1, .inl (κ.1, 40, .inl (fun _ => -1))), (z12 2, .inl (κ.1, 40, .inl (fun _ => -1)))] _ s H locs := hG
  refine W.widen (k := 36) (n := 3795) (by decide) (by decide) ?_
  refine bw_put (C := RX7) (T := TX7) (N := 10) (ci := 7) (ty0 := tyX7) (ty := .object "Tollgate$Matching") (v := .ref q11) 5 (by decide) 0 hC hG iwX7 tyX7_ok nmX7 rfl rfl w36 rfl (Or.inr ⟨hin, rfl⟩) (by decide +kernel) rfl rfl (Nat.le_of_ble_eq_true rfl) dX7_init_75 (fun H locs hG => ?_)
  have hG : BW D κ [(h0, .inr (7, [.ref q1, .ref q3, .ref q5, .ref q7, .ref q9, .ref q11, .null, .null, .int 0, .int 0])), (q1, .inr (0, [.ref (z2 0), .ref (z2 1), .ref (z2 2), .ref (z2 3), .ref (z2 4), .int (nI 0)])), (z2 0, .inl (κ.1, 4, .inl (fun _ => nI 1000))), (z2 1, .inl (κ.1, 10, .inl (fun _ => 0))), (z2 2, .inl (κ.1, 10, .inl (fun _ => 0))), (z2 3, .inl (κ.1, 10, .inl (fun _ => 0))), (z2 4, .inl (κ.2.2.1, 10, .inl (fun _ => 0))), (q3, .inr (1, [.ref (z4 0), .int (bI false), .int (nI 0), .int (nI 0)])), (z4 0, .inr (4, [.ref (z4 1), .ref (z4 2), .ref (z4 3), .int (nI 0)])), (z4 1, .inl (κ.1, 10, .inl (fun _ => 0))), (z4 2, .inl (κ.2.1, 10, .inr (.inl (fun _ => 0)))), (z4 3, .inl (κ.2.1, 10, .inr (.inl (fun _ => 0)))), (q5, .inr (3, [.ref (z6 0), .ref (z6 1), .ref (z6 2), .ref (z6 3), .ref (z6 4), .ref (z6 5), .int (nI 0), .ref (z6 6), .ref (z6 7), .ref (z6 8), .ref (z6 9), .int (nI 0)])), (z6 0, .inl (κ.1, 60, .inl (fun _ => 0))), (z6 1, .inl (κ.1, 60, .inl (fun _ => 0))), (z6 2, .inl (κ.1, 60, .inl (fun _ => 0))), (z6 3, .inl (κ.1, 60, .inl (fun _ => 0))), (z6 4, .inl (κ.2.2.1, 60, .inl (fun _ => 0))), (z6 5, .inl (κ.2.2.1, 60, .inl (fun _ => 0))), (z6 6, .inl (κ.1, 600, .inl (fun _ => 0))), (z6 7, .inl (κ.1, 600, .inl (fun _ => 0))), (z6 8, .inl (κ.2.1, 600, .inr (.inl (fun _ => 0)))), (z6 9, .inl (κ.2.1, 600, .inr (.inl (fun _ => 0)))), (q7, .inr (2, [.ref (z8 0), .ref (z8 1), .ref (z8 2), .ref (z8 3), .int (nI 0)])), (z8 0, .inl (κ.1, 20, .inl (fun _ => 0))), (z8 1, .inl (κ.1, 20, .inl (fun _ => 0))), (z8 2, .inl (κ.1, 20, .inl (fun _ => 0))), (z8 3, .inl (κ.2.2.1, 20, .inl (fun _ => 0))), (q9, .inr (5, [.ref (z10 0), .ref (z10 1), .ref (z10 2), .ref (z10 3), .int (nI 0)])), (z10 0, .inl (κ.1, 40, .inl (fun _ => 0))), (z10 1, .inl (κ.1, 40, .inl (fun _ => 0))), (z10 2, .inl (κ.1, 40, .inl (fun _ => 0))), (z10 3, .inl (κ.1, 40, .inl (fun _ => 0))), (q11, .inr (6, [.ref q5, .ref q9, .ref (z12 0), .ref (z12 1), .ref (z12 2)])), (z12 0, .inl (κ.1, 600, .inl (fun _ => -1))), (z12 1, .inl (κ.1, 40, .inl (fun _ => -1))), (z12 2, .inl (κ.1, 40, .inl (fun _ => -1)))] _ s H locs := hG
  refine lv_aload_n hx hb dX7_init_78 rfl (lv_at hl 0 rfl) ?_
  have hk13 : 36 + 1 ≤ 44 := by decide
  have hs13 : 3795 + 5 ≤ 4514 := by decide
  refine bw_new (C := RX6) (T := TX6) (N := 5) (ci := 6) (fs := [.null, .null, .null, .null, .null]) hC hG iwX6 tyX6_ok w33 w34 w35 rfl (fun j hj => by rcases (show j = 0 ∨ j = 1 ∨ j = 2 ∨ j = 3 ∨ j = 4 by omega) with rfl | rfl | rfl | rfl | rfl <;> rfl) hk13 hs13 dX7_init_79 (fun q13 H hG => ?_)
  have hG : BW D κ [(h0, .inr (7, [.ref q1, .ref q3, .ref q5, .ref q7, .ref q9, .ref q11, .null, .null, .int 0, .int 0])), (q1, .inr (0, [.ref (z2 0), .ref (z2 1), .ref (z2 2), .ref (z2 3), .ref (z2 4), .int (nI 0)])), (z2 0, .inl (κ.1, 4, .inl (fun _ => nI 1000))), (z2 1, .inl (κ.1, 10, .inl (fun _ => 0))), (z2 2, .inl (κ.1, 10, .inl (fun _ => 0))), (z2 3, .inl (κ.1, 10, .inl (fun _ => 0))), (z2 4, .inl (κ.2.2.1, 10, .inl (fun _ => 0))), (q3, .inr (1, [.ref (z4 0), .int (bI false), .int (nI 0), .int (nI 0)])), (z4 0, .inr (4, [.ref (z4 1), .ref (z4 2), .ref (z4 3), .int (nI 0)])), (z4 1, .inl (κ.1, 10, .inl (fun _ => 0))), (z4 2, .inl (κ.2.1, 10, .inr (.inl (fun _ => 0)))), (z4 3, .inl (κ.2.1, 10, .inr (.inl (fun _ => 0)))), (q5, .inr (3, [.ref (z6 0), .ref (z6 1), .ref (z6 2), .ref (z6 3), .ref (z6 4), .ref (z6 5), .int (nI 0), .ref (z6 6), .ref (z6 7), .ref (z6 8), .ref (z6 9), .int (nI 0)])), (z6 0, .inl (κ.1, 60, .inl (fun _ => 0))), (z6 1, .inl (κ.1, 60, .inl (fun _ => 0))), (z6 2, .inl (κ.1, 60, .inl (fun _ => 0))), (z6 3, .inl (κ.1, 60, .inl (fun _ => 0))), (z6 4, .inl (κ.2.2.1, 60, .inl (fun _ => 0))), (z6 5, .inl (κ.2.2.1, 60, .inl (fun _ => 0))), (z6 6, .inl (κ.1, 600, .inl (fun _ => 0))), (z6 7, .inl (κ.1, 600, .inl (fun _ => 0))), (z6 8, .inl (κ.2.1, 600, .inr (.inl (fun _ => 0)))), (z6 9, .inl (κ.2.1, 600, .inr (.inl (fun _ => 0)))), (q7, .inr (2, [.ref (z8 0), .ref (z8 1), .ref (z8 2), .ref (z8 3), .int (nI 0)])), (z8 0, .inl (κ.1, 20, .inl (fun _ => 0))), (z8 1, .inl (κ.1, 20, .inl (fun _ => 0))), (z8 2, .inl (κ.1, 20, .inl (fun _ => 0))), (z8 3, .inl (κ.2.2.1, 20, .inl (fun _ => 0))), (q9, .inr (5, [.ref (z10 0), .ref (z10 1), .ref (z10 2), .ref (z10 3), .int (nI 0)])), (z10 0, .inl (κ.1, 40, .inl (fun _ => 0))), (z10 1, .inl (κ.1, 40, .inl (fun _ => 0))), (z10 2, .inl (κ.1, 40, .inl (fun _ => 0))), (z10 3, .inl (κ.1, 40, .inl (fun _ => 0))), (q11, .inr (6, [.ref q5, .ref q9, .ref (z12 0), .ref (z12 1), .ref (z12 2)])), (z12 0, .inl (κ.1, 600, .inl (fun _ => -1))), (z12 1, .inl (κ.1, 40, .inl (fun _ => -1))), (z12 2, .inl (κ.1, 40, .inl (fun _ => -1))), (q13, .inr (6, [.null, .null, .null, .null, .null]))] _ s H locs := hG
  refine W.widen (k := 37) (n := 3800) (by decide) (by decide) ?_
  refine lv_dup hx hb dX7_init_82 rfl ?_
  refine lv_aload_n hx hb dX7_init_83 rfl (lv_at hl 0 rfl) ?_
  refine bw_get (C := RX7) (T := TX7) (N := 10) (ci := 7) (v := .ref q5) 2 (by decide) 0 hC hG iwX7 rfl rfl w24 rfl rfl dX7_init_84 ?_
  refine lv_aload_n hx hb dX7_init_87 rfl (lv_at hl 0 rfl) ?_
  refine bw_get (C := RX7) (T := TX7) (N := 10) (ci := 7) (v := .ref q9) 4 (by decide) 0 hC hG iwX7 rfl rfl w32 rfl rfl dX7_init_88 ?_
  have hGc : BW D κ [(q13, .inr (6, [.null, .null, .null, .null, .null]))] _ s H locs := hG.at [37] (by decide) rfl
  refine bw_run (wc := [(q13, .inr (6, [.null, .null, .null, .null, .null]))]) (wr := [(h0, .inr (7, [.ref q1, .ref q3, .ref q5, .ref q7, .ref q9, .ref q11, .null, .null, .int 0, .int 0])), (q1, .inr (0, [.ref (z2 0), .ref (z2 1), .ref (z2 2), .ref (z2 3), .ref (z2 4), .int (nI 0)])), (z2 0, .inl (κ.1, 4, .inl (fun _ => nI 1000))), (z2 1, .inl (κ.1, 10, .inl (fun _ => 0))), (z2 2, .inl (κ.1, 10, .inl (fun _ => 0))), (z2 3, .inl (κ.1, 10, .inl (fun _ => 0))), (z2 4, .inl (κ.2.2.1, 10, .inl (fun _ => 0))), (q3, .inr (1, [.ref (z4 0), .int (bI false), .int (nI 0), .int (nI 0)])), (z4 0, .inr (4, [.ref (z4 1), .ref (z4 2), .ref (z4 3), .int (nI 0)])), (z4 1, .inl (κ.1, 10, .inl (fun _ => 0))), (z4 2, .inl (κ.2.1, 10, .inr (.inl (fun _ => 0)))), (z4 3, .inl (κ.2.1, 10, .inr (.inl (fun _ => 0)))), (q5, .inr (3, [.ref (z6 0), .ref (z6 1), .ref (z6 2), .ref (z6 3), .ref (z6 4), .ref (z6 5), .int (nI 0), .ref (z6 6), .ref (z6 7), .ref (z6 8), .ref (z6 9), .int (nI 0)])), (z6 0, .inl (κ.1, 60, .inl (fun _ => 0))), (z6 1, .inl (κ.1, 60, .inl (fun _ => 0))), (z6 2, .inl (κ.1, 60, .inl (fun _ => 0))), (z6 3, .inl (κ.1, 60, .inl (fun _ => 0))), (z6 4, .inl (κ.2.2.1, 60, .inl (fun _ => 0))), (z6 5, .inl (κ.2.2.1, 60, .inl (fun _ => 0))), (z6 6, .inl (κ.1, 600, .inl (fun _ => 0))), (z6 7, .inl (κ.1, 600, .inl (fun _ => 0))), (z6 8, .inl (κ.2.1, 600, .inr (.inl (fun _ => 0)))), (z6 9, .inl (κ.2.1, 600, .inr (.inl (fun _ => 0)))), (q7, .inr (2, [.ref (z8 0), .ref (z8 1), .ref (z8 2), .ref (z8 3), .int (nI 0)])), (z8 0, .inl (κ.1, 20, .inl (fun _ => 0))), (z8 1, .inl (κ.1, 20, .inl (fun _ => 0))), (z8 2, .inl (κ.1, 20, .inl (fun _ => 0))), (z8 3, .inl (κ.2.2.1, 20, .inl (fun _ => 0))), (q9, .inr (5, [.ref (z10 0), .ref (z10 1), .ref (z10 2), .ref (z10 3), .int (nI 0)])), (z10 0, .inl (κ.1, 40, .inl (fun _ => 0))), (z10 1, .inl (κ.1, 40, .inl (fun _ => 0))), (z10 2, .inl (κ.1, 40, .inl (fun _ => 0))), (z10 3, .inl (κ.1, 40, .inl (fun _ => 0))), (q11, .inr (6, [.ref q5, .ref q9, .ref (z12 0), .ref (z12 1), .ref (z12 2)])), (z12 0, .inl (κ.1, 600, .inl (fun _ => -1))), (z12 1, .inl (κ.1, 40, .inl (fun _ => -1))), (z12 2, .inl (κ.1, 40, .inl (fun _ => -1)))]) hG [37] [0, 1, 2, 3, 4, 5, 6, 7, 8, 9, 10, 11, 12, 13, 14, 15, 16, 17, 18, 19, 20, 21, 22, 23, 24, 25, 26, 27, 28, 29, 30, 31, 32, 33, 34, 35, 36] rfl rfl (by decide) (by decide) (va_runI (As := [.ref q5, .ref q9]) (rest := [.ref q13, .ref h0]) hC (c_init_6 l D κ H.size q13 q5 q9) (cwI 2 hC.2.2.2.2 (fun w h => by rcases List.mem_cons.mp h with rfl | h; exact wl_in _ w103; exact wl_in _ h) rfl rfl rfl (hC.2.2.2.2 _ w35) (hC.2.2.2.2 _ w101) (hC.2.2.2.2 _ w102) rfl (by decide +kernel) ⟨by decide, by decide⟩) ⟨fun x U g mk q => ⟨q.1, q.2.1, ⟨va_K.moved (u := U) (U := U.calling g mk x) (Vm.Alike.refl U.vm) q.2.2.1.1, q.2.2.1.2⟩, XN.same rfl q.2.2.2⟩, fun U hU hW => ⟨rfl, by rw [hU], ⟨va_K.moved hW.alike hGc.1, by rw [hU]; exact hGc.2.1, hGc.2.2.1.weaken (fun _ _ _ _ => trivial)⟩, XN.warm hW hX (by decide)⟩⟩ rfl rfl hl.1 rfl (lv_room (Nat.le_of_ble_eq_true rfl)) dX7_init_91 ⟨by decide, by decide⟩) (fun z14 H locs hG => ?_)
  have hG : BW D κ [(h0, .inr (7, [.ref q1, .ref q3, .ref q5, .ref q7, .ref q9, .ref q11, .null, .null, .int 0, .int 0])), (q1, .inr (0, [.ref (z2 0), .ref (z2 1), .ref (z2 2), .ref (z2 3), .ref (z2 4), .int (nI 0)])), (z2 0, .inl (κ.1, 4, .inl (fun _ => nI 1000))), (z2 1, .inl (κ.1, 10, .inl (fun _ => 0))), (z2 2, .inl (κ.1, 10, .inl (fun _ => 0))), (z2 3, .inl (κ.1, 10, .inl (fun _ => 0))), (z2 4, .inl (κ.2.2.1, 10, .inl (fun _ => 0))), (q3, .inr (1, [.ref (z4 0), .int (bI false), .int (nI 0), .int (nI 0)])), (z4 0, .inr (4, [.ref (z4 1), .ref (z4 2), .ref (z4 3), .int (nI 0)])), (z4 1, .inl (κ.1, 10, .inl (fun _ => 0))), (z4 2, .inl (κ.2.1, 10, .inr (.inl (fun _ => 0)))), (z4 3, .inl (κ.2.1, 10, .inr (.inl (fun _ => 0)))), (q5, .inr (3, [.ref (z6 0), .ref (z6 1), .ref (z6 2), .ref (z6 3), .ref (z6 4), .ref (z6 5), .int (nI 0), .ref (z6 6), .ref (z6 7), .ref (z6 8), .ref (z6 9), .int (nI 0)])), (z6 0, .inl (κ.1, 60, .inl (fun _ => 0))), (z6 1, .inl (κ.1, 60, .inl (fun _ => 0))), (z6 2, .inl (κ.1, 60, .inl (fun _ => 0))), (z6 3, .inl (κ.1, 60, .inl (fun _ => 0))), (z6 4, .inl (κ.2.2.1, 60, .inl (fun _ => 0))), (z6 5, .inl (κ.2.2.1, 60, .inl (fun _ => 0))), (z6 6, .inl (κ.1, 600, .inl (fun _ => 0))), (z6 7, .inl (κ.1, 600, .inl (fun _ => 0))), (z6 8, .inl (κ.2.1, 600, .inr (.inl (fun _ => 0)))), (z6 9, .inl (κ.2.1, 600, .inr (.inl (fun _ => 0)))), (q7, .inr (2, [.ref (z8 0), .ref (z8 1), .ref (z8 2), .ref (z8 3), .int (nI 0)])), (z8 0, .inl (κ.1, 20, .inl (fun _ => 0))), (z8 1, .inl (κ.1, 20, .inl (fun _ => 0))), (z8 2, .inl (κ.1, 20, .inl (fun _ => 0))), (z8 3, .inl (κ.2.2.1, 20, .inl (fun _ => 0))), (q9, .inr (5, [.ref (z10 0), .ref (z10 1), .ref (z10 2), .ref (z10 3), .int (nI 0)])), (z10 0, .inl (κ.1, 40, .inl (fun _ => 0))), (z10 1, .inl (κ.1, 40, .inl (fun _ => 0))), (z10 2, .inl (κ.1, 40, .inl (fun _ => 0))), (z10 3, .inl (κ.1, 40, .inl (fun _ => 0))), (q11, .inr (6, [.ref q5, .ref q9, .ref (z12 0), .ref (z12 1), .ref (z12 2)])), (z12 0, .inl (κ.1, 600, .inl (fun _ => -1))), (z12 1, .inl (κ.1, 40, .inl (fun _ => -1))), (z12 2, .inl (κ.1, 40, .inl (fun _ => -1))), (q13, .inr (6, [.ref q5, .ref q9, .ref (z14 0), .ref (z14 1), .ref (z14 2)])), (z14 0, .inl (κ.1, 600, .inl (fun _ => -1))), (z14 1, .inl (κ.1, 40, .inl (fun _ => -1))), (z14 2, .inl (κ.1, 40, .inl (fun _ => -1)))] _ s H locs := hG
  refine W.widen (k := 40) (n := 4480) (by decide) (by decide) ?_
  refine bw_put (C := RX7) (T := TX7) (N := 10) (ci := 7) (ty0 := tyX7) (ty := .object "Tollgate$Matching") (v := .ref q13) 6 (by decide) 0 hC hG iwX7 tyX7_ok nmX7 rfl rfl w37 rfl (Or.inr ⟨hin, rfl⟩) (by decide +kernel) rfl rfl (Nat.le_of_ble_eq_true rfl) dX7_init_94 (fun H locs hG => ?_)
  have hG : BW D κ [(h0, .inr (7, [.ref q1, .ref q3, .ref q5, .ref q7, .ref q9, .ref q11, .ref q13, .null, .int 0, .int 0])), (q1, .inr (0, [.ref (z2 0), .ref (z2 1), .ref (z2 2), .ref (z2 3), .ref (z2 4), .int (nI 0)])), (z2 0, .inl (κ.1, 4, .inl (fun _ => nI 1000))), (z2 1, .inl (κ.1, 10, .inl (fun _ => 0))), (z2 2, .inl (κ.1, 10, .inl (fun _ => 0))), (z2 3, .inl (κ.1, 10, .inl (fun _ => 0))), (z2 4, .inl (κ.2.2.1, 10, .inl (fun _ => 0))), (q3, .inr (1, [.ref (z4 0), .int (bI false), .int (nI 0), .int (nI 0)])), (z4 0, .inr (4, [.ref (z4 1), .ref (z4 2), .ref (z4 3), .int (nI 0)])), (z4 1, .inl (κ.1, 10, .inl (fun _ => 0))), (z4 2, .inl (κ.2.1, 10, .inr (.inl (fun _ => 0)))), (z4 3, .inl (κ.2.1, 10, .inr (.inl (fun _ => 0)))), (q5, .inr (3, [.ref (z6 0), .ref (z6 1), .ref (z6 2), .ref (z6 3), .ref (z6 4), .ref (z6 5), .int (nI 0), .ref (z6 6), .ref (z6 7), .ref (z6 8), .ref (z6 9), .int (nI 0)])), (z6 0, .inl (κ.1, 60, .inl (fun _ => 0))), (z6 1, .inl (κ.1, 60, .inl (fun _ => 0))), (z6 2, .inl (κ.1, 60, .inl (fun _ => 0))), (z6 3, .inl (κ.1, 60, .inl (fun _ => 0))), (z6 4, .inl (κ.2.2.1, 60, .inl (fun _ => 0))), (z6 5, .inl (κ.2.2.1, 60, .inl (fun _ => 0))), (z6 6, .inl (κ.1, 600, .inl (fun _ => 0))), (z6 7, .inl (κ.1, 600, .inl (fun _ => 0))), (z6 8, .inl (κ.2.1, 600, .inr (.inl (fun _ => 0)))), (z6 9, .inl (κ.2.1, 600, .inr (.inl (fun _ => 0)))), (q7, .inr (2, [.ref (z8 0), .ref (z8 1), .ref (z8 2), .ref (z8 3), .int (nI 0)])), (z8 0, .inl (κ.1, 20, .inl (fun _ => 0))), (z8 1, .inl (κ.1, 20, .inl (fun _ => 0))), (z8 2, .inl (κ.1, 20, .inl (fun _ => 0))), (z8 3, .inl (κ.2.2.1, 20, .inl (fun _ => 0))), (q9, .inr (5, [.ref (z10 0), .ref (z10 1), .ref (z10 2), .ref (z10 3), .int (nI 0)])), (z10 0, .inl (κ.1, 40, .inl (fun _ => 0))), (z10 1, .inl (κ.1, 40, .inl (fun _ => 0))), (z10 2, .inl (κ.1, 40, .inl (fun _ => 0))), (z10 3, .inl (κ.1, 40, .inl (fun _ => 0))), (q11, .inr (6, [.ref q5, .ref q9, .ref (z12 0), .ref (z12 1), .ref (z12 2)])), (z12 0, .inl (κ.1, 600, .inl (fun _ => -1))), (z12 1, .inl (κ.1, 40, .inl (fun _ => -1))), (z12 2, .inl (κ.1, 40, .inl (fun _ => -1))), (q13, .inr (6, [.ref q5, .ref q9, .ref (z14 0), .ref (z14 1), .ref (z14 2)])), (z14 0, .inl (κ.1, 600, .inl (fun _ => -1))), (z14 1, .inl (κ.1, 40, .inl (fun _ => -1))), (z14 2, .inl (κ.1, 40, .inl (fun _ => -1)))] _ s H locs := hG
  refine lv_aload_n hx hb dX7_init_97 rfl (lv_at hl 0 rfl) ?_
  have hk15 : 40 + 1 ≤ 44 := by decide
  have hs15 : 4480 + 4 ≤ 4514 := by decide
  refine bw_new (C := RX4) (T := TX4) (N := 4) (ci := 4) (fs := [.null, .null, .null, .int 0]) hC hG iwX4 tyX4_ok w38 w39 w40 rfl (fun j hj => by rcases (show j = 0 ∨ j = 1 ∨ j = 2 ∨ j = 3 by omega) with rfl | rfl | rfl | rfl <;> rfl) hk15 hs15 dX7_init_98 (fun q15 H hG => ?_)
  have hG : BW D κ [(h0, .inr (7, [.ref q1, .ref q3, .ref q5, .ref q7, .ref q9, .ref q11, .ref q13, .null, .int 0, .int 0])), (q1, .inr (0, [.ref (z2 0), .ref (z2 1), .ref (z2 2), .ref (z2 3), .ref (z2 4), .int (nI 0)])), (z2 0, .inl (κ.1, 4, .inl (fun _ => nI 1000))), (z2 1, .inl (κ.1, 10, .inl (fun _ => 0))), (z2 2, .inl (κ.1, 10, .inl (fun _ => 0))), (z2 3, .inl (κ.1, 10, .inl (fun _ => 0))), (z2 4, .inl (κ.2.2.1, 10, .inl (fun _ => 0))), (q3, .inr (1, [.ref (z4 0), .int (bI false), .int (nI 0), .int (nI 0)])), (z4 0, .inr (4, [.ref (z4 1), .ref (z4 2), .ref (z4 3), .int (nI 0)])), (z4 1, .inl (κ.1, 10, .inl (fun _ => 0))), (z4 2, .inl (κ.2.1, 10, .inr (.inl (fun _ => 0)))), (z4 3, .inl (κ.2.1, 10, .inr (.inl (fun _ => 0)))), (q5, .inr (3, [.ref (z6 0), .ref (z6 1), .ref (z6 2), .ref (z6 3), .ref (z6 4), .ref (z6 5), .int (nI 0), .ref (z6 6), .ref (z6 7), .ref (z6 8), .ref (z6 9), .int (nI 0)])), (z6 0, .inl (κ.1, 60, .inl (fun _ => 0))), (z6 1, .inl (κ.1, 60, .inl (fun _ => 0))), (z6 2, .inl (κ.1, 60, .inl (fun _ => 0))), (z6 3, .inl (κ.1, 60, .inl (fun _ => 0))), (z6 4, .inl (κ.2.2.1, 60, .inl (fun _ => 0))), (z6 5, .inl (κ.2.2.1, 60, .inl (fun _ => 0))), (z6 6, .inl (κ.1, 600, .inl (fun _ => 0))), (z6 7, .inl (κ.1, 600, .inl (fun _ => 0))), (z6 8, .inl (κ.2.1, 600, .inr (.inl (fun _ => 0)))), (z6 9, .inl (κ.2.1, 600, .inr (.inl (fun _ => 0)))), (q7, .inr (2, [.ref (z8 0), .ref (z8 1), .ref (z8 2), .ref (z8 3), .int (nI 0)])), (z8 0, .inl (κ.1, 20, .inl (fun _ => 0))), (z8 1, .inl (κ.1, 20, .inl (fun _ => 0))), (z8 2, .inl (κ.1, 20, .inl (fun _ => 0))), (z8 3, .inl (κ.2.2.1, 20, .inl (fun _ => 0))), (q9, .inr (5, [.ref (z10 0), .ref (z10 1), .ref (z10 2), .ref (z10 3), .int (nI 0)])), (z10 0, .inl (κ.1, 40, .inl (fun _ => 0))), (z10 1, .inl (κ.1, 40, .inl (fun _ => 0))), (z10 2, .inl (κ.1, 40, .inl (fun _ => 0))), (z10 3, .inl (κ.1, 40, .inl (fun _ => 0))), (q11, .inr (6, [.ref q5, .ref q9, .ref (z12 0), .ref (z12 1), .ref (z12 2)])), (z12 0, .inl (κ.1, 600, .inl (fun _ => -1))), (z12 1, .inl (κ.1, 40, .inl (fun _ => -1))), (z12 2, .inl (κ.1, 40, .inl (fun _ => -1))), (q13, .inr (6, [.ref q5, .ref q9, .ref (z14 0), .ref (z14 1), .ref (z14 2)])), (z14 0, .inl (κ.1, 600, .inl (fun _ => -1))), (z14 1, .inl (κ.1, 40, .inl (fun _ => -1))), (z14 2, .inl (κ.1, 40, .inl (fun _ => -1))), (q15, .inr (4, [.null, .null, .null, .int 0]))] _ s H locs := hG
  refine W.widen (k := 41) (n := 4484) (by decide) (by decide) ?_
  refine lv_dup hx hb dX7_init_101 rfl ?_
  have hGc : BW D κ [(q15, .inr (4, [.null, .null, .null, .int 0]))] _ s H locs := hG.at [41] (by decide) rfl
  refine bw_run (wc := [(q15, .inr (4, [.null, .null, .null, .int 0]))]) (wr := [(h0, .inr (7, [.ref q1, .ref q3, .ref q5, .ref q7, .ref q9, .ref q11, .ref q13, .null, .int 0, .int 0])), (q1, .inr (0, [.ref (z2 0), .ref (z2 1), .ref (z2 2), .ref (z2 3), .ref (z2 4), .int (nI 0)])), (z2 0, .inl (κ.1, 4, .inl (fun _ => nI 1000))), (z2 1, .inl (κ.1, 10, .inl (fun _ => 0))), (z2 2, .inl (κ.1, 10, .inl (fun _ => 0))), (z2 3, .inl (κ.1, 10, .inl (fun _ => 0))), (z2 4, .inl (κ.2.2.1, 10, .inl (fun _ => 0))), (q3, .inr (1, [.ref (z4 0), .int (bI false), .int (nI 0), .int (nI 0)])), (z4 0, .inr (4, [.ref (z4 1), .ref (z4 2), .ref (z4 3), .int (nI 0)])), (z4 1, .inl (κ.1, 10, .inl (fun _ => 0))), (z4 2, .inl (κ.2.1, 10, .inr (.inl (fun _ => 0)))), (z4 3, .inl (κ.2.1, 10, .inr (.inl (fun _ => 0)))), (q5, .inr (3, [.ref (z6 0), .ref (z6 1), .ref (z6 2), .ref (z6 3), .ref (z6 4), .ref (z6 5), .int (nI 0), .ref (z6 6), .ref (z6 7), .ref (z6 8), .ref (z6 9), .int (nI 0)])), (z6 0, .inl (κ.1, 60, .inl (fun _ => 0))), (z6 1, .inl (κ.1, 60, .inl (fun _ => 0))), (z6 2, .inl (κ.1, 60, .inl (fun _ => 0))), (z6 3, .inl (κ.1, 60, .inl (fun _ => 0))), (z6 4, .inl (κ.2.2.1, 60, .inl (fun _ => 0))), (z6 5, .inl (κ.2.2.1, 60, .inl (fun _ => 0))), (z6 6, .inl (κ.1, 600, .inl (fun _ => 0))), (z6 7, .inl (κ.1, 600, .inl (fun _ => 0))), (z6 8, .inl (κ.2.1, 600, .inr (.inl (fun _ => 0)))), (z6 9, .inl (κ.2.1, 600, .inr (.inl (fun _ => 0)))), (q7, .inr (2, [.ref (z8 0), .ref (z8 1), .ref (z8 2), .ref (z8 3), .int (nI 0)])), (z8 0, .inl (κ.1, 20, .inl (fun _ => 0))), (z8 1, .inl (κ.1, 20, .inl (fun _ => 0))), (z8 2, .inl (κ.1, 20, .inl (fun _ => 0))), (z8 3, .inl (κ.2.2.1, 20, .inl (fun _ => 0))), (q9, .inr (5, [.ref (z10 0), .ref (z10 1), .ref (z10 2), .ref (z10 3), .int (nI 0)])), (z10 0, .inl (κ.1, 40, .inl (fun _ => 0))), (z10 1, .inl (κ.1, 40, .inl (fun _ => 0))), (z10 2, .inl (κ.1, 40, .inl (fun _ => 0))), (z10 3, .inl (κ.1, 40, .inl (fun _ => 0))), (q11, .inr (6, [.ref q5, .ref q9, .ref (z12 0), .ref (z12 1), .ref (z12 2)])), (z12 0, .inl (κ.1, 600, .inl (fun _ => -1))), (z12 1, .inl (κ.1, 40, .inl (fun _ => -1))), (z12 2, .inl (κ.1, 40, .inl (fun _ => -1))), (q13, .inr (6, [.ref q5, .ref q9, .ref (z14 0), .ref (z14 1), .ref (z14 2)])), (z14 0, .inl (κ.1, 600, .inl (fun _ => -1))), (z14 1, .inl (κ.1, 40, .inl (fun _ => -1))), (z14 2, .inl (κ.1, 40, .inl (fun _ => -1)))]) hG [41] [0, 1, 2, 3, 4, 5, 6, 7, 8, 9, 10, 11, 12, 13, 14, 15, 16, 17, 18, 19, 20, 21, 22, 23, 24, 25, 26, 27, 28, 29, 30, 31, 32, 33, 34, 35, 36, 37, 38, 39, 40] rfl rfl (by decide) (by decide) (va_runIN (host := "Tollgate") (As := []) (rest := [.ref q15, .ref h0]) hC (c_init_4 l D κ H.size q15 ) ⟨va_cnB 0 hC.2.2.2.2 (fun w h => by rcases List.mem_cons.mp h with rfl | h; exact wl_in _ w64; exact wl_in _ h) rfl rfl rfl (hX (RX7, 58, yX4_init) (by decide)) (hC.2.2.2.2 _ w40) (by decide +kernel) ⟨by decide, by decide⟩, rfl, hC.2.2.2.2 _ w63⟩ ⟨fun x U g mk q => ⟨q.1, q.2.1, ⟨va_K.moved (u := U) (U := U.calling g mk x) (Vm.Alike.refl U.vm) q.2.2.1.1, q.2.2.1.2⟩, XN.same rfl q.2.2.2⟩, fun U hU hW => ⟨rfl, by rw [hU], ⟨va_K.moved hW.alike hGc.1, by rw [hU]; exact hGc.2.1, hGc.2.2.1.weaken (fun _ _ _ _ => trivial)⟩, XN.warm hW hX (by decide)⟩⟩ rfl rfl hl.1 rfl (lv_room (Nat.le_of_ble_eq_true rfl)) dX7_init_102 ⟨by decide, by decide⟩) (fun z16 H locs hG => ?_)
  have hG : BW D κ [(h0, .inr (7, [.ref q1, .ref q3, .ref q5, .ref q7, .ref q9, .ref q11, .ref q13, .null, .int 0, .int 0])), (q1, .inr (0, [.ref (z2 0), .ref (z2 1), .ref (z2 2), .ref (z2 3), .ref (z2 4), .int (nI 0)])), (z2 0, .inl (κ.1, 4, .inl (fun _ => nI 1000))), (z2 1, .inl (κ.1, 10, .inl (fun _ => 0))), (z2 2, .inl (κ.1, 10, .inl (fun _ => 0))), (z2 3, .inl (κ.1, 10, .inl (fun _ => 0))), (z2 4, .inl (κ.2.2.1, 10, .inl (fun _ => 0))), (q3, .inr (1, [.ref (z4 0), .int (bI false), .int (nI 0), .int (nI 0)])), (z4 0, .inr (4, [.ref (z4 1), .ref (z4 2), .ref (z4 3), .int (nI 0)])), (z4 1, .inl (κ.1, 10, .inl (fun _ => 0))), (z4 2, .inl (κ.2.1, 10, .inr (.inl (fun _ => 0)))), (z4 3, .inl (κ.2.1, 10, .inr (.inl (fun _ => 0)))), (q5, .inr (3, [.ref (z6 0), .ref (z6 1), .ref (z6 2), .ref (z6 3), .ref (z6 4), .ref (z6 5), .int (nI 0), .ref (z6 6), .ref (z6 7), .ref (z6 8), .ref (z6 9), .int (nI 0)])), (z6 0, .inl (κ.1, 60, .inl (fun _ => 0))), (z6 1, .inl (κ.1, 60, .inl (fun _ => 0))), (z6 2, .inl (κ.1, 60, .inl (fun _ => 0))), (z6 3, .inl (κ.1, 60, .inl (fun _ => 0))), (z6 4, .inl (κ.2.2.1, 60, .inl (fun _ => 0))), (z6 5, .inl (κ.2.2.1, 60, .inl (fun _ => 0))), (z6 6, .inl (κ.1, 600, .inl (fun _ => 0))), (z6 7, .inl (κ.1, 600, .inl (fun _ => 0))), (z6 8, .inl (κ.2.1, 600, .inr (.inl (fun _ => 0)))), (z6 9, .inl (κ.2.1, 600, .inr (.inl (fun _ => 0)))), (q7, .inr (2, [.ref (z8 0), .ref (z8 1), .ref (z8 2), .ref (z8 3), .int (nI 0)])), (z8 0, .inl (κ.1, 20, .inl (fun _ => 0))), (z8 1, .inl (κ.1, 20, .inl (fun _ => 0))), (z8 2, .inl (κ.1, 20, .inl (fun _ => 0))), (z8 3, .inl (κ.2.2.1, 20, .inl (fun _ => 0))), (q9, .inr (5, [.ref (z10 0), .ref (z10 1), .ref (z10 2), .ref (z10 3), .int (nI 0)])), (z10 0, .inl (κ.1, 40, .inl (fun _ => 0))), (z10 1, .inl (κ.1, 40, .inl (fun _ => 0))), (z10 2, .inl (κ.1, 40, .inl (fun _ => 0))), (z10 3, .inl (κ.1, 40, .inl (fun _ => 0))), (q11, .inr (6, [.ref q5, .ref q9, .ref (z12 0), .ref (z12 1), .ref (z12 2)])), (z12 0, .inl (κ.1, 600, .inl (fun _ => -1))), (z12 1, .inl (κ.1, 40, .inl (fun _ => -1))), (z12 2, .inl (κ.1, 40, .inl (fun _ => -1))), (q13, .inr (6, [.ref q5, .ref q9, .ref (z14 0), .ref (z14 1), .ref (z14 2)])), (z14 0, .inl (κ.1, 600, .inl (fun _ => -1))), (z14 1, .inl (κ.1, 40, .inl (fun _ => -1))), (z14 2, .inl (κ.1, 40, .inl (fun _ => -1))), (q15, .inr (4, [.ref (z16 0), .ref (z16 1), .ref (z16 2), .int (nI 0)])), (z16 0, .inl (κ.1, 10, .inl (fun _ => 0))), (z16 1, .inl (κ.2.1, 10, .inr (.inl (fun _ => 0)))), (z16 2, .inl (κ.2.1, 10, .inr (.inl (fun _ => 0))))] _ s H locs := hG
  refine W.widen (k := 44) (n := 4514) (by decide) (by decide) ?_
  refine bw_put (C := RX7) (T := TX7) (N := 10) (ci := 7) (ty0 := tyX7) (ty := .object "Tollgate$LegRow") (v := .ref q15) 7 (by decide) 0 hC hG iwX7 tyX7_ok nmX7 rfl rfl w41 rfl (Or.inr ⟨hin, rfl⟩) (by decide +kernel) rfl rfl (Nat.le_of_ble_eq_true rfl) dX7_init_105 (fun H locs hG => ?_)
  have hG : BW D κ [(h0, .inr (7, [.ref q1, .ref q3, .ref q5, .ref q7, .ref q9, .ref q11, .ref q13, .ref q15, .int 0, .int 0])), (q1, .inr (0, [.ref (z2 0), .ref (z2 1), .ref (z2 2), .ref (z2 3), .ref (z2 4), .int (nI 0)])), (z2 0, .inl (κ.1, 4, .inl (fun _ => nI 1000))), (z2 1, .inl (κ.1, 10, .inl (fun _ => 0))), (z2 2, .inl (κ.1, 10, .inl (fun _ => 0))), (z2 3, .inl (κ.1, 10, .inl (fun _ => 0))), (z2 4, .inl (κ.2.2.1, 10, .inl (fun _ => 0))), (q3, .inr (1, [.ref (z4 0), .int (bI false), .int (nI 0), .int (nI 0)])), (z4 0, .inr (4, [.ref (z4 1), .ref (z4 2), .ref (z4 3), .int (nI 0)])), (z4 1, .inl (κ.1, 10, .inl (fun _ => 0))), (z4 2, .inl (κ.2.1, 10, .inr (.inl (fun _ => 0)))), (z4 3, .inl (κ.2.1, 10, .inr (.inl (fun _ => 0)))), (q5, .inr (3, [.ref (z6 0), .ref (z6 1), .ref (z6 2), .ref (z6 3), .ref (z6 4), .ref (z6 5), .int (nI 0), .ref (z6 6), .ref (z6 7), .ref (z6 8), .ref (z6 9), .int (nI 0)])), (z6 0, .inl (κ.1, 60, .inl (fun _ => 0))), (z6 1, .inl (κ.1, 60, .inl (fun _ => 0))), (z6 2, .inl (κ.1, 60, .inl (fun _ => 0))), (z6 3, .inl (κ.1, 60, .inl (fun _ => 0))), (z6 4, .inl (κ.2.2.1, 60, .inl (fun _ => 0))), (z6 5, .inl (κ.2.2.1, 60, .inl (fun _ => 0))), (z6 6, .inl (κ.1, 600, .inl (fun _ => 0))), (z6 7, .inl (κ.1, 600, .inl (fun _ => 0))), (z6 8, .inl (κ.2.1, 600, .inr (.inl (fun _ => 0)))), (z6 9, .inl (κ.2.1, 600, .inr (.inl (fun _ => 0)))), (q7, .inr (2, [.ref (z8 0), .ref (z8 1), .ref (z8 2), .ref (z8 3), .int (nI 0)])), (z8 0, .inl (κ.1, 20, .inl (fun _ => 0))), (z8 1, .inl (κ.1, 20, .inl (fun _ => 0))), (z8 2, .inl (κ.1, 20, .inl (fun _ => 0))), (z8 3, .inl (κ.2.2.1, 20, .inl (fun _ => 0))), (q9, .inr (5, [.ref (z10 0), .ref (z10 1), .ref (z10 2), .ref (z10 3), .int (nI 0)])), (z10 0, .inl (κ.1, 40, .inl (fun _ => 0))), (z10 1, .inl (κ.1, 40, .inl (fun _ => 0))), (z10 2, .inl (κ.1, 40, .inl (fun _ => 0))), (z10 3, .inl (κ.1, 40, .inl (fun _ => 0))), (q11, .inr (6, [.ref q5, .ref q9, .ref (z12 0), .ref (z12 1), .ref (z12 2)])), (z12 0, .inl (κ.1, 600, .inl (fun _ => -1))), (z12 1, .inl (κ.1, 40, .inl (fun _ => -1))), (z12 2, .inl (κ.1, 40, .inl (fun _ => -1))), (q13, .inr (6, [.ref q5, .ref q9, .ref (z14 0), .ref (z14 1), .ref (z14 2)])), (z14 0, .inl (κ.1, 600, .inl (fun _ => -1))), (z14 1, .inl (κ.1, 40, .inl (fun _ => -1))), (z14 2, .inl (κ.1, 40, .inl (fun _ => -1))), (q15, .inr (4, [.ref (z16 0), .ref (z16 1), .ref (z16 2), .int (nI 0)])), (z16 0, .inl (κ.1, 10, .inl (fun _ => 0))), (z16 1, .inl (κ.2.1, 10, .inr (.inl (fun _ => 0)))), (z16 2, .inl (κ.2.1, 10, .inr (.inl (fun _ => 0))))] _ s H locs := hG
  refine lv_aload_n hx hb dX7_init_108 rfl (lv_at hl 0 rfl) ?_
  refine lv_iconst (v := -1) hx hb dX7_init_109 (by decide) ?_
  refine bw_put (C := RX7) (T := TX7) (N := 10) (ci := 7) (ty0 := tyX7) (ty := .int) (v := .int (-1)) 8 (by decide) 0 hC hG iwX7 tyX7_ok nmX7 rfl rfl w42 rfl (Or.inl rfl) (by decide +kernel) rfl rfl (Nat.le_of_ble_eq_true rfl) dX7_init_110 (fun H locs hG => ?_)
  have hG : BW D κ [(h0, .inr (7, [.ref q1, .ref q3, .ref q5, .ref q7, .ref q9, .ref q11, .ref q13, .ref q15, .int (-1), .int 0])), (q1, .inr (0, [.ref (z2 0), .ref (z2 1), .ref (z2 2), .ref (z2 3), .ref (z2 4), .int (nI 0)])), (z2 0, .inl (κ.1, 4, .inl (fun _ => nI 1000))), (z2 1, .inl (κ.1, 10, .inl (fun _ => 0))), (z2 2, .inl (κ.1, 10, .inl (fun _ => 0))), (z2 3, .inl (κ.1, 10, .inl (fun _ => 0))), (z2 4, .inl (κ.2.2.1, 10, .inl (fun _ => 0))), (q3, .inr (1, [.ref (z4 0), .int (bI false), .int (nI 0), .int (nI 0)])), (z4 0, .inr (4, [.ref (z4 1), .ref (z4 2), .ref (z4 3), .int (nI 0)])), (z4 1, .inl (κ.1, 10, .inl (fun _ => 0))), (z4 2, .inl (κ.2.1, 10, .inr (.inl (fun _ => 0)))), (z4 3, .inl (κ.2.1, 10, .inr (.inl (fun _ => 0)))), (q5, .inr (3, [.ref (z6 0), .ref (z6 1), .ref (z6 2), .ref (z6 3), .ref (z6 4), .ref (z6 5), .int (nI 0), .ref (z6 6), .ref (z6 7), .ref (z6 8), .ref (z6 9), .int (nI 0)])), (z6 0, .inl (κ.1, 60, .inl (fun _ => 0))), (z6 1, .inl (κ.1, 60, .inl (fun _ => 0))), (z6 2, .inl (κ.1, 60, .inl (fun _ => 0))), (z6 3, .inl (κ.1, 60, .inl (fun _ => 0))), (z6 4, .inl (κ.2.2.1, 60, .inl (fun _ => 0))), (z6 5, .inl (κ.2.2.1, 60, .inl (fun _ => 0))), (z6 6, .inl (κ.1, 600, .inl (fun _ => 0))), (z6 7, .inl (κ.1, 600, .inl (fun _ => 0))), (z6 8, .inl (κ.2.1, 600, .inr (.inl (fun _ => 0)))), (z6 9, .inl (κ.2.1, 600, .inr (.inl (fun _ => 0)))), (q7, .inr (2, [.ref (z8 0), .ref (z8 1), .ref (z8 2), .ref (z8 3), .int (nI 0)])), (z8 0, .inl (κ.1, 20, .inl (fun _ => 0))), (z8 1, .inl (κ.1, 20, .inl (fun _ => 0))), (z8 2, .inl (κ.1, 20, .inl (fun _ => 0))), (z8 3, .inl (κ.2.2.1, 20, .inl (fun _ => 0))), (q9, .inr (5, [.ref (z10 0), .ref (z10 1), .ref (z10 2), .ref (z10 3), .int (nI 0)])), (z10 0, .inl (κ.1, 40, .inl (fun _ => 0))), (z10 1, .inl (κ.1, 40, .inl (fun _ => 0))), (z10 2, .inl (κ.1, 40, .inl (fun _ => 0))), (z10 3, .inl (κ.1, 40, .inl (fun _ => 0))), (q11, .inr (6, [.ref q5, .ref q9, .ref (z12 0), .ref (z12 1), .ref (z12 2)])), (z12 0, .inl (κ.1, 600, .inl (fun _ => -1))), (z12 1, .inl (κ.1, 40, .inl (fun _ => -1))), (z12 2, .inl (κ.1, 40, .inl (fun _ => -1))), (q13, .inr (6, [.ref q5, .ref q9, .ref (z14 0), .ref (z14 1), .ref (z14 2)])), (z14 0, .inl (κ.1, 600, .inl (fun _ => -1))), (z14 1, .inl (κ.1, 40, .inl (fun _ => -1))), (z14 2, .inl (κ.1, 40, .inl (fun _ => -1))), (q15, .inr (4, [.ref (z16 0), .ref (z16 1), .ref (z16 2), .int (nI 0)])), (z16 0, .inl (κ.1, 10, .inl (fun _ => 0))), (z16 1, .inl (κ.2.1, 10, .inr (.inl (fun _ => 0)))), (z16 2, .inl (κ.2.1, 10, .inr (.inl (fun _ => 0))))] _ s H locs := hG
  refine lv_aload_n hx hb dX7_init_113 rfl (lv_at hl 0 rfl) ?_
  refine lv_iconst (v := nI 0) hx hb dX7_init_114 (by decide) ?_
  refine bw_put (C := RX7) (T := TX7) (N := 10) (ci := 7) (ty0 := tyX7) (ty := .int) (v := .int (nI 0)) 9 (by decide) 0 hC hG iwX7 tyX7_ok nmX7 rfl rfl w43 rfl (Or.inl rfl) (by decide +kernel) rfl rfl (Nat.le_of_ble_eq_true rfl) dX7_init_115 (fun H locs hG => ?_)
  have hG : BW D κ [(h0, .inr (7, [.ref q1, .ref q3, .ref q5, .ref q7, .ref q9, .ref q11, .ref q13, .ref q15, .int (-1), .int (nI 0)])), (q1, .inr (0, [.ref (z2 0), .ref (z2 1), .ref (z2 2), .ref (z2 3), .ref (z2 4), .int (nI 0)])), (z2 0, .inl (κ.1, 4, .inl (fun _ => nI 1000))), (z2 1, .inl (κ.1, 10, .inl (fun _ => 0))), (z2 2, .inl (κ.1, 10, .inl (fun _ => 0))), (z2 3, .inl (κ.1, 10, .inl (fun _ => 0))), (z2 4, .inl (κ.2.2.1, 10, .inl (fun _ => 0))), (q3, .inr (1, [.ref (z4 0), .int (bI false), .int (nI 0), .int (nI 0)])), (z4 0, .inr (4, [.ref (z4 1), .ref (z4 2), .ref (z4 3), .int (nI 0)])), (z4 1, .inl (κ.1, 10, .inl (fun _ => 0))), (z4 2, .inl (κ.2.1, 10, .inr (.inl (fun _ => 0)))), (z4 3, .inl (κ.2.1, 10, .inr (.inl (fun _ => 0)))), (q5, .inr (3, [.ref (z6 0), .ref (z6 1), .ref (z6 2), .ref (z6 3), .ref (z6 4), .ref (z6 5), .int (nI 0), .ref (z6 6), .ref (z6 7), .ref (z6 8), .ref (z6 9), .int (nI 0)])), (z6 0, .inl (κ.1, 60, .inl (fun _ => 0))), (z6 1, .inl (κ.1, 60, .inl (fun _ => 0))), (z6 2, .inl (κ.1, 60, .inl (fun _ => 0))), (z6 3, .inl (κ.1, 60, .inl (fun _ => 0))), (z6 4, .inl (κ.2.2.1, 60, .inl (fun _ => 0))), (z6 5, .inl (κ.2.2.1, 60, .inl (fun _ => 0))), (z6 6, .inl (κ.1, 600, .inl (fun _ => 0))), (z6 7, .inl (κ.1, 600, .inl (fun _ => 0))), (z6 8, .inl (κ.2.1, 600, .inr (.inl (fun _ => 0)))), (z6 9, .inl (κ.2.1, 600, .inr (.inl (fun _ => 0)))), (q7, .inr (2, [.ref (z8 0), .ref (z8 1), .ref (z8 2), .ref (z8 3), .int (nI 0)])), (z8 0, .inl (κ.1, 20, .inl (fun _ => 0))), (z8 1, .inl (κ.1, 20, .inl (fun _ => 0))), (z8 2, .inl (κ.1, 20, .inl (fun _ => 0))), (z8 3, .inl (κ.2.2.1, 20, .inl (fun _ => 0))), (q9, .inr (5, [.ref (z10 0), .ref (z10 1), .ref (z10 2), .ref (z10 3), .int (nI 0)])), (z10 0, .inl (κ.1, 40, .inl (fun _ => 0))), (z10 1, .inl (κ.1, 40, .inl (fun _ => 0))), (z10 2, .inl (κ.1, 40, .inl (fun _ => 0))), (z10 3, .inl (κ.1, 40, .inl (fun _ => 0))), (q11, .inr (6, [.ref q5, .ref q9, .ref (z12 0), .ref (z12 1), .ref (z12 2)])), (z12 0, .inl (κ.1, 600, .inl (fun _ => -1))), (z12 1, .inl (κ.1, 40, .inl (fun _ => -1))), (z12 2, .inl (κ.1, 40, .inl (fun _ => -1))), (q13, .inr (6, [.ref q5, .ref q9, .ref (z14 0), .ref (z14 1), .ref (z14 2)])), (z14 0, .inl (κ.1, 600, .inl (fun _ => -1))), (z14 1, .inl (κ.1, 40, .inl (fun _ => -1))), (z14 2, .inl (κ.1, 40, .inl (fun _ => -1))), (q15, .inr (4, [.ref (z16 0), .ref (z16 1), .ref (z16 2), .int (nI 0)])), (z16 0, .inl (κ.1, 10, .inl (fun _ => 0))), (z16 1, .inl (κ.2.1, 10, .inr (.inl (fun _ => 0)))), (z16 2, .inl (κ.2.1, 10, .inr (.inl (fun _ => 0))))] _ s H locs := hG
  exact bw_end (qs := fun k => match k with | 0 => q1 | 1 => z2 0 | 2 => z2 1 | 3 => z2 2 | 4 => z2 3 | 5 => z2 4 | 6 => q3 | 7 => z4 0 | 8 => z4 1 | 9 => z4 2 | 10 => z4 3 | 11 => q5 | 12 => z6 0 | 13 => z6 1 | 14 => z6 2 | 15 => z6 3 | 16 => z6 4 | 17 => z6 5 | 18 => z6 6 | 19 => z6 7 | 20 => z6 8 | 21 => z6 9 | 22 => q7 | 23 => z8 0 | 24 => z8 1 | 25 => z8 2 | 26 => z8 3 | 27 => q9 | 28 => z10 0 | 29 => z10 1 | 30 => z10 2 | 31 => z10 3 | 32 => q11 | 33 => z12 0 | 34 => z12 1 | 35 => z12 2 | 36 => q13 | 37 => z14 0 | 38 => z14 1 | 39 => z14 2 | 40 => q15 | 41 => z16 0 | 42 => z16 1 | _ => z16 2) hC hG rfl hr hk (by decide) (by decide) dX7_init_118
