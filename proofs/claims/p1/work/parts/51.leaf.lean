theorem dL_law_312 : decode code 312 = .ok (.aload_n 1, 1) := by decide +kernel
theorem dL_law_313 : decode code 313 = .ok (.aload_n 0, 1) := by decide +kernel
theorem dL_law_314 : decode code 314 = .ok (.iload 4, 2) := by decide +kernel
theorem dL_law_316 : decode code 316 = .ok (.iconst 1, 1) := by decide +kernel
theorem dL_law_317 : decode code 317 = .ok (.iadd, 1) := by decide +kernel
theorem dL_law_318 : decode code 318 = .ok (.iaload, 1) := by decide +kernel
theorem dL_law_319 : decode code 319 = .ok (.aload_n 0, 1) := by decide +kernel
theorem dL_law_320 : decode code 320 = .ok (.iload 4, 2) := by decide +kernel
theorem dL_law_322 : decode code 322 = .ok (.iconst 2, 1) := by decide +kernel
theorem dL_law_323 : decode code 323 = .ok (.iadd, 1) := by decide +kernel
theorem dL_law_324 : decode code 324 = .ok (.iaload, 1) := by decide +kernel
theorem dL_law_325 : decode code 325 = .ok (.aload_n 3, 1) := by decide +kernel
theorem dL_law_326 : decode code 326 = .ok (.invokestatic 122, 3) := by decide +kernel
theorem dL_law_329 : decode code 329 = .ok (.istore 5, 2) := by decide +kernel
theorem dL_law_331 : decode code 331 = .ok (.aload_n 2, 1) := by decide +kernel
theorem dL_law_332 : decode code 332 = .ok (.aload_n 0, 1) := by decide +kernel
theorem dL_law_333 : decode code 333 = .ok (.iload 4, 2) := by decide +kernel
theorem dL_law_335 : decode code 335 = .ok (.iconst 1, 1) := by decide +kernel
theorem dL_law_336 : decode code 336 = .ok (.iadd, 1) := by decide +kernel
theorem dL_law_337 : decode code 337 = .ok (.iaload, 1) := by decide +kernel
theorem dL_law_338 : decode code 338 = .ok (.aload_n 0, 1) := by decide +kernel
theorem dL_law_339 : decode code 339 = .ok (.iload 4, 2) := by decide +kernel
theorem dL_law_341 : decode code 341 = .ok (.iconst 2, 1) := by decide +kernel
theorem dL_law_342 : decode code 342 = .ok (.iadd, 1) := by decide +kernel
theorem dL_law_343 : decode code 343 = .ok (.iaload, 1) := by decide +kernel
theorem dL_law_344 : decode code 344 = .ok (.invokevirtual 124, 3) := by decide +kernel
theorem dL_law_347 : decode code 347 = .ok (.lstore 6, 2) := by decide +kernel
theorem dL_law_349 : decode code 349 = .ok (.aload_n 2, 1) := by decide +kernel
theorem dL_law_350 : decode code 350 = .ok (.invokevirtual 116, 3) := by decide +kernel
theorem dL_law_353 : decode code 353 = .ok (.iload 5, 2) := by decide +kernel
theorem dL_law_355 : decode code 355 = .ok (.if_icmp .eq 5, 3) := by decide +kernel
theorem dL_law_360 : decode code 360 = .ok (.iload 5, 2) := by decide +kernel
theorem dL_law_362 : decode code 362 = .ok (.ifCond .ne 14, 3) := by decide +kernel
theorem dL_law_376 : decode code 376 = .ok (.goto 1666, 3) := by decide +kernel
set_option maxHeartbeats 4000000 in
set_option maxRecDepth 100000 in
theorem leaf_10 {p : Program} {e : Env} {s : State} {m : MethodId} {below : List Frame} {meth : Method} {c : Code} (l : Launch) (hst : l.stackTraces = false) {D : va_G} {κ : K4} {E0 : Nat} {a b : Nat → Nat} {o sb L : Nat} {xs : Nat → Int32} (hC : CallFix p m c code 9 s #[Value.ref sb] WALL RL) (hr : meth.sig.returnType = ret) (hlocks : meth.locks = false) (hX : va_X sb L xs s s.heap) (hbl : sb < s.heap.size) (hL4 : L = 4) (hE : EA E0 D κ (fun q => s.heap.size ≤ q) s s.heap) (hT : ET s) (k_1 : -2147483648 ≤ (xs 1).toInt ∧ (xs 1).toInt ≤ 2147483647) (k_2 : -2147483648 ≤ (xs 2).toInt ∧ (xs 2).toInt ≤ 2147483647) (k_3 : -2147483648 ≤ (xs 3).toInt ∧ (xs 3).toInt ≤ 2147483647) (H : Heap) (locs : List Loc) (hG : BW D κ ((xw κ a ++ [(o, .inl (κ.2.1, 1, .inr (.inl (fun _ => 0))))]) ++ mw κ b E0 0) (fun q => s.heap.size ≤ q) s H locs) (ls : Array Slot) (hl : lv_has ls 9 [(4, .int 0), (3, .ref o), (2, .ref (b 0)), (1, .ref (a 0)), (0, .ref sb)]) : W p l e room_1 s m #[Value.ref sb] below meth c H locs 100 6000 (lw_Z below #[Value.ref sb] s) (F0 m 312 ls []) := by
  have hx := hC.1
  have hb := hC.2.1
  refine lv_aload_n hx hb dL_law_312 rfl (lv_at hl 3 rfl) ?_
  refine lv_aload_n hx hb dL_law_313 rfl (lv_at hl 4 rfl) ?_
  refine lv_iload hx hb dL_law_314 (lv_at hl 0 rfl) ?_
  refine lv_iconst (v := 1) hx hb dL_law_316 (by decide) ?_
  refine lv_iadd hx hb dL_law_317 ?_
  refine W.eq (g2 := F0 m 318 ls [.int 1, .ref sb, .ref (a 0)]) rfl ?_
  refine va_sld hx hb hX hbl (Nat.not_le_of_lt hbl) hG.2.2.2.1 (vp_box (by decide) (by rw [hL4]; decide)) dL_law_318 ?_
  refine W.eq (g2 := F0 m 319 ls [.int (xs 1), .ref (a 0)]) rfl ?_
  refine lv_aload_n hx hb dL_law_319 rfl (lv_at hl 4 rfl) ?_
  refine lv_iload hx hb dL_law_320 (lv_at hl 0 rfl) ?_
  refine lv_iconst (v := 2) hx hb dL_law_322 (by decide) ?_
  refine lv_iadd hx hb dL_law_323 ?_
  refine W.eq (g2 := F0 m 324 ls [.int 2, .ref sb, .int (xs 1), .ref (a 0)]) rfl ?_
  refine va_sld hx hb hX hbl (Nat.not_le_of_lt hbl) hG.2.2.2.1 (vp_box (by decide) (by rw [hL4]; decide)) dL_law_324 ?_
  refine W.eq (g2 := F0 m 325 ls [.int (xs 2), .int (xs 1), .ref (a 0)]) rfl ?_
  refine lv_aload_n hx hb dL_law_325 rfl (lv_at hl 1 rfl) ?_
  have cut326 : Cut ((xw κ a ++ [(o, .inl (κ.2.1, 1, .inr (.inl (fun _ => 0))))]) ++ mw κ b E0 0) ([(a 0, .inr (7, [.ref (a 1), .ref (a 7), .ref (a 12), .ref (a 23), .ref (a 28), .ref (a 33), .ref (a 37), .ref (a 41), .int (-1), .int 0])), (a 1, .inr (0, [.ref (a 2), .ref (a 3), .ref (a 4), .ref (a 5), .ref (a 6), .int 0])), (a 2, .inl (κ.1, 4, .inl (fun _ => 1000))), (a 3, .inl (κ.1, 10, .inl (fun _ => 0))), (a 4, .inl (κ.1, 10, .inl (fun _ => 0))), (a 5, .inl (κ.1, 10, .inl (fun _ => 0))), (a 6, .inl (κ.2.2.1, 10, .inl (fun _ => 0))), (a 7, .inr (1, [.ref (a 8), .int 0, .int 0, .int 0])), (a 8, .inr (4, [.ref (a 9), .ref (a 10), .ref (a 11), .int 0])), (a 9, .inl (κ.1, 10, .inl (fun _ => 0))), (a 10, .inl (κ.2.1, 10, .inr (.inl (fun _ => 0)))), (a 11, .inl (κ.2.1, 10, .inr (.inl (fun _ => 0)))), (a 12, .inr (3, [.ref (a 13), .ref (a 14), .ref (a 15), .ref (a 16), .ref (a 17), .ref (a 18), .int 0, .ref (a 19), .ref (a 20), .ref (a 21), .ref (a 22), .int 0])), (a 13, .inl (κ.1, 60, .inl (fun _ => 0))), (a 14, .inl (κ.1, 60, .inl (fun _ => 0))), (a 15, .inl (κ.1, 60, .inl (fun _ => 0))), (a 16, .inl (κ.1, 60, .inl (fun _ => 0))), (a 17, .inl (κ.2.2.1, 60, .inl (fun _ => 0))), (a 18, .inl (κ.2.2.1, 60, .inl (fun _ => 0))), (a 19, .inl (κ.1, 600, .inl (fun _ => 0))), (a 20, .inl (κ.1, 600, .inl (fun _ => 0))), (a 21, .inl (κ.2.1, 600, .inr (.inl (fun _ => 0)))), (a 22, .inl (κ.2.1, 600, .inr (.inl (fun _ => 0)))), (a 23, .inr (2, [.ref (a 24), .ref (a 25), .ref (a 26), .ref (a 27), .int 0])), (a 24, .inl (κ.1, 20, .inl (fun _ => 0))), (a 25, .inl (κ.1, 20, .inl (fun _ => 0))), (a 26, .inl (κ.1, 20, .inl (fun _ => 0))), (a 27, .inl (κ.2.2.1, 20, .inl (fun _ => 0))), (a 28, .inr (5, [.ref (a 29), .ref (a 30), .ref (a 31), .ref (a 32), .int 0])), (a 29, .inl (κ.1, 40, .inl (fun _ => 0))), (a 30, .inl (κ.1, 40, .inl (fun _ => 0))), (a 31, .inl (κ.1, 40, .inl (fun _ => 0))), (a 32, .inl (κ.1, 40, .inl (fun _ => 0))), (a 33, .inr (6, [.ref (a 12), .ref (a 28), .ref (a 34), .ref (a 35), .ref (a 36)])), (a 34, .inl (κ.1, 600, .inl (fun _ => (-1)))), (a 35, .inl (κ.1, 40, .inl (fun _ => (-1)))), (a 36, .inl (κ.1, 40, .inl (fun _ => (-1)))), (a 37, .inr (6, [.ref (a 12), .ref (a 28), .ref (a 38), .ref (a 39), .ref (a 40)])), (a 38, .inl (κ.1, 600, .inl (fun _ => (-1)))), (a 39, .inl (κ.1, 40, .inl (fun _ => (-1)))), (a 40, .inl (κ.1, 40, .inl (fun _ => (-1)))), (a 41, .inr (4, [.ref (a 42), .ref (a 43), .ref (a 44), .int 0])), (a 42, .inl (κ.1, 10, .inl (fun _ => 0))), (a 43, .inl (κ.2.1, 10, .inr (.inl (fun _ => 0)))), (a 44, .inl (κ.2.1, 10, .inr (.inl (fun _ => 0)))), (o, .inl (κ.2.1, 1, .inr (.inl (fun _ => 0))))]) ([(b 0, .inr (9, [.int 0, .ref (b 1), .ref (b 2), .ref (b 3), .ref (b 4), .ref (b 5), .ref (b 6), .ref (b 7), .null, .int 0, .int (-1), .int 0, .int 0, .int 0, .ref (b 8)])), (b 1, .inl (κ.1, 4, .inl (fun _ => 1000))), (b 2, .inr (10, [.int 0, .ref E0, .int 0])), (b 3, .inr (10, [.int 0, .ref E0, .int 0])), (b 4, .inr (10, [.int 0, .ref E0, .int 0])), (b 5, .inr (10, [.int 0, .ref E0, .int 0])), (b 6, .inr (10, [.int 0, .ref E0, .int 0])), (b 7, .inr (10, [.int 0, .ref E0, .int 0])), (b 8, .inr (10, [.int 0, .ref E0, .int 0]))]) := (Cut.idx [0, 1, 2, 3, 4, 5, 6, 7, 8, 9, 10, 11, 12, 13, 14, 15, 16, 17, 18, 19, 20, 21, 22, 23, 24, 25, 26, 27, 28, 29, 30, 31, 32, 33, 34, 35, 36, 37, 38, 39, 40, 41, 42, 43, 44, 45] [46, 47, 48, 49, 50, 51, 52, 53, 54] rfl rfl (by decide) (by decide) (by decide))
  refine zc_i hG cut326 (zr_H (n := 4) (As := [.ref (a 0), .int (xs 1), .int (xs 2), .ref o]) (rest := []) hC hG hE hT cut326 (z_60_floor l hst D κ E0 H.size a (xs 1) (xs 2) o ⟨by omega, by omega⟩ ⟨by omega, by omega⟩) w282 w143 w284 w283 (by decide +kernel) ⟨Nat.le_of_ble_eq_true rfl, Nat.le_of_ble_eq_true rfl⟩ rfl hl.1 rfl (Nat.le_of_ble_eq_true rfl) dL_law_326 ⟨Nat.le_of_ble_eq_true rfl, Nat.le_of_ble_eq_true rfl⟩) (fun z1 H locs hG => ?_)
  have hG : BW D κ (([(b 0, .inr (9, [.int 0, .ref (b 1), .ref (b 2), .ref (b 3), .ref (b 4), .ref (b 5), .ref (b 6), .ref (b 7), .null, .int 0, .int (-1), .int 0, .int 0, .int 0, .ref (b 8)])), (b 1, .inl (κ.1, 4, .inl (fun _ => 1000))), (b 2, .inr (10, [.int 0, .ref E0, .int 0])), (b 3, .inr (10, [.int 0, .ref E0, .int 0])), (b 4, .inr (10, [.int 0, .ref E0, .int 0])), (b 5, .inr (10, [.int 0, .ref E0, .int 0])), (b 6, .inr (10, [.int 0, .ref E0, .int 0])), (b 7, .inr (10, [.int 0, .ref E0, .int 0])), (b 8, .inr (10, [.int 0, .ref E0, .int 0]))]) ++ ([(o, .inl (κ.2.1, 1, .inr (.inl (fun _ => 0))))])) _ s H locs := hG
  refine lv_istore (lv' := [(5, .int 1), (4, .int 0), (3, .ref o), (2, .ref (b 0)), (1, .ref (a 0)), (0, .ref sb)]) hx hb dL_law_329 hl (by decide) rfl (fun ls hl => ?_)
  refine lv_aload_n hx hb dL_law_331 rfl (lv_at hl 3 rfl) ?_
  refine lv_aload_n hx hb dL_law_332 rfl (lv_at hl 5 rfl) ?_
  refine lv_iload hx hb dL_law_333 (lv_at hl 1 rfl) ?_
  refine lv_iconst (v := 1) hx hb dL_law_335 (by decide) ?_
  refine lv_iadd hx hb dL_law_336 ?_
  refine W.eq (g2 := F0 m 337 ls [.int 1, .ref sb, .ref (b 0)]) rfl ?_
  refine va_sld hx hb hX hbl (Nat.not_le_of_lt hbl) hG.2.2.2.1 (vp_box (by decide) (by rw [hL4]; decide)) dL_law_337 ?_
  refine W.eq (g2 := F0 m 338 ls [.int (xs 1), .ref (b 0)]) rfl ?_
  refine lv_aload_n hx hb dL_law_338 rfl (lv_at hl 5 rfl) ?_
  refine lv_iload hx hb dL_law_339 (lv_at hl 1 rfl) ?_
  refine lv_iconst (v := 2) hx hb dL_law_341 (by decide) ?_
  refine lv_iadd hx hb dL_law_342 ?_
  refine W.eq (g2 := F0 m 343 ls [.int 2, .ref sb, .int (xs 1), .ref (b 0)]) rfl ?_
  refine va_sld hx hb hX hbl (Nat.not_le_of_lt hbl) hG.2.2.2.1 (vp_box (by decide) (by rw [hL4]; decide)) dL_law_343 ?_
  refine W.eq (g2 := F0 m 344 ls [.int (xs 2), .int (xs 1), .ref (b 0)]) rfl ?_
  have cut344 : Cut (([(b 0, .inr (9, [.int 0, .ref (b 1), .ref (b 2), .ref (b 3), .ref (b 4), .ref (b 5), .ref (b 6), .ref (b 7), .null, .int 0, .int (-1), .int 0, .int 0, .int 0, .ref (b 8)])), (b 1, .inl (κ.1, 4, .inl (fun _ => 1000))), (b 2, .inr (10, [.int 0, .ref E0, .int 0])), (b 3, .inr (10, [.int 0, .ref E0, .int 0])), (b 4, .inr (10, [.int 0, .ref E0, .int 0])), (b 5, .inr (10, [.int 0, .ref E0, .int 0])), (b 6, .inr (10, [.int 0, .ref E0, .int 0])), (b 7, .inr (10, [.int 0, .ref E0, .int 0])), (b 8, .inr (10, [.int 0, .ref E0, .int 0]))]) ++ ([(o, .inl (κ.2.1, 1, .inr (.inl (fun _ => 0))))])) (mw κ b E0 0) ([(o, .inl (κ.2.1, 1, .inr (.inl (fun _ => 0))))]) := (Cut.idx [0, 1, 2, 3, 4, 5, 6, 7, 8] [9] rfl rfl (by decide) (by decide) (by decide))
  refine zc_l hG cut344 (zr_V (k := 0) (ci := 9) (n := 2) (As := [.int (xs 1), .int (xs 2)]) (rest := []) hC hG hE hT cut344 (z_64_floor l hst D κ E0 H.size b (xs 1) (xs 2) ⟨by omega, by omega⟩ ⟨by omega, by omega⟩) rfl rfl w327 w5 w330 w328 w329 (by decide +kernel) ⟨Nat.le_of_ble_eq_true rfl, Nat.le_of_ble_eq_true rfl⟩ rfl hl.1 rfl (Nat.le_of_ble_eq_true rfl) dL_law_344 ⟨Nat.le_of_ble_eq_true rfl, Nat.le_of_ble_eq_true rfl⟩) (fun z2 H locs hG => ?_)
  have hG : BW D κ (([(o, .inl (κ.2.1, 1, .inr (.inl (fun _ => 0))))]) ++ (mw κ b E0 1)) _ s H locs := hG
  refine lv_lstore (lv' := [(6, .long 0), (5, .int 1), (4, .int 0), (3, .ref o), (2, .ref (b 0)), (1, .ref (a 0)), (0, .ref sb)]) hx hb dL_law_347 hl (by decide) rfl (fun ls hl => ?_)
  refine lv_aload_n hx hb dL_law_349 rfl (lv_at hl 4 rfl) ?_
  have cut350 : Cut (([(o, .inl (κ.2.1, 1, .inr (.inl (fun _ => 0))))]) ++ (mw κ b E0 1)) ([(b 0, .inr (9, [.int 1, .ref (b 1), .ref (b 2), .ref (b 3), .ref (b 4), .ref (b 5), .ref (b 6), .ref (b 7), .null, .int 0, .int (-1), .int 0, .int 0, .int 0, .ref (b 8)]))]) ([(o, .inl (κ.2.1, 1, .inr (.inl (fun _ => 0)))), (b 1, .inl (κ.1, 4, .inl (fun _ => 1000))), (b 2, .inr (10, [.int 0, .ref E0, .int 0])), (b 3, .inr (10, [.int 0, .ref E0, .int 0])), (b 4, .inr (10, [.int 0, .ref E0, .int 0])), (b 5, .inr (10, [.int 0, .ref E0, .int 0])), (b 6, .inr (10, [.int 0, .ref E0, .int 0])), (b 7, .inr (10, [.int 0, .ref E0, .int 0])), (b 8, .inr (10, [.int 0, .ref E0, .int 0]))]) := (Cut.idx [1] [0, 2, 3, 4, 5, 6, 7, 8, 9] rfl rfl (by decide) (by decide) (by decide))
  refine zc_i hG cut350 (zr_V (k := 1) (ci := 9) (n := 0) (As := []) (rest := []) hC hG hE hT cut350 (z_6_thrown l hst D κ E0 H.size b) rfl rfl w200 w5 w203 w201 w202 (by decide +kernel) ⟨Nat.le_of_ble_eq_true rfl, Nat.le_of_ble_eq_true rfl⟩ rfl hl.1 rfl (Nat.le_of_ble_eq_true rfl) dL_law_350 ⟨Nat.le_of_ble_eq_true rfl, Nat.le_of_ble_eq_true rfl⟩) (fun z3 H locs hG => ?_)
  have hG : BW D κ (([(o, .inl (κ.2.1, 1, .inr (.inl (fun _ => 0)))), (b 1, .inl (κ.1, 4, .inl (fun _ => 1000))), (b 2, .inr (10, [.int 0, .ref E0, .int 0])), (b 3, .inr (10, [.int 0, .ref E0, .int 0])), (b 4, .inr (10, [.int 0, .ref E0, .int 0])), (b 5, .inr (10, [.int 0, .ref E0, .int 0])), (b 6, .inr (10, [.int 0, .ref E0, .int 0])), (b 7, .inr (10, [.int 0, .ref E0, .int 0])), (b 8, .inr (10, [.int 0, .ref E0, .int 0]))]) ++ ([(b 0, .inr (9, [.int 1, .ref (b 1), .ref (b 2), .ref (b 3), .ref (b 4), .ref (b 5), .ref (b 6), .ref (b 7), .null, .int 0, .int (-1), .int 0, .int 0, .int 0, .ref (b 8)]))])) _ s H locs := hG
  refine lv_iload hx hb dL_law_353 (lv_at hl 1 rfl) ?_
  refine lv_icmp_eq (tgt := 360) hx hb dL_law_355 (by decide) (fun _ => ?_) (fun h355 => absurd (by decide) h355)
  refine lv_iload hx hb dL_law_360 (lv_at hl 1 rfl) ?_
  refine lv_if_ne (tgt := 376) hx hb dL_law_362 (by decide) (fun _ => ?_) (fun h362 => absurd h362 (by decide))
  refine lv_goto (tgt := 2042) hx hb dL_law_376 (by decide) ?_
  refine lv_iinc (v := 4) (lv' := [(4, .int 4), (6, .long 0), (5, .int 1), (3, .ref o), (2, .ref (b 0)), (1, .ref (a 0)), (0, .ref sb)]) hx hb dL_law_2042 hl (k := 2) rfl (by decide) (by decide) rfl (fun ls hl => ?_)
  refine lv_goto (tgt := 23) hx hb dL_law_2045 (by decide) ?_
  refine lv_iload hx hb dL_law_23 (lv_at hl 0 rfl) ?_
  refine lv_aload_n hx hb dL_law_25 rfl (lv_at hl 6 rfl) ?_
  refine va_slen hx hb hX hbl (Nat.not_le_of_lt hbl) hG.2.2.2.1 dL_law_26 ?_
  refine W.eq (g2 := F0 m 27 ls [.int 4, .int 4]) (by rw [hL4]; rfl) ?_
  refine lv_iconst (v := 4) hx hb dL_law_27 (by decide) ?_
  refine lv_isub hx hb dL_law_28 ?_
  refine W.eq (g2 := F0 m 29 ls [.int 0, .int 4]) rfl ?_
  refine lv_icmp_gt (tgt := 2048) hx hb dL_law_29 (by decide) (fun _ => ?_) (fun h29 => absurd (by decide) h29)
  refine lv_iconst (v := 1) hx hb dL_law_2048 (by decide) ?_
  refine W.widen (k := 600002) (n := 7302232) (Nat.le_of_ble_eq_true rfl) (Nat.le_of_ble_eq_true rfl) ?_
  refine va_forget (fun q hq => hG.2.2.2.1.2.2 q hq) ?_
  refine W.base ?_
  exact lw_ret (Drawn.sameBut.refl s.drawn lw_cs) hx hb hr hlocks dL_law_2049
theorem dL_law_379 : decode code 379 = .ok (.aload_n 1, 1) := by decide +kernel
theorem dL_law_380 : decode code 380 = .ok (.aload_n 0, 1) := by decide +kernel
theorem dL_law_381 : decode code 381 = .ok (.iload 4, 2) := by decide +kernel
theorem dL_law_383 : decode code 383 = .ok (.iconst 1, 1) := by decide +kernel
theorem dL_law_384 : decode code 384 = .ok (.iadd, 1) := by decide +kernel
theorem dL_law_385 : decode code 385 = .ok (.iaload, 1) := by decide +kernel
theorem dL_law_386 : decode code 386 = .ok (.aload_n 3, 1) := by decide +kernel
theorem dL_law_387 : decode code 387 = .ok (.invokestatic 125, 3) := by decide +kernel
theorem dL_law_390 : decode code 390 = .ok (.istore 5, 2) := by decide +kernel
theorem dL_law_392 : decode code 392 = .ok (.aload_n 2, 1) := by decide +kernel
theorem dL_law_393 : decode code 393 = .ok (.aload_n 0, 1) := by decide +kernel
theorem dL_law_394 : decode code 394 = .ok (.iload 4, 2) := by decide +kernel
theorem dL_law_396 : decode code 396 = .ok (.iconst 1, 1) := by decide +kernel
theorem dL_law_397 : decode code 397 = .ok (.iadd, 1) := by decide +kernel
theorem dL_law_398 : decode code 398 = .ok (.iaload, 1) := by decide +kernel
theorem dL_law_399 : decode code 399 = .ok (.invokevirtual 128, 3) := by decide +kernel
theorem dL_law_402 : decode code 402 = .ok (.istore 6, 2) := by decide +kernel
theorem dL_law_404 : decode code 404 = .ok (.aload_n 2, 1) := by decide +kernel
theorem dL_law_405 : decode code 405 = .ok (.invokevirtual 116, 3) := by decide +kernel
theorem dL_law_408 : decode code 408 = .ok (.iload 5, 2) := by decide +kernel
theorem dL_law_410 : decode code 410 = .ok (.if_icmp .eq 5, 3) := by decide +kernel
theorem dL_law_415 : decode code 415 = .ok (.iload 5, 2) := by decide +kernel
theorem dL_law_417 : decode code 417 = .ok (.ifCond .ne 15, 3) := by decide +kernel
theorem dL_law_432 : decode code 432 = .ok (.goto 1610, 3) := by decide +kernel
set_option maxHeartbeats 4000000 in
set_option maxRecDepth 100000 in
theorem leaf_11 {p : Program} {e : Env} {s : State} {m : MethodId} {below : List Frame} {meth : Method} {c : Code} (l : Launch) (hst : l.stackTraces = false) {D : va_G} {κ : K4} {E0 : Nat} {a b : Nat → Nat} {o sb L : Nat} {xs : Nat → Int32} (hC : CallFix p m c code 9 s #[Value.ref sb] WALL RL) (hr : meth.sig.returnType = ret) (hlocks : meth.locks = false) (hX : va_X sb L xs s s.heap) (hbl : sb < s.heap.size) (hL4 : L = 4) (hE : EA E0 D κ (fun q => s.heap.size ≤ q) s s.heap) (hT : ET s) (k_1 : -2147483648 ≤ (xs 1).toInt ∧ (xs 1).toInt ≤ 2147483647) (k_2 : -2147483648 ≤ (xs 2).toInt ∧ (xs 2).toInt ≤ 2147483647) (k_3 : -2147483648 ≤ (xs 3).toInt ∧ (xs 3).toInt ≤ 2147483647) (H : Heap) (locs : List Loc) (hG : BW D κ ((xw κ a ++ [(o, .inl (κ.2.1, 1, .inr (.inl (fun _ => 0))))]) ++ mw κ b E0 0) (fun q => s.heap.size ≤ q) s H locs) (ls : Array Slot) (hl : lv_has ls 9 [(4, .int 0), (3, .ref o), (2, .ref (b 0)), (1, .ref (a 0)), (0, .ref sb)]) : W p l e room_1 s m #[Value.ref sb] below meth c H locs 100 6000 (lw_Z below #[Value.ref sb] s) (F0 m 379 ls []) := by
  have hx := hC.1
  have hb := hC.2.1
  refine lv_aload_n hx hb dL_law_379 rfl (lv_at hl 3 rfl) ?_
  refine lv_aload_n hx hb dL_law_380 rfl (lv_at hl 4 rfl) ?_
  refine lv_iload hx hb dL_law_381 (lv_at hl 0 rfl) ?_
  refine lv_iconst (v := 1) hx hb dL_law_383 (by decide) ?_
  refine lv_iadd hx hb dL_law_384 ?_
  refine W.eq (g2 := F0 m 385 ls [.int 1, .ref sb, .ref (a 0)]) rfl ?_
  refine va_sld hx hb hX hbl (Nat.not_le_of_lt hbl) hG.2.2.2.1 (vp_box (by decide) (by rw [hL4]; decide)) dL_law_385 ?_
  refine W.eq (g2 := F0 m 386 ls [.int (xs 1), .ref (a 0)]) rfl ?_
  refine lv_aload_n hx hb dL_law_386 rfl (lv_at hl 1 rfl) ?_
  have cut387 : Cut ((xw κ a ++ [(o, .inl (κ.2.1, 1, .inr (.inl (fun _ => 0))))]) ++ mw κ b E0 0) ([(a 0, .inr (7, [.ref (a 1), .ref (a 7), .ref (a 12), .ref (a 23), .ref (a 28), .ref (a 33), .ref (a 37), .ref (a 41), .int (-1), .int 0])), (a 1, .inr (0, [.ref (a 2), .ref (a 3), .ref (a 4), .ref (a 5), .ref (a 6), .int 0])), (a 2, .inl (κ.1, 4, .inl (fun _ => 1000))), (a 3, .inl (κ.1, 10, .inl (fun _ => 0))), (a 4, .inl (κ.1, 10, .inl (fun _ => 0))), (a 5, .inl (κ.1, 10, .inl (fun _ => 0))), (a 6, .inl (κ.2.2.1, 10, .inl (fun _ => 0))), (a 7, .inr (1, [.ref (a 8), .int 0, .int 0, .int 0])), (a 8, .inr (4, [.ref (a 9), .ref (a 10), .ref (a 11), .int 0])), (a 9, .inl (κ.1, 10, .inl (fun _ => 0))), (a 10, .inl (κ.2.1, 10, .inr (.inl (fun _ => 0)))), (a 11, .inl (κ.2.1, 10, .inr (.inl (fun _ => 0)))), (a 12, .inr (3, [.ref (a 13), .ref (a 14), .ref (a 15), .ref (a 16), .ref (a 17), .ref (a 18), .int 0, .ref (a 19), .ref (a 20), .ref (a 21), .ref (a 22), .int 0])), (a 13, .inl (κ.1, 60, .inl (fun _ => 0))), (a 14, .inl (κ.1, 60, .inl (fun _ => 0))), (a 15, .inl (κ.1, 60, .inl (fun _ => 0))), (a 16, .inl (κ.1, 60, .inl (fun _ => 0))), (a 17, .inl (κ.2.2.1, 60, .inl (fun _ => 0))), (a 18, .inl (κ.2.2.1, 60, .inl (fun _ => 0))), (a 19, .inl (κ.1, 600, .inl (fun _ => 0))), (a 20, .inl (κ.1, 600, .inl (fun _ => 0))), (a 21, .inl (κ.2.1, 600, .inr (.inl (fun _ => 0)))), (a 22, .inl (κ.2.1, 600, .inr (.inl (fun _ => 0)))), (a 23, .inr (2, [.ref (a 24), .ref (a 25), .ref (a 26), .ref (a 27), .int 0])), (a 24, .inl (κ.1, 20, .inl (fun _ => 0))), (a 25, .inl (κ.1, 20, .inl (fun _ => 0))), (a 26, .inl (κ.1, 20, .inl (fun _ => 0))), (a 27, .inl (κ.2.2.1, 20, .inl (fun _ => 0))), (a 28, .inr (5, [.ref (a 29), .ref (a 30), .ref (a 31), .ref (a 32), .int 0])), (a 29, .inl (κ.1, 40, .inl (fun _ => 0))), (a 30, .inl (κ.1, 40, .inl (fun _ => 0))), (a 31, .inl (κ.1, 40, .inl (fun _ => 0))), (a 32, .inl (κ.1, 40, .inl (fun _ => 0))), (a 33, .inr (6, [.ref (a 12), .ref (a 28), .ref (a 34), .ref (a 35), .ref (a 36)])), (a 34, .inl (κ.1, 600, .inl (fun _ => (-1)))), (a 35, .inl (κ.1, 40, .inl (fun _ => (-1)))), (a 36, .inl (κ.1, 40, .inl (fun _ => (-1)))), (a 37, .inr (6, [.ref (a 12), .ref (a 28), .ref (a 38), .ref (a 39), .ref (a 40)])), (a 38, .inl (κ.1, 600, .inl (fun _ => (-1)))), (a 39, .inl (κ.1, 40, .inl (fun _ => (-1)))), (a 40, .inl (κ.1, 40, .inl (fun _ => (-1)))), (a 41, .inr (4, [.ref (a 42), .ref (a 43), .ref (a 44), .int 0])), (a 42, .inl (κ.1, 10, .inl (fun _ => 0))), (a 43, .inl (κ.2.1, 10, .inr (.inl (fun _ => 0)))), (a 44, .inl (κ.2.1, 10, .inr (.inl (fun _ => 0)))), (o, .inl (κ.2.1, 1, .inr (.inl (fun _ => 0))))]) ([(b 0, .inr (9, [.int 0, .ref (b 1), .ref (b 2), .ref (b 3), .ref (b 4), .ref (b 5), .ref (b 6), .ref (b 7), .null, .int 0, .int (-1), .int 0, .int 0, .int 0, .ref (b 8)])), (b 1, .inl (κ.1, 4, .inl (fun _ => 1000))), (b 2, .inr (10, [.int 0, .ref E0, .int 0])), (b 3, .inr (10, [.int 0, .ref E0, .int 0])), (b 4, .inr (10, [.int 0, .ref E0, .int 0])), (b 5, .inr (10, [.int 0, .ref E0, .int 0])), (b 6, .inr (10, [.int 0, .ref E0, .int 0])), (b 7, .inr (10, [.int 0, .ref E0, .int 0])), (b 8, .inr (10, [.int 0, .ref E0, .int 0]))]) := (Cut.idx [0, 1, 2, 3, 4, 5, 6, 7, 8, 9, 10, 11, 12, 13, 14, 15, 16, 17, 18, 19, 20, 21, 22, 23, 24, 25, 26, 27, 28, 29, 30, 31, 32, 33, 34, 35, 36, 37, 38, 39, 40, 41, 42, 43, 44, 45] [46, 47, 48, 49, 50, 51, 52, 53, 54] rfl rfl (by decide) (by decide) (by decide))
  refine zc_i hG cut387 (zr_H (n := 3) (As := [.ref (a 0), .int (xs 1), .ref o]) (rest := []) hC hG hE hT cut387 (z_66_exchange l hst D κ E0 H.size a (xs 1) o ⟨by omega, by omega⟩) w379 w143 w381 w380 (by decide +kernel) ⟨Nat.le_of_ble_eq_true rfl, Nat.le_of_ble_eq_true rfl⟩ rfl hl.1 rfl (Nat.le_of_ble_eq_true rfl) dL_law_387 ⟨Nat.le_of_ble_eq_true rfl, Nat.le_of_ble_eq_true rfl⟩) (fun z1 H locs hG => ?_)
  have hG : BW D κ (([(b 0, .inr (9, [.int 0, .ref (b 1), .ref (b 2), .ref (b 3), .ref (b 4), .ref (b 5), .ref (b 6), .ref (b 7), .null, .int 0, .int (-1), .int 0, .int 0, .int 0, .ref (b 8)])), (b 1, .inl (κ.1, 4, .inl (fun _ => 1000))), (b 2, .inr (10, [.int 0, .ref E0, .int 0])), (b 3, .inr (10, [.int 0, .ref E0, .int 0])), (b 4, .inr (10, [.int 0, .ref E0, .int 0])), (b 5, .inr (10, [.int 0, .ref E0, .int 0])), (b 6, .inr (10, [.int 0, .ref E0, .int 0])), (b 7, .inr (10, [.int 0, .ref E0, .int 0])), (b 8, .inr (10, [.int 0, .ref E0, .int 0]))]) ++ ([(o, .inl (κ.2.1, 1, .inr (.inl (fun _ => 0))))])) _ s H locs := hG
  refine lv_istore (lv' := [(5, .int 1), (4, .int 0), (3, .ref o), (2, .ref (b 0)), (1, .ref (a 0)), (0, .ref sb)]) hx hb dL_law_390 hl (by decide) rfl (fun ls hl => ?_)
  refine lv_aload_n hx hb dL_law_392 rfl (lv_at hl 3 rfl) ?_
  refine lv_aload_n hx hb dL_law_393 rfl (lv_at hl 5 rfl) ?_
  refine lv_iload hx hb dL_law_394 (lv_at hl 1 rfl) ?_
  refine lv_iconst (v := 1) hx hb dL_law_396 (by decide) ?_
  refine lv_iadd hx hb dL_law_397 ?_
  refine W.eq (g2 := F0 m 398 ls [.int 1, .ref sb, .ref (b 0)]) rfl ?_
  refine va_sld hx hb hX hbl (Nat.not_le_of_lt hbl) hG.2.2.2.1 (vp_box (by decide) (by rw [hL4]; decide)) dL_law_398 ?_
  refine W.eq (g2 := F0 m 399 ls [.int (xs 1), .ref (b 0)]) rfl ?_
  have cut399 : Cut (([(b 0, .inr (9, [.int 0, .ref (b 1), .ref (b 2), .ref (b 3), .ref (b 4), .ref (b 5), .ref (b 6), .ref (b 7), .null, .int 0, .int (-1), .int 0, .int 0, .int 0, .ref (b 8)])), (b 1, .inl (κ.1, 4, .inl (fun _ => 1000))), (b 2, .inr (10, [.int 0, .ref E0, .int 0])), (b 3, .inr (10, [.int 0, .ref E0, .int 0])), (b 4, .inr (10, [.int 0, .ref E0, .int 0])), (b 5, .inr (10, [.int 0, .ref E0, .int 0])), (b 6, .inr (10, [.int 0, .ref E0, .int 0])), (b 7, .inr (10, [.int 0, .ref E0, .int 0])), (b 8, .inr (10, [.int 0, .ref E0, .int 0]))]) ++ ([(o, .inl (κ.2.1, 1, .inr (.inl (fun _ => 0))))])) (mw κ b E0 0) ([(o, .inl (κ.2.1, 1, .inr (.inl (fun _ => 0))))]) := (Cut.idx [0, 1, 2, 3, 4, 5, 6, 7, 8] [9] rfl rfl (by decide) (by decide) (by decide))
  refine zc_i hG cut399 (zr_V (k := 0) (ci := 9) (n := 1) (As := [.int (xs 1)]) (rest := []) hC hG hE hT cut399 (z_67_exchange l hst D κ E0 H.size b (xs 1) ⟨by omega, by omega⟩) rfl rfl w387 w5 w390 w388 w389 (by decide +kernel) ⟨Nat.le_of_ble_eq_true rfl, Nat.le_of_ble_eq_true rfl⟩ rfl hl.1 rfl (Nat.le_of_ble_eq_true rfl) dL_law_399 ⟨Nat.le_of_ble_eq_true rfl, Nat.le_of_ble_eq_true rfl⟩) (fun z2 H locs hG => ?_)
  have hG : BW D κ (([(o, .inl (κ.2.1, 1, .inr (.inl (fun _ => 0))))]) ++ (mw κ b E0 1)) _ s H locs := hG
  refine lv_istore (lv' := [(6, .int 0), (5, .int 1), (4, .int 0), (3, .ref o), (2, .ref (b 0)), (1, .ref (a 0)), (0, .ref sb)]) hx hb dL_law_402 hl (by decide) rfl (fun ls hl => ?_)
  refine lv_aload_n hx hb dL_law_404 rfl (lv_at hl 4 rfl) ?_
  have cut405 : Cut (([(o, .inl (κ.2.1, 1, .inr (.inl (fun _ => 0))))]) ++ (mw κ b E0 1)) ([(b 0, .inr (9, [.int 1, .ref (b 1), .ref (b 2), .ref (b 3), .ref (b 4), .ref (b 5), .ref (b 6), .ref (b 7), .null, .int 0, .int (-1), .int 0, .int 0, .int 0, .ref (b 8)]))]) ([(o, .inl (κ.2.1, 1, .inr (.inl (fun _ => 0)))), (b 1, .inl (κ.1, 4, .inl (fun _ => 1000))), (b 2, .inr (10, [.int 0, .ref E0, .int 0])), (b 3, .inr (10, [.int 0, .ref E0, .int 0])), (b 4, .inr (10, [.int 0, .ref E0, .int 0])), (b 5, .inr (10, [.int 0, .ref E0, .int 0])), (b 6, .inr (10, [.int 0, .ref E0, .int 0])), (b 7, .inr (10, [.int 0, .ref E0, .int 0])), (b 8, .inr (10, [.int 0, .ref E0, .int 0]))]) := (Cut.idx [1] [0, 2, 3, 4, 5, 6, 7, 8, 9] rfl rfl (by decide) (by decide) (by decide))
  refine zc_i hG cut405 (zr_V (k := 1) (ci := 9) (n := 0) (As := []) (rest := []) hC hG hE hT cut405 (z_6_thrown l hst D κ E0 H.size b) rfl rfl w200 w5 w203 w201 w202 (by decide +kernel) ⟨Nat.le_of_ble_eq_true rfl, Nat.le_of_ble_eq_true rfl⟩ rfl hl.1 rfl (Nat.le_of_ble_eq_true rfl) dL_law_405 ⟨Nat.le_of_ble_eq_true rfl, Nat.le_of_ble_eq_true rfl⟩) (fun z3 H locs hG => ?_)
  have hG : BW D κ (([(o, .inl (κ.2.1, 1, .inr (.inl (fun _ => 0)))), (b 1, .inl (κ.1, 4, .inl (fun _ => 1000))), (b 2, .inr (10, [.int 0, .ref E0, .int 0])), (b 3, .inr (10, [.int 0, .ref E0, .int 0])), (b 4, .inr (10, [.int 0, .ref E0, .int 0])), (b 5, .inr (10, [.int 0, .ref E0, .int 0])), (b 6, .inr (10, [.int 0, .ref E0, .int 0])), (b 7, .inr (10, [.int 0, .ref E0, .int 0])), (b 8, .inr (10, [.int 0, .ref E0, .int 0]))]) ++ ([(b 0, .inr (9, [.int 1, .ref (b 1), .ref (b 2), .ref (b 3), .ref (b 4), .ref (b 5), .ref (b 6), .ref (b 7), .null, .int 0, .int (-1), .int 0, .int 0, .int 0, .ref (b 8)]))])) _ s H locs := hG
  refine lv_iload hx hb dL_law_408 (lv_at hl 1 rfl) ?_
  refine lv_icmp_eq (tgt := 415) hx hb dL_law_410 (by decide) (fun _ => ?_) (fun h410 => absurd (by decide) h410)
  refine lv_iload hx hb dL_law_415 (lv_at hl 1 rfl) ?_
  refine lv_if_ne (tgt := 432) hx hb dL_law_417 (by decide) (fun _ => ?_) (fun h417 => absurd h417 (by decide))
  refine lv_goto (tgt := 2042) hx hb dL_law_432 (by decide) ?_
  refine lv_iinc (v := 4) (lv' := [(4, .int 4), (6, .int 0), (5, .int 1), (3, .ref o), (2, .ref (b 0)), (1, .ref (a 0)), (0, .ref sb)]) hx hb dL_law_2042 hl (k := 2) rfl (by decide) (by decide) rfl (fun ls hl => ?_)
  refine lv_goto (tgt := 23) hx hb dL_law_2045 (by decide) ?_
  refine lv_iload hx hb dL_law_23 (lv_at hl 0 rfl) ?_
  refine lv_aload_n hx hb dL_law_25 rfl (lv_at hl 6 rfl) ?_
  refine va_slen hx hb hX hbl (Nat.not_le_of_lt hbl) hG.2.2.2.1 dL_law_26 ?_
  refine W.eq (g2 := F0 m 27 ls [.int 4, .int 4]) (by rw [hL4]; rfl) ?_
  refine lv_iconst (v := 4) hx hb dL_law_27 (by decide) ?_
  refine lv_isub hx hb dL_law_28 ?_
  refine W.eq (g2 := F0 m 29 ls [.int 0, .int 4]) rfl ?_
  refine lv_icmp_gt (tgt := 2048) hx hb dL_law_29 (by decide) (fun _ => ?_) (fun h29 => absurd (by decide) h29)
  refine lv_iconst (v := 1) hx hb dL_law_2048 (by decide) ?_
  refine W.widen (k := 600002) (n := 7302232) (Nat.le_of_ble_eq_true rfl) (Nat.le_of_ble_eq_true rfl) ?_
  refine va_forget (fun q hq => hG.2.2.2.1.2.2 q hq) ?_
  refine W.base ?_
  exact lw_ret (Drawn.sameBut.refl s.drawn lw_cs) hx hb hr hlocks dL_law_2049
theorem dL_law_559 : decode code 559 = .ok (.aload_n 1, 1) := by decide +kernel
theorem dL_law_560 : decode code 560 = .ok (.aload_n 0, 1) := by decide +kernel
theorem dL_law_561 : decode code 561 = .ok (.iload 4, 2) := by decide +kernel
theorem dL_law_563 : decode code 563 = .ok (.iconst 1, 1) := by decide +kernel
theorem dL_law_564 : decode code 564 = .ok (.iadd, 1) := by decide +kernel
theorem dL_law_565 : decode code 565 = .ok (.iaload, 1) := by decide +kernel
theorem dL_law_566 : decode code 566 = .ok (.aload_n 0, 1) := by decide +kernel
theorem dL_law_567 : decode code 567 = .ok (.iload 4, 2) := by decide +kernel
theorem dL_law_569 : decode code 569 = .ok (.iconst 2, 1) := by decide +kernel
theorem dL_law_570 : decode code 570 = .ok (.iadd, 1) := by decide +kernel
theorem dL_law_571 : decode code 571 = .ok (.iaload, 1) := by decide +kernel
theorem dL_law_572 : decode code 572 = .ok (.aload_n 3, 1) := by decide +kernel
theorem dL_law_573 : decode code 573 = .ok (.invokestatic 135, 3) := by decide +kernel
theorem dL_law_576 : decode code 576 = .ok (.istore 5, 2) := by decide +kernel
theorem dL_law_578 : decode code 578 = .ok (.aload_n 2, 1) := by decide +kernel
theorem dL_law_579 : decode code 579 = .ok (.aload_n 0, 1) := by decide +kernel
theorem dL_law_580 : decode code 580 = .ok (.iload 4, 2) := by decide +kernel
theorem dL_law_582 : decode code 582 = .ok (.iconst 1, 1) := by decide +kernel
theorem dL_law_583 : decode code 583 = .ok (.iadd, 1) := by decide +kernel
theorem dL_law_584 : decode code 584 = .ok (.iaload, 1) := by decide +kernel
theorem dL_law_585 : decode code 585 = .ok (.aload_n 0, 1) := by decide +kernel
theorem dL_law_586 : decode code 586 = .ok (.iload 4, 2) := by decide +kernel
theorem dL_law_588 : decode code 588 = .ok (.iconst 2, 1) := by decide +kernel
theorem dL_law_589 : decode code 589 = .ok (.iadd, 1) := by decide +kernel
theorem dL_law_590 : decode code 590 = .ok (.iaload, 1) := by decide +kernel
theorem dL_law_591 : decode code 591 = .ok (.invokevirtual 137, 3) := by decide +kernel
theorem dL_law_594 : decode code 594 = .ok (.lstore 6, 2) := by decide +kernel
theorem dL_law_596 : decode code 596 = .ok (.aload_n 2, 1) := by decide +kernel
theorem dL_law_597 : decode code 597 = .ok (.invokevirtual 116, 3) := by decide +kernel
theorem dL_law_600 : decode code 600 = .ok (.iload 5, 2) := by decide +kernel
theorem dL_law_602 : decode code 602 = .ok (.if_icmp .eq 5, 3) := by decide +kernel
theorem dL_law_607 : decode code 607 = .ok (.iload 5, 2) := by decide +kernel
theorem dL_law_609 : decode code 609 = .ok (.ifCond .ne 14, 3) := by decide +kernel
theorem dL_law_623 : decode code 623 = .ok (.goto 1419, 3) := by decide +kernel
set_option maxHeartbeats 4000000 in
set_option maxRecDepth 100000 in
theorem leaf_12 {p : Program} {e : Env} {s : State} {m : MethodId} {below : List Frame} {meth : Method} {c : Code} (l : Launch) (hst : l.stackTraces = false) {D : va_G} {κ : K4} {E0 : Nat} {a b : Nat → Nat} {o sb L : Nat} {xs : Nat → Int32} (hC : CallFix p m c code 9 s #[Value.ref sb] WALL RL) (hr : meth.sig.returnType = ret) (hlocks : meth.locks = false) (hX : va_X sb L xs s s.heap) (hbl : sb < s.heap.size) (hL4 : L = 4) (hE : EA E0 D κ (fun q => s.heap.size ≤ q) s s.heap) (hT : ET s) (k_1 : -2147483648 ≤ (xs 1).toInt ∧ (xs 1).toInt ≤ 2147483647) (k_2 : -2147483648 ≤ (xs 2).toInt ∧ (xs 2).toInt ≤ 2147483647) (k_3 : -2147483648 ≤ (xs 3).toInt ∧ (xs 3).toInt ≤ 2147483647) (H : Heap) (locs : List Loc) (hG : BW D κ ((xw κ a ++ [(o, .inl (κ.2.1, 1, .inr (.inl (fun _ => 0))))]) ++ mw κ b E0 0) (fun q => s.heap.size ≤ q) s H locs) (ls : Array Slot) (hl : lv_has ls 9 [(4, .int 0), (3, .ref o), (2, .ref (b 0)), (1, .ref (a 0)), (0, .ref sb)]) : W p l e room_1 s m #[Value.ref sb] below meth c H locs 100 6000 (lw_Z below #[Value.ref sb] s) (F0 m 559 ls []) := by
  have hx := hC.1
  have hb := hC.2.1
  refine lv_aload_n hx hb dL_law_559 rfl (lv_at hl 3 rfl) ?_
  refine lv_aload_n hx hb dL_law_560 rfl (lv_at hl 4 rfl) ?_
  refine lv_iload hx hb dL_law_561 (lv_at hl 0 rfl) ?_
  refine lv_iconst (v := 1) hx hb dL_law_563 (by decide) ?_
  refine lv_iadd hx hb dL_law_564 ?_
  refine W.eq (g2 := F0 m 565 ls [.int 1, .ref sb, .ref (a 0)]) rfl ?_
  refine va_sld hx hb hX hbl (Nat.not_le_of_lt hbl) hG.2.2.2.1 (vp_box (by decide) (by rw [hL4]; decide)) dL_law_565 ?_
  refine W.eq (g2 := F0 m 566 ls [.int (xs 1), .ref (a 0)]) rfl ?_
  refine lv_aload_n hx hb dL_law_566 rfl (lv_at hl 4 rfl) ?_
  refine lv_iload hx hb dL_law_567 (lv_at hl 0 rfl) ?_
  refine lv_iconst (v := 2) hx hb dL_law_569 (by decide) ?_
  refine lv_iadd hx hb dL_law_570 ?_
  refine W.eq (g2 := F0 m 571 ls [.int 2, .ref sb, .int (xs 1), .ref (a 0)]) rfl ?_
  refine va_sld hx hb hX hbl (Nat.not_le_of_lt hbl) hG.2.2.2.1 (vp_box (by decide) (by rw [hL4]; decide)) dL_law_571 ?_
  refine W.eq (g2 := F0 m 572 ls [.int (xs 2), .int (xs 1), .ref (a 0)]) rfl ?_
  refine lv_aload_n hx hb dL_law_572 rfl (lv_at hl 1 rfl) ?_
  have cut573 : Cut ((xw κ a ++ [(o, .inl (κ.2.1, 1, .inr (.inl (fun _ => 0))))]) ++ mw κ b E0 0) ([(a 0, .inr (7, [.ref (a 1), .ref (a 7), .ref (a 12), .ref (a 23), .ref (a 28), .ref (a 33), .ref (a 37), .ref (a 41), .int (-1), .int 0])), (a 1, .inr (0, [.ref (a 2), .ref (a 3), .ref (a 4), .ref (a 5), .ref (a 6), .int 0])), (a 2, .inl (κ.1, 4, .inl (fun _ => 1000))), (a 3, .inl (κ.1, 10, .inl (fun _ => 0))), (a 4, .inl (κ.1, 10, .inl (fun _ => 0))), (a 5, .inl (κ.1, 10, .inl (fun _ => 0))), (a 6, .inl (κ.2.2.1, 10, .inl (fun _ => 0))), (a 7, .inr (1, [.ref (a 8), .int 0, .int 0, .int 0])), (a 8, .inr (4, [.ref (a 9), .ref (a 10), .ref (a 11), .int 0])), (a 9, .inl (κ.1, 10, .inl (fun _ => 0))), (a 10, .inl (κ.2.1, 10, .inr (.inl (fun _ => 0)))), (a 11, .inl (κ.2.1, 10, .inr (.inl (fun _ => 0)))), (a 12, .inr (3, [.ref (a 13), .ref (a 14), .ref (a 15), .ref (a 16), .ref (a 17), .ref (a 18), .int 0, .ref (a 19), .ref (a 20), .ref (a 21), .ref (a 22), .int 0])), (a 13, .inl (κ.1, 60, .inl (fun _ => 0))), (a 14, .inl (κ.1, 60, .inl (fun _ => 0))), (a 15, .inl (κ.1, 60, .inl (fun _ => 0))), (a 16, .inl (κ.1, 60, .inl (fun _ => 0))), (a 17, .inl (κ.2.2.1, 60, .inl (fun _ => 0))), (a 18, .inl (κ.2.2.1, 60, .inl (fun _ => 0))), (a 19, .inl (κ.1, 600, .inl (fun _ => 0))), (a 20, .inl (κ.1, 600, .inl (fun _ => 0))), (a 21, .inl (κ.2.1, 600, .inr (.inl (fun _ => 0)))), (a 22, .inl (κ.2.1, 600, .inr (.inl (fun _ => 0)))), (a 23, .inr (2, [.ref (a 24), .ref (a 25), .ref (a 26), .ref (a 27), .int 0])), (a 24, .inl (κ.1, 20, .inl (fun _ => 0))), (a 25, .inl (κ.1, 20, .inl (fun _ => 0))), (a 26, .inl (κ.1, 20, .inl (fun _ => 0))), (a 27, .inl (κ.2.2.1, 20, .inl (fun _ => 0))), (a 28, .inr (5, [.ref (a 29), .ref (a 30), .ref (a 31), .ref (a 32), .int 0])), (a 29, .inl (κ.1, 40, .inl (fun _ => 0))), (a 30, .inl (κ.1, 40, .inl (fun _ => 0))), (a 31, .inl (κ.1, 40, .inl (fun _ => 0))), (a 32, .inl (κ.1, 40, .inl (fun _ => 0))), (a 33, .inr (6, [.ref (a 12), .ref (a 28), .ref (a 34), .ref (a 35), .ref (a 36)])), (a 34, .inl (κ.1, 600, .inl (fun _ => (-1)))), (a 35, .inl (κ.1, 40, .inl (fun _ => (-1)))), (a 36, .inl (κ.1, 40, .inl (fun _ => (-1)))), (a 37, .inr (6, [.ref (a 12), .ref (a 28), .ref (a 38), .ref (a 39), .ref (a 40)])), (a 38, .inl (κ.1, 600, .inl (fun _ => (-1)))), (a 39, .inl (κ.1, 40, .inl (fun _ => (-1)))), (a 40, .inl (κ.1, 40, .inl (fun _ => (-1)))), (a 41, .inr (4, [.ref (a 42), .ref (a 43), .ref (a 44), .int 0])), (a 42, .inl (κ.1, 10, .inl (fun _ => 0))), (a 43, .inl (κ.2.1, 10, .inr (.inl (fun _ => 0)))), (a 44, .inl (κ.2.1, 10, .inr (.inl (fun _ => 0)))), (o, .inl (κ.2.1, 1, .inr (.inl (fun _ => 0))))]) ([(b 0, .inr (9, [.int 0, .ref (b 1), .ref (b 2), .ref (b 3), .ref (b 4), .ref (b 5), .ref (b 6), .ref (b 7), .null, .int 0, .int (-1), .int 0, .int 0, .int 0, .ref (b 8)])), (b 1, .inl (κ.1, 4, .inl (fun _ => 1000))), (b 2, .inr (10, [.int 0, .ref E0, .int 0])), (b 3, .inr (10, [.int 0, .ref E0, .int 0])), (b 4, .inr (10, [.int 0, .ref E0, .int 0])), (b 5, .inr (10, [.int 0, .ref E0, .int 0])), (b 6, .inr (10, [.int 0, .ref E0, .int 0])), (b 7, .inr (10, [.int 0, .ref E0, .int 0])), (b 8, .inr (10, [.int 0, .ref E0, .int 0]))]) := (Cut.idx [0, 1, 2, 3, 4, 5, 6, 7, 8, 9, 10, 11, 12, 13, 14, 15, 16, 17, 18, 19, 20, 21, 22, 23, 24, 25, 26, 27, 28, 29, 30, 31, 32, 33, 34, 35, 36, 37, 38, 39, 40, 41, 42, 43, 44, 45] [46, 47, 48, 49, 50, 51, 52, 53, 54] rfl rfl (by decide) (by decide) (by decide))
  refine zc_i hG cut573 (zr_H (n := 4) (As := [.ref (a 0), .int (xs 1), .int (xs 2), .ref o]) (rest := []) hC hG hE hT cut573 (z_69_leg l hst D κ E0 H.size a (xs 1) (xs 2) o ⟨by omega, by omega⟩ ⟨by omega, by omega⟩) w428 w143 w430 w429 (by decide +kernel) ⟨Nat.le_of_ble_eq_true rfl, Nat.le_of_ble_eq_true rfl⟩ rfl hl.1 rfl (Nat.le_of_ble_eq_true rfl) dL_law_573 ⟨Nat.le_of_ble_eq_true rfl, Nat.le_of_ble_eq_true rfl⟩) (fun z1 H locs hG => ?_)
  have hG : BW D κ (([(b 0, .inr (9, [.int 0, .ref (b 1), .ref (b 2), .ref (b 3), .ref (b 4), .ref (b 5), .ref (b 6), .ref (b 7), .null, .int 0, .int (-1), .int 0, .int 0, .int 0, .ref (b 8)])), (b 1, .inl (κ.1, 4, .inl (fun _ => 1000))), (b 2, .inr (10, [.int 0, .ref E0, .int 0])), (b 3, .inr (10, [.int 0, .ref E0, .int 0])), (b 4, .inr (10, [.int 0, .ref E0, .int 0])), (b 5, .inr (10, [.int 0, .ref E0, .int 0])), (b 6, .inr (10, [.int 0, .ref E0, .int 0])), (b 7, .inr (10, [.int 0, .ref E0, .int 0])), (b 8, .inr (10, [.int 0, .ref E0, .int 0]))]) ++ ([(o, .inl (κ.2.1, 1, .inr (.inl (fun _ => 0))))])) _ s H locs := hG
  refine lv_istore (lv' := [(5, .int 1), (4, .int 0), (3, .ref o), (2, .ref (b 0)), (1, .ref (a 0)), (0, .ref sb)]) hx hb dL_law_576 hl (by decide) rfl (fun ls hl => ?_)
  refine lv_aload_n hx hb dL_law_578 rfl (lv_at hl 3 rfl) ?_
  refine lv_aload_n hx hb dL_law_579 rfl (lv_at hl 5 rfl) ?_
  refine lv_iload hx hb dL_law_580 (lv_at hl 1 rfl) ?_
  refine lv_iconst (v := 1) hx hb dL_law_582 (by decide) ?_
  refine lv_iadd hx hb dL_law_583 ?_
  refine W.eq (g2 := F0 m 584 ls [.int 1, .ref sb, .ref (b 0)]) rfl ?_
  refine va_sld hx hb hX hbl (Nat.not_le_of_lt hbl) hG.2.2.2.1 (vp_box (by decide) (by rw [hL4]; decide)) dL_law_584 ?_
  refine W.eq (g2 := F0 m 585 ls [.int (xs 1), .ref (b 0)]) rfl ?_
  refine lv_aload_n hx hb dL_law_585 rfl (lv_at hl 5 rfl) ?_
  refine lv_iload hx hb dL_law_586 (lv_at hl 1 rfl) ?_
  refine lv_iconst (v := 2) hx hb dL_law_588 (by decide) ?_
  refine lv_iadd hx hb dL_law_589 ?_
  refine W.eq (g2 := F0 m 590 ls [.int 2, .ref sb, .int (xs 1), .ref (b 0)]) rfl ?_
  refine va_sld hx hb hX hbl (Nat.not_le_of_lt hbl) hG.2.2.2.1 (vp_box (by decide) (by rw [hL4]; decide)) dL_law_590 ?_
  refine W.eq (g2 := F0 m 591 ls [.int (xs 2), .int (xs 1), .ref (b 0)]) rfl ?_
  have cut591 : Cut (([(b 0, .inr (9, [.int 0, .ref (b 1), .ref (b 2), .ref (b 3), .ref (b 4), .ref (b 5), .ref (b 6), .ref (b 7), .null, .int 0, .int (-1), .int 0, .int 0, .int 0, .ref (b 8)])), (b 1, .inl (κ.1, 4, .inl (fun _ => 1000))), (b 2, .inr (10, [.int 0, .ref E0, .int 0])), (b 3, .inr (10, [.int 0, .ref E0, .int 0])), (b 4, .inr (10, [.int 0, .ref E0, .int 0])), (b 5, .inr (10, [.int 0, .ref E0, .int 0])), (b 6, .inr (10, [.int 0, .ref E0, .int 0])), (b 7, .inr (10, [.int 0, .ref E0, .int 0])), (b 8, .inr (10, [.int 0, .ref E0, .int 0]))]) ++ ([(o, .inl (κ.2.1, 1, .inr (.inl (fun _ => 0))))])) (mw κ b E0 0) ([(o, .inl (κ.2.1, 1, .inr (.inl (fun _ => 0))))]) := (Cut.idx [0, 1, 2, 3, 4, 5, 6, 7, 8] [9] rfl rfl (by decide) (by decide) (by decide))
  refine zc_l hG cut591 (zr_V (k := 0) (ci := 9) (n := 2) (As := [.int (xs 1), .int (xs 2)]) (rest := []) hC hG hE hT cut591 (z_70_leg l hst D κ E0 H.size b (xs 1) (xs 2) ⟨by omega, by omega⟩ ⟨by omega, by omega⟩) rfl rfl w456 w5 w459 w457 w458 (by decide +kernel) ⟨Nat.le_of_ble_eq_true rfl, Nat.le_of_ble_eq_true rfl⟩ rfl hl.1 rfl (Nat.le_of_ble_eq_true rfl) dL_law_591 ⟨Nat.le_of_ble_eq_true rfl, Nat.le_of_ble_eq_true rfl⟩) (fun z2 H locs hG => ?_)
  have hG : BW D κ (([(o, .inl (κ.2.1, 1, .inr (.inl (fun _ => 0))))]) ++ (mw κ b E0 1)) _ s H locs := hG
  refine lv_lstore (lv' := [(6, .long 0), (5, .int 1), (4, .int 0), (3, .ref o), (2, .ref (b 0)), (1, .ref (a 0)), (0, .ref sb)]) hx hb dL_law_594 hl (by decide) rfl (fun ls hl => ?_)
  refine lv_aload_n hx hb dL_law_596 rfl (lv_at hl 4 rfl) ?_
  have cut597 : Cut (([(o, .inl (κ.2.1, 1, .inr (.inl (fun _ => 0))))]) ++ (mw κ b E0 1)) ([(b 0, .inr (9, [.int 1, .ref (b 1), .ref (b 2), .ref (b 3), .ref (b 4), .ref (b 5), .ref (b 6), .ref (b 7), .null, .int 0, .int (-1), .int 0, .int 0, .int 0, .ref (b 8)]))]) ([(o, .inl (κ.2.1, 1, .inr (.inl (fun _ => 0)))), (b 1, .inl (κ.1, 4, .inl (fun _ => 1000))), (b 2, .inr (10, [.int 0, .ref E0, .int 0])), (b 3, .inr (10, [.int 0, .ref E0, .int 0])), (b 4, .inr (10, [.int 0, .ref E0, .int 0])), (b 5, .inr (10, [.int 0, .ref E0, .int 0])), (b 6, .inr (10, [.int 0, .ref E0, .int 0])), (b 7, .inr (10, [.int 0, .ref E0, .int 0])), (b 8, .inr (10, [.int 0, .ref E0, .int 0]))]) := (Cut.idx [1] [0, 2, 3, 4, 5, 6, 7, 8, 9] rfl rfl (by decide) (by decide) (by decide))
  refine zc_i hG cut597 (zr_V (k := 1) (ci := 9) (n := 0) (As := []) (rest := []) hC hG hE hT cut597 (z_6_thrown l hst D κ E0 H.size b) rfl rfl w200 w5 w203 w201 w202 (by decide +kernel) ⟨Nat.le_of_ble_eq_true rfl, Nat.le_of_ble_eq_true rfl⟩ rfl hl.1 rfl (Nat.le_of_ble_eq_true rfl) dL_law_597 ⟨Nat.le_of_ble_eq_true rfl, Nat.le_of_ble_eq_true rfl⟩) (fun z3 H locs hG => ?_)
  have hG : BW D κ (([(o, .inl (κ.2.1, 1, .inr (.inl (fun _ => 0)))), (b 1, .inl (κ.1, 4, .inl (fun _ => 1000))), (b 2, .inr (10, [.int 0, .ref E0, .int 0])), (b 3, .inr (10, [.int 0, .ref E0, .int 0])), (b 4, .inr (10, [.int 0, .ref E0, .int 0])), (b 5, .inr (10, [.int 0, .ref E0, .int 0])), (b 6, .inr (10, [.int 0, .ref E0, .int 0])), (b 7, .inr (10, [.int 0, .ref E0, .int 0])), (b 8, .inr (10, [.int 0, .ref E0, .int 0]))]) ++ ([(b 0, .inr (9, [.int 1, .ref (b 1), .ref (b 2), .ref (b 3), .ref (b 4), .ref (b 5), .ref (b 6), .ref (b 7), .null, .int 0, .int (-1), .int 0, .int 0, .int 0, .ref (b 8)]))])) _ s H locs := hG
  refine lv_iload hx hb dL_law_600 (lv_at hl 1 rfl) ?_
  refine lv_icmp_eq (tgt := 607) hx hb dL_law_602 (by decide) (fun _ => ?_) (fun h602 => absurd (by decide) h602)
  refine lv_iload hx hb dL_law_607 (lv_at hl 1 rfl) ?_
  refine lv_if_ne (tgt := 623) hx hb dL_law_609 (by decide) (fun _ => ?_) (fun h609 => absurd h609 (by decide))
  refine lv_goto (tgt := 2042) hx hb dL_law_623 (by decide) ?_
  refine lv_iinc (v := 4) (lv' := [(4, .int 4), (6, .long 0), (5, .int 1), (3, .ref o), (2, .ref (b 0)), (1, .ref (a 0)), (0, .ref sb)]) hx hb dL_law_2042 hl (k := 2) rfl (by decide) (by decide) rfl (fun ls hl => ?_)
  refine lv_goto (tgt := 23) hx hb dL_law_2045 (by decide) ?_
  refine lv_iload hx hb dL_law_23 (lv_at hl 0 rfl) ?_
  refine lv_aload_n hx hb dL_law_25 rfl (lv_at hl 6 rfl) ?_
  refine va_slen hx hb hX hbl (Nat.not_le_of_lt hbl) hG.2.2.2.1 dL_law_26 ?_
  refine W.eq (g2 := F0 m 27 ls [.int 4, .int 4]) (by rw [hL4]; rfl) ?_
  refine lv_iconst (v := 4) hx hb dL_law_27 (by decide) ?_
  refine lv_isub hx hb dL_law_28 ?_
  refine W.eq (g2 := F0 m 29 ls [.int 0, .int 4]) rfl ?_
  refine lv_icmp_gt (tgt := 2048) hx hb dL_law_29 (by decide) (fun _ => ?_) (fun h29 => absurd (by decide) h29)
  refine lv_iconst (v := 1) hx hb dL_law_2048 (by decide) ?_
  refine W.widen (k := 600002) (n := 7302232) (Nat.le_of_ble_eq_true rfl) (Nat.le_of_ble_eq_true rfl) ?_
  refine va_forget (fun q hq => hG.2.2.2.1.2.2 q hq) ?_
  refine W.base ?_
  exact lw_ret (Drawn.sameBut.refl s.drawn lw_cs) hx hb hr hlocks dL_law_2049
theorem dL_law_683 : decode code 683 = .ok (.aload_n 1, 1) := by decide +kernel
theorem dL_law_684 : decode code 684 = .ok (.aload_n 0, 1) := by decide +kernel
theorem dL_law_685 : decode code 685 = .ok (.iload 4, 2) := by decide +kernel
theorem dL_law_687 : decode code 687 = .ok (.iconst 1, 1) := by decide +kernel
theorem dL_law_688 : decode code 688 = .ok (.iadd, 1) := by decide +kernel
theorem dL_law_689 : decode code 689 = .ok (.iaload, 1) := by decide +kernel
theorem dL_law_690 : decode code 690 = .ok (.aload_n 3, 1) := by decide +kernel
theorem dL_law_691 : decode code 691 = .ok (.invokestatic 146, 3) := by decide +kernel
theorem dL_law_694 : decode code 694 = .ok (.istore 5, 2) := by decide +kernel
theorem dL_law_696 : decode code 696 = .ok (.aload_n 2, 1) := by decide +kernel
theorem dL_law_697 : decode code 697 = .ok (.aload_n 0, 1) := by decide +kernel
theorem dL_law_698 : decode code 698 = .ok (.iload 4, 2) := by decide +kernel
theorem dL_law_700 : decode code 700 = .ok (.iconst 1, 1) := by decide +kernel
theorem dL_law_701 : decode code 701 = .ok (.iadd, 1) := by decide +kernel
theorem dL_law_702 : decode code 702 = .ok (.iaload, 1) := by decide +kernel
theorem dL_law_703 : decode code 703 = .ok (.invokevirtual 148, 3) := by decide +kernel
theorem dL_law_706 : decode code 706 = .ok (.istore 6, 2) := by decide +kernel
theorem dL_law_708 : decode code 708 = .ok (.aload_n 2, 1) := by decide +kernel
theorem dL_law_709 : decode code 709 = .ok (.invokevirtual 116, 3) := by decide +kernel
theorem dL_law_712 : decode code 712 = .ok (.iload 5, 2) := by decide +kernel
theorem dL_law_714 : decode code 714 = .ok (.if_icmp .eq 5, 3) := by decide +kernel
theorem dL_law_719 : decode code 719 = .ok (.iload 5, 2) := by decide +kernel
theorem dL_law_721 : decode code 721 = .ok (.ifCond .ne 15, 3) := by decide +kernel
theorem dL_law_736 : decode code 736 = .ok (.goto 1306, 3) := by decide +kernel
set_option maxHeartbeats 4000000 in
set_option maxRecDepth 100000 in
theorem leaf_13 {p : Program} {e : Env} {s : State} {m : MethodId} {below : List Frame} {meth : Method} {c : Code} (l : Launch) (hst : l.stackTraces = false) {D : va_G} {κ : K4} {E0 : Nat} {a b : Nat → Nat} {o sb L : Nat} {xs : Nat → Int32} (hC : CallFix p m c code 9 s #[Value.ref sb] WALL RL) (hr : meth.sig.returnType = ret) (hlocks : meth.locks = false) (hX : va_X sb L xs s s.heap) (hbl : sb < s.heap.size) (hL4 : L = 4) (hE : EA E0 D κ (fun q => s.heap.size ≤ q) s s.heap) (hT : ET s) (k_1 : -2147483648 ≤ (xs 1).toInt ∧ (xs 1).toInt ≤ 2147483647) (k_2 : -2147483648 ≤ (xs 2).toInt ∧ (xs 2).toInt ≤ 2147483647) (k_3 : -2147483648 ≤ (xs 3).toInt ∧ (xs 3).toInt ≤ 2147483647) (H : Heap) (locs : List Loc) (hG : BW D κ ((xw κ a ++ [(o, .inl (κ.2.1, 1, .inr (.inl (fun _ => 0))))]) ++ mw κ b E0 0) (fun q => s.heap.size ≤ q) s H locs) (ls : Array Slot) (hl : lv_has ls 9 [(4, .int 0), (3, .ref o), (2, .ref (b 0)), (1, .ref (a 0)), (0, .ref sb)]) : W p l e room_1 s m #[Value.ref sb] below meth c H locs 100 6000 (lw_Z below #[Value.ref sb] s) (F0 m 683 ls []) := by
  have hx := hC.1
  have hb := hC.2.1
  refine lv_aload_n hx hb dL_law_683 rfl (lv_at hl 3 rfl) ?_
  refine lv_aload_n hx hb dL_law_684 rfl (lv_at hl 4 rfl) ?_
  refine lv_iload hx hb dL_law_685 (lv_at hl 0 rfl) ?_
  refine lv_iconst (v := 1) hx hb dL_law_687 (by decide) ?_
  refine lv_iadd hx hb dL_law_688 ?_
  refine W.eq (g2 := F0 m 689 ls [.int 1, .ref sb, .ref (a 0)]) rfl ?_
  refine va_sld hx hb hX hbl (Nat.not_le_of_lt hbl) hG.2.2.2.1 (vp_box (by decide) (by rw [hL4]; decide)) dL_law_689 ?_
  refine W.eq (g2 := F0 m 690 ls [.int (xs 1), .ref (a 0)]) rfl ?_
  refine lv_aload_n hx hb dL_law_690 rfl (lv_at hl 1 rfl) ?_
  have cut691 : Cut ((xw κ a ++ [(o, .inl (κ.2.1, 1, .inr (.inl (fun _ => 0))))]) ++ mw κ b E0 0) ([(a 0, .inr (7, [.ref (a 1), .ref (a 7), .ref (a 12), .ref (a 23), .ref (a 28), .ref (a 33), .ref (a 37), .ref (a 41), .int (-1), .int 0])), (a 1, .inr (0, [.ref (a 2), .ref (a 3), .ref (a 4), .ref (a 5), .ref (a 6), .int 0])), (a 2, .inl (κ.1, 4, .inl (fun _ => 1000))), (a 3, .inl (κ.1, 10, .inl (fun _ => 0))), (a 4, .inl (κ.1, 10, .inl (fun _ => 0))), (a 5, .inl (κ.1, 10, .inl (fun _ => 0))), (a 6, .inl (κ.2.2.1, 10, .inl (fun _ => 0))), (a 7, .inr (1, [.ref (a 8), .int 0, .int 0, .int 0])), (a 8, .inr (4, [.ref (a 9), .ref (a 10), .ref (a 11), .int 0])), (a 9, .inl (κ.1, 10, .inl (fun _ => 0))), (a 10, .inl (κ.2.1, 10, .inr (.inl (fun _ => 0)))), (a 11, .inl (κ.2.1, 10, .inr (.inl (fun _ => 0)))), (a 12, .inr (3, [.ref (a 13), .ref (a 14), .ref (a 15), .ref (a 16), .ref (a 17), .ref (a 18), .int 0, .ref (a 19), .ref (a 20), .ref (a 21), .ref (a 22), .int 0])), (a 13, .inl (κ.1, 60, .inl (fun _ => 0))), (a 14, .inl (κ.1, 60, .inl (fun _ => 0))), (a 15, .inl (κ.1, 60, .inl (fun _ => 0))), (a 16, .inl (κ.1, 60, .inl (fun _ => 0))), (a 17, .inl (κ.2.2.1, 60, .inl (fun _ => 0))), (a 18, .inl (κ.2.2.1, 60, .inl (fun _ => 0))), (a 19, .inl (κ.1, 600, .inl (fun _ => 0))), (a 20, .inl (κ.1, 600, .inl (fun _ => 0))), (a 21, .inl (κ.2.1, 600, .inr (.inl (fun _ => 0)))), (a 22, .inl (κ.2.1, 600, .inr (.inl (fun _ => 0)))), (a 23, .inr (2, [.ref (a 24), .ref (a 25), .ref (a 26), .ref (a 27), .int 0])), (a 24, .inl (κ.1, 20, .inl (fun _ => 0))), (a 25, .inl (κ.1, 20, .inl (fun _ => 0))), (a 26, .inl (κ.1, 20, .inl (fun _ => 0))), (a 27, .inl (κ.2.2.1, 20, .inl (fun _ => 0))), (a 28, .inr (5, [.ref (a 29), .ref (a 30), .ref (a 31), .ref (a 32), .int 0])), (a 29, .inl (κ.1, 40, .inl (fun _ => 0))), (a 30, .inl (κ.1, 40, .inl (fun _ => 0))), (a 31, .inl (κ.1, 40, .inl (fun _ => 0))), (a 32, .inl (κ.1, 40, .inl (fun _ => 0))), (a 33, .inr (6, [.ref (a 12), .ref (a 28), .ref (a 34), .ref (a 35), .ref (a 36)])), (a 34, .inl (κ.1, 600, .inl (fun _ => (-1)))), (a 35, .inl (κ.1, 40, .inl (fun _ => (-1)))), (a 36, .inl (κ.1, 40, .inl (fun _ => (-1)))), (a 37, .inr (6, [.ref (a 12), .ref (a 28), .ref (a 38), .ref (a 39), .ref (a 40)])), (a 38, .inl (κ.1, 600, .inl (fun _ => (-1)))), (a 39, .inl (κ.1, 40, .inl (fun _ => (-1)))), (a 40, .inl (κ.1, 40, .inl (fun _ => (-1)))), (a 41, .inr (4, [.ref (a 42), .ref (a 43), .ref (a 44), .int 0])), (a 42, .inl (κ.1, 10, .inl (fun _ => 0))), (a 43, .inl (κ.2.1, 10, .inr (.inl (fun _ => 0)))), (a 44, .inl (κ.2.1, 10, .inr (.inl (fun _ => 0)))), (o, .inl (κ.2.1, 1, .inr (.inl (fun _ => 0))))]) ([(b 0, .inr (9, [.int 0, .ref (b 1), .ref (b 2), .ref (b 3), .ref (b 4), .ref (b 5), .ref (b 6), .ref (b 7), .null, .int 0, .int (-1), .int 0, .int 0, .int 0, .ref (b 8)])), (b 1, .inl (κ.1, 4, .inl (fun _ => 1000))), (b 2, .inr (10, [.int 0, .ref E0, .int 0])), (b 3, .inr (10, [.int 0, .ref E0, .int 0])), (b 4, .inr (10, [.int 0, .ref E0, .int 0])), (b 5, .inr (10, [.int 0, .ref E0, .int 0])), (b 6, .inr (10, [.int 0, .ref E0, .int 0])), (b 7, .inr (10, [.int 0, .ref E0, .int 0])), (b 8, .inr (10, [.int 0, .ref E0, .int 0]))]) := (Cut.idx [0, 1, 2, 3, 4, 5, 6, 7, 8, 9, 10, 11, 12, 13, 14, 15, 16, 17, 18, 19, 20, 21, 22, 23, 24, 25, 26, 27, 28, 29, 30, 31, 32, 33, 34, 35, 36, 37, 38, 39, 40, 41, 42, 43, 44, 45] [46, 47, 48, 49, 50, 51, 52, 53, 54] rfl rfl (by decide) (by decide) (by decide))
  refine zc_i hG cut691 (zr_H (n := 3) (As := [.ref (a 0), .int (xs 1), .ref o]) (rest := []) hC hG hE hT cut691 (z_73_turnBack l hst D κ E0 H.size a (xs 1) o ⟨by omega, by omega⟩) w620 w143 w622 w621 (by decide +kernel) ⟨Nat.le_of_ble_eq_true rfl, Nat.le_of_ble_eq_true rfl⟩ rfl hl.1 rfl (Nat.le_of_ble_eq_true rfl) dL_law_691 ⟨Nat.le_of_ble_eq_true rfl, Nat.le_of_ble_eq_true rfl⟩) (fun z1 H locs hG => ?_)
  have hG : BW D κ (([(b 0, .inr (9, [.int 0, .ref (b 1), .ref (b 2), .ref (b 3), .ref (b 4), .ref (b 5), .ref (b 6), .ref (b 7), .null, .int 0, .int (-1), .int 0, .int 0, .int 0, .ref (b 8)])), (b 1, .inl (κ.1, 4, .inl (fun _ => 1000))), (b 2, .inr (10, [.int 0, .ref E0, .int 0])), (b 3, .inr (10, [.int 0, .ref E0, .int 0])), (b 4, .inr (10, [.int 0, .ref E0, .int 0])), (b 5, .inr (10, [.int 0, .ref E0, .int 0])), (b 6, .inr (10, [.int 0, .ref E0, .int 0])), (b 7, .inr (10, [.int 0, .ref E0, .int 0])), (b 8, .inr (10, [.int 0, .ref E0, .int 0]))]) ++ ([(o, .inl (κ.2.1, 1, .inr (.inl (fun _ => 0))))])) _ s H locs := hG
  refine lv_istore (lv' := [(5, .int 1), (4, .int 0), (3, .ref o), (2, .ref (b 0)), (1, .ref (a 0)), (0, .ref sb)]) hx hb dL_law_694 hl (by decide) rfl (fun ls hl => ?_)
  refine lv_aload_n hx hb dL_law_696 rfl (lv_at hl 3 rfl) ?_
  refine lv_aload_n hx hb dL_law_697 rfl (lv_at hl 5 rfl) ?_
  refine lv_iload hx hb dL_law_698 (lv_at hl 1 rfl) ?_
  refine lv_iconst (v := 1) hx hb dL_law_700 (by decide) ?_
  refine lv_iadd hx hb dL_law_701 ?_
  refine W.eq (g2 := F0 m 702 ls [.int 1, .ref sb, .ref (b 0)]) rfl ?_
  refine va_sld hx hb hX hbl (Nat.not_le_of_lt hbl) hG.2.2.2.1 (vp_box (by decide) (by rw [hL4]; decide)) dL_law_702 ?_
  refine W.eq (g2 := F0 m 703 ls [.int (xs 1), .ref (b 0)]) rfl ?_
  have cut703 : Cut (([(b 0, .inr (9, [.int 0, .ref (b 1), .ref (b 2), .ref (b 3), .ref (b 4), .ref (b 5), .ref (b 6), .ref (b 7), .null, .int 0, .int (-1), .int 0, .int 0, .int 0, .ref (b 8)])), (b 1, .inl (κ.1, 4, .inl (fun _ => 1000))), (b 2, .inr (10, [.int 0, .ref E0, .int 0])), (b 3, .inr (10, [.int 0, .ref E0, .int 0])), (b 4, .inr (10, [.int 0, .ref E0, .int 0])), (b 5, .inr (10, [.int 0, .ref E0, .int 0])), (b 6, .inr (10, [.int 0, .ref E0, .int 0])), (b 7, .inr (10, [.int 0, .ref E0, .int 0])), (b 8, .inr (10, [.int 0, .ref E0, .int 0]))]) ++ ([(o, .inl (κ.2.1, 1, .inr (.inl (fun _ => 0))))])) (mw κ b E0 0) ([(o, .inl (κ.2.1, 1, .inr (.inl (fun _ => 0))))]) := (Cut.idx [0, 1, 2, 3, 4, 5, 6, 7, 8] [9] rfl rfl (by decide) (by decide) (by decide))
  refine zc_i hG cut703 (zr_V (k := 0) (ci := 9) (n := 1) (As := [.int (xs 1)]) (rest := []) hC hG hE hT cut703 (z_76_turnBack l hst D κ E0 H.size b (xs 1) ⟨by omega, by omega⟩) rfl rfl w646 w5 w649 w647 w648 (by decide +kernel) ⟨Nat.le_of_ble_eq_true rfl, Nat.le_of_ble_eq_true rfl⟩ rfl hl.1 rfl (Nat.le_of_ble_eq_true rfl) dL_law_703 ⟨Nat.le_of_ble_eq_true rfl, Nat.le_of_ble_eq_true rfl⟩) (fun z2 H locs hG => ?_)
  have hG : BW D κ (([(o, .inl (κ.2.1, 1, .inr (.inl (fun _ => 0))))]) ++ (mw κ b E0 1)) _ s H locs := hG
  refine lv_istore (lv' := [(6, .int 0), (5, .int 1), (4, .int 0), (3, .ref o), (2, .ref (b 0)), (1, .ref (a 0)), (0, .ref sb)]) hx hb dL_law_706 hl (by decide) rfl (fun ls hl => ?_)
  refine lv_aload_n hx hb dL_law_708 rfl (lv_at hl 4 rfl) ?_
  have cut709 : Cut (([(o, .inl (κ.2.1, 1, .inr (.inl (fun _ => 0))))]) ++ (mw κ b E0 1)) ([(b 0, .inr (9, [.int 1, .ref (b 1), .ref (b 2), .ref (b 3), .ref (b 4), .ref (b 5), .ref (b 6), .ref (b 7), .null, .int 0, .int (-1), .int 0, .int 0, .int 0, .ref (b 8)]))]) ([(o, .inl (κ.2.1, 1, .inr (.inl (fun _ => 0)))), (b 1, .inl (κ.1, 4, .inl (fun _ => 1000))), (b 2, .inr (10, [.int 0, .ref E0, .int 0])), (b 3, .inr (10, [.int 0, .ref E0, .int 0])), (b 4, .inr (10, [.int 0, .ref E0, .int 0])), (b 5, .inr (10, [.int 0, .ref E0, .int 0])), (b 6, .inr (10, [.int 0, .ref E0, .int 0])), (b 7, .inr (10, [.int 0, .ref E0, .int 0])), (b 8, .inr (10, [.int 0, .ref E0, .int 0]))]) := (Cut.idx [1] [0, 2, 3, 4, 5, 6, 7, 8, 9] rfl rfl (by decide) (by decide) (by decide))
  refine zc_i hG cut709 (zr_V (k := 1) (ci := 9) (n := 0) (As := []) (rest := []) hC hG hE hT cut709 (z_6_thrown l hst D κ E0 H.size b) rfl rfl w200 w5 w203 w201 w202 (by decide +kernel) ⟨Nat.le_of_ble_eq_true rfl, Nat.le_of_ble_eq_true rfl⟩ rfl hl.1 rfl (Nat.le_of_ble_eq_true rfl) dL_law_709 ⟨Nat.le_of_ble_eq_true rfl, Nat.le_of_ble_eq_true rfl⟩) (fun z3 H locs hG => ?_)
  have hG : BW D κ (([(o, .inl (κ.2.1, 1, .inr (.inl (fun _ => 0)))), (b 1, .inl (κ.1, 4, .inl (fun _ => 1000))), (b 2, .inr (10, [.int 0, .ref E0, .int 0])), (b 3, .inr (10, [.int 0, .ref E0, .int 0])), (b 4, .inr (10, [.int 0, .ref E0, .int 0])), (b 5, .inr (10, [.int 0, .ref E0, .int 0])), (b 6, .inr (10, [.int 0, .ref E0, .int 0])), (b 7, .inr (10, [.int 0, .ref E0, .int 0])), (b 8, .inr (10, [.int 0, .ref E0, .int 0]))]) ++ ([(b 0, .inr (9, [.int 1, .ref (b 1), .ref (b 2), .ref (b 3), .ref (b 4), .ref (b 5), .ref (b 6), .ref (b 7), .null, .int 0, .int (-1), .int 0, .int 0, .int 0, .ref (b 8)]))])) _ s H locs := hG
  refine lv_iload hx hb dL_law_712 (lv_at hl 1 rfl) ?_
  refine lv_icmp_eq (tgt := 719) hx hb dL_law_714 (by decide) (fun _ => ?_) (fun h714 => absurd (by decide) h714)
  refine lv_iload hx hb dL_law_719 (lv_at hl 1 rfl) ?_
  refine lv_if_ne (tgt := 736) hx hb dL_law_721 (by decide) (fun _ => ?_) (fun h721 => absurd h721 (by decide))
  refine lv_goto (tgt := 2042) hx hb dL_law_736 (by decide) ?_
  refine lv_iinc (v := 4) (lv' := [(4, .int 4), (6, .int 0), (5, .int 1), (3, .ref o), (2, .ref (b 0)), (1, .ref (a 0)), (0, .ref sb)]) hx hb dL_law_2042 hl (k := 2) rfl (by decide) (by decide) rfl (fun ls hl => ?_)
  refine lv_goto (tgt := 23) hx hb dL_law_2045 (by decide) ?_
  refine lv_iload hx hb dL_law_23 (lv_at hl 0 rfl) ?_
  refine lv_aload_n hx hb dL_law_25 rfl (lv_at hl 6 rfl) ?_
  refine va_slen hx hb hX hbl (Nat.not_le_of_lt hbl) hG.2.2.2.1 dL_law_26 ?_
  refine W.eq (g2 := F0 m 27 ls [.int 4, .int 4]) (by rw [hL4]; rfl) ?_
  refine lv_iconst (v := 4) hx hb dL_law_27 (by decide) ?_
  refine lv_isub hx hb dL_law_28 ?_
  refine W.eq (g2 := F0 m 29 ls [.int 0, .int 4]) rfl ?_
  refine lv_icmp_gt (tgt := 2048) hx hb dL_law_29 (by decide) (fun _ => ?_) (fun h29 => absurd (by decide) h29)
  refine lv_iconst (v := 1) hx hb dL_law_2048 (by decide) ?_
  refine W.widen (k := 600002) (n := 7302232) (Nat.le_of_ble_eq_true rfl) (Nat.le_of_ble_eq_true rfl) ?_
  refine va_forget (fun q hq => hG.2.2.2.1.2.2 q hq) ?_
  refine W.base ?_
  exact lw_ret (Drawn.sameBut.refl s.drawn lw_cs) hx hb hr hlocks dL_law_2049
theorem dL_law_739 : decode code 739 = .ok (.aload_n 1, 1) := by decide +kernel
theorem dL_law_740 : decode code 740 = .ok (.aload_n 0, 1) := by decide +kernel
theorem dL_law_741 : decode code 741 = .ok (.iload 4, 2) := by decide +kernel
theorem dL_law_743 : decode code 743 = .ok (.iconst 1, 1) := by decide +kernel
theorem dL_law_744 : decode code 744 = .ok (.iadd, 1) := by decide +kernel
theorem dL_law_745 : decode code 745 = .ok (.iaload, 1) := by decide +kernel
theorem dL_law_746 : decode code 746 = .ok (.aload_n 0, 1) := by decide +kernel
theorem dL_law_747 : decode code 747 = .ok (.iload 4, 2) := by decide +kernel
theorem dL_law_749 : decode code 749 = .ok (.iconst 2, 1) := by decide +kernel
theorem dL_law_750 : decode code 750 = .ok (.iadd, 1) := by decide +kernel
theorem dL_law_751 : decode code 751 = .ok (.iaload, 1) := by decide +kernel
theorem dL_law_752 : decode code 752 = .ok (.aload_n 3, 1) := by decide +kernel
theorem dL_law_753 : decode code 753 = .ok (.invokestatic 149, 3) := by decide +kernel
theorem dL_law_756 : decode code 756 = .ok (.istore 5, 2) := by decide +kernel
theorem dL_law_758 : decode code 758 = .ok (.aload_n 2, 1) := by decide +kernel
theorem dL_law_759 : decode code 759 = .ok (.aload_n 0, 1) := by decide +kernel
theorem dL_law_760 : decode code 760 = .ok (.iload 4, 2) := by decide +kernel
theorem dL_law_762 : decode code 762 = .ok (.iconst 1, 1) := by decide +kernel
theorem dL_law_763 : decode code 763 = .ok (.iadd, 1) := by decide +kernel
theorem dL_law_764 : decode code 764 = .ok (.iaload, 1) := by decide +kernel
theorem dL_law_765 : decode code 765 = .ok (.aload_n 0, 1) := by decide +kernel
theorem dL_law_766 : decode code 766 = .ok (.iload 4, 2) := by decide +kernel
theorem dL_law_768 : decode code 768 = .ok (.iconst 2, 1) := by decide +kernel
theorem dL_law_769 : decode code 769 = .ok (.iadd, 1) := by decide +kernel
theorem dL_law_770 : decode code 770 = .ok (.iaload, 1) := by decide +kernel
theorem dL_law_771 : decode code 771 = .ok (.invokevirtual 151, 3) := by decide +kernel
theorem dL_law_774 : decode code 774 = .ok (.istore 6, 2) := by decide +kernel
theorem dL_law_776 : decode code 776 = .ok (.aload_n 2, 1) := by decide +kernel
theorem dL_law_777 : decode code 777 = .ok (.invokevirtual 116, 3) := by decide +kernel
theorem dL_law_780 : decode code 780 = .ok (.iload 5, 2) := by decide +kernel
theorem dL_law_782 : decode code 782 = .ok (.if_icmp .eq 5, 3) := by decide +kernel
theorem dL_law_787 : decode code 787 = .ok (.iload 5, 2) := by decide +kernel
theorem dL_law_789 : decode code 789 = .ok (.ifCond .ne 15, 3) := by decide +kernel
theorem dL_law_804 : decode code 804 = .ok (.goto 1238, 3) := by decide +kernel
set_option maxHeartbeats 4000000 in
set_option maxRecDepth 100000 in
theorem leaf_14 {p : Program} {e : Env} {s : State} {m : MethodId} {below : List Frame} {meth : Method} {c : Code} (l : Launch) (hst : l.stackTraces = false) {D : va_G} {κ : K4} {E0 : Nat} {a b : Nat → Nat} {o sb L : Nat} {xs : Nat → Int32} (hC : CallFix p m c code 9 s #[Value.ref sb] WALL RL) (hr : meth.sig.returnType = ret) (hlocks : meth.locks = false) (hX : va_X sb L xs s s.heap) (hbl : sb < s.heap.size) (hL4 : L = 4) (hE : EA E0 D κ (fun q => s.heap.size ≤ q) s s.heap) (hT : ET s) (k_1 : -2147483648 ≤ (xs 1).toInt ∧ (xs 1).toInt ≤ 2147483647) (k_2 : -2147483648 ≤ (xs 2).toInt ∧ (xs 2).toInt ≤ 2147483647) (k_3 : -2147483648 ≤ (xs 3).toInt ∧ (xs 3).toInt ≤ 2147483647) (H : Heap) (locs : List Loc) (hG : BW D κ ((xw κ a ++ [(o, .inl (κ.2.1, 1, .inr (.inl (fun _ => 0))))]) ++ mw κ b E0 0) (fun q => s.heap.size ≤ q) s H locs) (ls : Array Slot) (hl : lv_has ls 9 [(4, .int 0), (3, .ref o), (2, .ref (b 0)), (1, .ref (a 0)), (0, .ref sb)]) : W p l e room_1 s m #[Value.ref sb] below meth c H locs 100 6000 (lw_Z below #[Value.ref sb] s) (F0 m 739 ls []) := by
  have hx := hC.1
  have hb := hC.2.1
  refine lv_aload_n hx hb dL_law_739 rfl (lv_at hl 3 rfl) ?_
  refine lv_aload_n hx hb dL_law_740 rfl (lv_at hl 4 rfl) ?_
  refine lv_iload hx hb dL_law_741 (lv_at hl 0 rfl) ?_
  refine lv_iconst (v := 1) hx hb dL_law_743 (by decide) ?_
  refine lv_iadd hx hb dL_law_744 ?_
  refine W.eq (g2 := F0 m 745 ls [.int 1, .ref sb, .ref (a 0)]) rfl ?_
  refine va_sld hx hb hX hbl (Nat.not_le_of_lt hbl) hG.2.2.2.1 (vp_box (by decide) (by rw [hL4]; decide)) dL_law_745 ?_
  refine W.eq (g2 := F0 m 746 ls [.int (xs 1), .ref (a 0)]) rfl ?_
  refine lv_aload_n hx hb dL_law_746 rfl (lv_at hl 4 rfl) ?_
  refine lv_iload hx hb dL_law_747 (lv_at hl 0 rfl) ?_
  refine lv_iconst (v := 2) hx hb dL_law_749 (by decide) ?_
  refine lv_iadd hx hb dL_law_750 ?_
  refine W.eq (g2 := F0 m 751 ls [.int 2, .ref sb, .int (xs 1), .ref (a 0)]) rfl ?_
  refine va_sld hx hb hX hbl (Nat.not_le_of_lt hbl) hG.2.2.2.1 (vp_box (by decide) (by rw [hL4]; decide)) dL_law_751 ?_
  refine W.eq (g2 := F0 m 752 ls [.int (xs 2), .int (xs 1), .ref (a 0)]) rfl ?_
  refine lv_aload_n hx hb dL_law_752 rfl (lv_at hl 1 rfl) ?_
  have cut753 : Cut ((xw κ a ++ [(o, .inl (κ.2.1, 1, .inr (.inl (fun _ => 0))))]) ++ mw κ b E0 0) ([(a 0, .inr (7, [.ref (a 1), .ref (a 7), .ref (a 12), .ref (a 23), .ref (a 28), .ref (a 33), .ref (a 37), .ref (a 41), .int (-1), .int 0])), (a 1, .inr (0, [.ref (a 2), .ref (a 3), .ref (a 4), .ref (a 5), .ref (a 6), .int 0])), (a 2, .inl (κ.1, 4, .inl (fun _ => 1000))), (a 3, .inl (κ.1, 10, .inl (fun _ => 0))), (a 4, .inl (κ.1, 10, .inl (fun _ => 0))), (a 5, .inl (κ.1, 10, .inl (fun _ => 0))), (a 6, .inl (κ.2.2.1, 10, .inl (fun _ => 0))), (a 7, .inr (1, [.ref (a 8), .int 0, .int 0, .int 0])), (a 8, .inr (4, [.ref (a 9), .ref (a 10), .ref (a 11), .int 0])), (a 9, .inl (κ.1, 10, .inl (fun _ => 0))), (a 10, .inl (κ.2.1, 10, .inr (.inl (fun _ => 0)))), (a 11, .inl (κ.2.1, 10, .inr (.inl (fun _ => 0)))), (a 12, .inr (3, [.ref (a 13), .ref (a 14), .ref (a 15), .ref (a 16), .ref (a 17), .ref (a 18), .int 0, .ref (a 19), .ref (a 20), .ref (a 21), .ref (a 22), .int 0])), (a 13, .inl (κ.1, 60, .inl (fun _ => 0))), (a 14, .inl (κ.1, 60, .inl (fun _ => 0))), (a 15, .inl (κ.1, 60, .inl (fun _ => 0))), (a 16, .inl (κ.1, 60, .inl (fun _ => 0))), (a 17, .inl (κ.2.2.1, 60, .inl (fun _ => 0))), (a 18, .inl (κ.2.2.1, 60, .inl (fun _ => 0))), (a 19, .inl (κ.1, 600, .inl (fun _ => 0))), (a 20, .inl (κ.1, 600, .inl (fun _ => 0))), (a 21, .inl (κ.2.1, 600, .inr (.inl (fun _ => 0)))), (a 22, .inl (κ.2.1, 600, .inr (.inl (fun _ => 0)))), (a 23, .inr (2, [.ref (a 24), .ref (a 25), .ref (a 26), .ref (a 27), .int 0])), (a 24, .inl (κ.1, 20, .inl (fun _ => 0))), (a 25, .inl (κ.1, 20, .inl (fun _ => 0))), (a 26, .inl (κ.1, 20, .inl (fun _ => 0))), (a 27, .inl (κ.2.2.1, 20, .inl (fun _ => 0))), (a 28, .inr (5, [.ref (a 29), .ref (a 30), .ref (a 31), .ref (a 32), .int 0])), (a 29, .inl (κ.1, 40, .inl (fun _ => 0))), (a 30, .inl (κ.1, 40, .inl (fun _ => 0))), (a 31, .inl (κ.1, 40, .inl (fun _ => 0))), (a 32, .inl (κ.1, 40, .inl (fun _ => 0))), (a 33, .inr (6, [.ref (a 12), .ref (a 28), .ref (a 34), .ref (a 35), .ref (a 36)])), (a 34, .inl (κ.1, 600, .inl (fun _ => (-1)))), (a 35, .inl (κ.1, 40, .inl (fun _ => (-1)))), (a 36, .inl (κ.1, 40, .inl (fun _ => (-1)))), (a 37, .inr (6, [.ref (a 12), .ref (a 28), .ref (a 38), .ref (a 39), .ref (a 40)])), (a 38, .inl (κ.1, 600, .inl (fun _ => (-1)))), (a 39, .inl (κ.1, 40, .inl (fun _ => (-1)))), (a 40, .inl (κ.1, 40, .inl (fun _ => (-1)))), (a 41, .inr (4, [.ref (a 42), .ref (a 43), .ref (a 44), .int 0])), (a 42, .inl (κ.1, 10, .inl (fun _ => 0))), (a 43, .inl (κ.2.1, 10, .inr (.inl (fun _ => 0)))), (a 44, .inl (κ.2.1, 10, .inr (.inl (fun _ => 0)))), (o, .inl (κ.2.1, 1, .inr (.inl (fun _ => 0))))]) ([(b 0, .inr (9, [.int 0, .ref (b 1), .ref (b 2), .ref (b 3), .ref (b 4), .ref (b 5), .ref (b 6), .ref (b 7), .null, .int 0, .int (-1), .int 0, .int 0, .int 0, .ref (b 8)])), (b 1, .inl (κ.1, 4, .inl (fun _ => 1000))), (b 2, .inr (10, [.int 0, .ref E0, .int 0])), (b 3, .inr (10, [.int 0, .ref E0, .int 0])), (b 4, .inr (10, [.int 0, .ref E0, .int 0])), (b 5, .inr (10, [.int 0, .ref E0, .int 0])), (b 6, .inr (10, [.int 0, .ref E0, .int 0])), (b 7, .inr (10, [.int 0, .ref E0, .int 0])), (b 8, .inr (10, [.int 0, .ref E0, .int 0]))]) := (Cut.idx [0, 1, 2, 3, 4, 5, 6, 7, 8, 9, 10, 11, 12, 13, 14, 15, 16, 17, 18, 19, 20, 21, 22, 23, 24, 25, 26, 27, 28, 29, 30, 31, 32, 33, 34, 35, 36, 37, 38, 39, 40, 41, 42, 43, 44, 45] [46, 47, 48, 49, 50, 51, 52, 53, 54] rfl rfl (by decide) (by decide) (by decide))
  refine zc_i hG cut753 (zr_H (n := 4) (As := [.ref (a 0), .int (xs 1), .int (xs 2), .ref o]) (rest := []) hC hG hE hT cut753 (z_79_ofEntry l hst D κ E0 H.size a (xs 1) (xs 2) o ⟨by omega, by omega⟩ ⟨by omega, by omega⟩) w656 w143 w658 w657 (by decide +kernel) ⟨Nat.le_of_ble_eq_true rfl, Nat.le_of_ble_eq_true rfl⟩ rfl hl.1 rfl (Nat.le_of_ble_eq_true rfl) dL_law_753 ⟨Nat.le_of_ble_eq_true rfl, Nat.le_of_ble_eq_true rfl⟩) (fun z1 H locs hG => ?_)
  have hG : BW D κ (([(b 0, .inr (9, [.int 0, .ref (b 1), .ref (b 2), .ref (b 3), .ref (b 4), .ref (b 5), .ref (b 6), .ref (b 7), .null, .int 0, .int (-1), .int 0, .int 0, .int 0, .ref (b 8)])), (b 1, .inl (κ.1, 4, .inl (fun _ => 1000))), (b 2, .inr (10, [.int 0, .ref E0, .int 0])), (b 3, .inr (10, [.int 0, .ref E0, .int 0])), (b 4, .inr (10, [.int 0, .ref E0, .int 0])), (b 5, .inr (10, [.int 0, .ref E0, .int 0])), (b 6, .inr (10, [.int 0, .ref E0, .int 0])), (b 7, .inr (10, [.int 0, .ref E0, .int 0])), (b 8, .inr (10, [.int 0, .ref E0, .int 0]))]) ++ ([(o, .inl (κ.2.1, 1, .inr (.inl (fun _ => 0))))])) _ s H locs := hG
  refine lv_istore (lv' := [(5, .int 1), (4, .int 0), (3, .ref o), (2, .ref (b 0)), (1, .ref (a 0)), (0, .ref sb)]) hx hb dL_law_756 hl (by decide) rfl (fun ls hl => ?_)
  refine lv_aload_n hx hb dL_law_758 rfl (lv_at hl 3 rfl) ?_
  refine lv_aload_n hx hb dL_law_759 rfl (lv_at hl 5 rfl) ?_
  refine lv_iload hx hb dL_law_760 (lv_at hl 1 rfl) ?_
  refine lv_iconst (v := 1) hx hb dL_law_762 (by decide) ?_
  refine lv_iadd hx hb dL_law_763 ?_
  refine W.eq (g2 := F0 m 764 ls [.int 1, .ref sb, .ref (b 0)]) rfl ?_
  refine va_sld hx hb hX hbl (Nat.not_le_of_lt hbl) hG.2.2.2.1 (vp_box (by decide) (by rw [hL4]; decide)) dL_law_764 ?_
  refine W.eq (g2 := F0 m 765 ls [.int (xs 1), .ref (b 0)]) rfl ?_
  refine lv_aload_n hx hb dL_law_765 rfl (lv_at hl 5 rfl) ?_
  refine lv_iload hx hb dL_law_766 (lv_at hl 1 rfl) ?_
  refine lv_iconst (v := 2) hx hb dL_law_768 (by decide) ?_
  refine lv_iadd hx hb dL_law_769 ?_
  refine W.eq (g2 := F0 m 770 ls [.int 2, .ref sb, .int (xs 1), .ref (b 0)]) rfl ?_
  refine va_sld hx hb hX hbl (Nat.not_le_of_lt hbl) hG.2.2.2.1 (vp_box (by decide) (by rw [hL4]; decide)) dL_law_770 ?_
  refine W.eq (g2 := F0 m 771 ls [.int (xs 2), .int (xs 1), .ref (b 0)]) rfl ?_
  have cut771 : Cut (([(b 0, .inr (9, [.int 0, .ref (b 1), .ref (b 2), .ref (b 3), .ref (b 4), .ref (b 5), .ref (b 6), .ref (b 7), .null, .int 0, .int (-1), .int 0, .int 0, .int 0, .ref (b 8)])), (b 1, .inl (κ.1, 4, .inl (fun _ => 1000))), (b 2, .inr (10, [.int 0, .ref E0, .int 0])), (b 3, .inr (10, [.int 0, .ref E0, .int 0])), (b 4, .inr (10, [.int 0, .ref E0, .int 0])), (b 5, .inr (10, [.int 0, .ref E0, .int 0])), (b 6, .inr (10, [.int 0, .ref E0, .int 0])), (b 7, .inr (10, [.int 0, .ref E0, .int 0])), (b 8, .inr (10, [.int 0, .ref E0, .int 0]))]) ++ ([(o, .inl (κ.2.1, 1, .inr (.inl (fun _ => 0))))])) (mw κ b E0 0) ([(o, .inl (κ.2.1, 1, .inr (.inl (fun _ => 0))))]) := (Cut.idx [0, 1, 2, 3, 4, 5, 6, 7, 8] [9] rfl rfl (by decide) (by decide) (by decide))
  refine zc_i hG cut771 (zr_V (k := 0) (ci := 9) (n := 2) (As := [.int (xs 1), .int (xs 2)]) (rest := []) hC hG hE hT cut771 (z_80_ofEntry l hst D κ E0 H.size b (xs 1) (xs 2) ⟨by omega, by omega⟩ ⟨by omega, by omega⟩) rfl rfl w668 w5 w671 w669 w670 (by decide +kernel) ⟨Nat.le_of_ble_eq_true rfl, Nat.le_of_ble_eq_true rfl⟩ rfl hl.1 rfl (Nat.le_of_ble_eq_true rfl) dL_law_771 ⟨Nat.le_of_ble_eq_true rfl, Nat.le_of_ble_eq_true rfl⟩) (fun z2 H locs hG => ?_)
  have hG : BW D κ (([(o, .inl (κ.2.1, 1, .inr (.inl (fun _ => 0))))]) ++ (mw κ b E0 1)) _ s H locs := hG
  refine lv_istore (lv' := [(6, .int 0), (5, .int 1), (4, .int 0), (3, .ref o), (2, .ref (b 0)), (1, .ref (a 0)), (0, .ref sb)]) hx hb dL_law_774 hl (by decide) rfl (fun ls hl => ?_)
  refine lv_aload_n hx hb dL_law_776 rfl (lv_at hl 4 rfl) ?_
  have cut777 : Cut (([(o, .inl (κ.2.1, 1, .inr (.inl (fun _ => 0))))]) ++ (mw κ b E0 1)) ([(b 0, .inr (9, [.int 1, .ref (b 1), .ref (b 2), .ref (b 3), .ref (b 4), .ref (b 5), .ref (b 6), .ref (b 7), .null, .int 0, .int (-1), .int 0, .int 0, .int 0, .ref (b 8)]))]) ([(o, .inl (κ.2.1, 1, .inr (.inl (fun _ => 0)))), (b 1, .inl (κ.1, 4, .inl (fun _ => 1000))), (b 2, .inr (10, [.int 0, .ref E0, .int 0])), (b 3, .inr (10, [.int 0, .ref E0, .int 0])), (b 4, .inr (10, [.int 0, .ref E0, .int 0])), (b 5, .inr (10, [.int 0, .ref E0, .int 0])), (b 6, .inr (10, [.int 0, .ref E0, .int 0])), (b 7, .inr (10, [.int 0, .ref E0, .int 0])), (b 8, .inr (10, [.int 0, .ref E0, .int 0]))]) := (Cut.idx [1] [0, 2, 3, 4, 5, 6, 7, 8, 9] rfl rfl (by decide) (by decide) (by decide))
  refine zc_i hG cut777 (zr_V (k := 1) (ci := 9) (n := 0) (As := []) (rest := []) hC hG hE hT cut777 (z_6_thrown l hst D κ E0 H.size b) rfl rfl w200 w5 w203 w201 w202 (by decide +kernel) ⟨Nat.le_of_ble_eq_true rfl, Nat.le_of_ble_eq_true rfl⟩ rfl hl.1 rfl (Nat.le_of_ble_eq_true rfl) dL_law_777 ⟨Nat.le_of_ble_eq_true rfl, Nat.le_of_ble_eq_true rfl⟩) (fun z3 H locs hG => ?_)
  have hG : BW D κ (([(o, .inl (κ.2.1, 1, .inr (.inl (fun _ => 0)))), (b 1, .inl (κ.1, 4, .inl (fun _ => 1000))), (b 2, .inr (10, [.int 0, .ref E0, .int 0])), (b 3, .inr (10, [.int 0, .ref E0, .int 0])), (b 4, .inr (10, [.int 0, .ref E0, .int 0])), (b 5, .inr (10, [.int 0, .ref E0, .int 0])), (b 6, .inr (10, [.int 0, .ref E0, .int 0])), (b 7, .inr (10, [.int 0, .ref E0, .int 0])), (b 8, .inr (10, [.int 0, .ref E0, .int 0]))]) ++ ([(b 0, .inr (9, [.int 1, .ref (b 1), .ref (b 2), .ref (b 3), .ref (b 4), .ref (b 5), .ref (b 6), .ref (b 7), .null, .int 0, .int (-1), .int 0, .int 0, .int 0, .ref (b 8)]))])) _ s H locs := hG
  refine lv_iload hx hb dL_law_780 (lv_at hl 1 rfl) ?_
  refine lv_icmp_eq (tgt := 787) hx hb dL_law_782 (by decide) (fun _ => ?_) (fun h782 => absurd (by decide) h782)
  refine lv_iload hx hb dL_law_787 (lv_at hl 1 rfl) ?_
  refine lv_if_ne (tgt := 804) hx hb dL_law_789 (by decide) (fun _ => ?_) (fun h789 => absurd h789 (by decide))
  refine lv_goto (tgt := 2042) hx hb dL_law_804 (by decide) ?_
  refine lv_iinc (v := 4) (lv' := [(4, .int 4), (6, .int 0), (5, .int 1), (3, .ref o), (2, .ref (b 0)), (1, .ref (a 0)), (0, .ref sb)]) hx hb dL_law_2042 hl (k := 2) rfl (by decide) (by decide) rfl (fun ls hl => ?_)
  refine lv_goto (tgt := 23) hx hb dL_law_2045 (by decide) ?_
  refine lv_iload hx hb dL_law_23 (lv_at hl 0 rfl) ?_
  refine lv_aload_n hx hb dL_law_25 rfl (lv_at hl 6 rfl) ?_
  refine va_slen hx hb hX hbl (Nat.not_le_of_lt hbl) hG.2.2.2.1 dL_law_26 ?_
  refine W.eq (g2 := F0 m 27 ls [.int 4, .int 4]) (by rw [hL4]; rfl) ?_
  refine lv_iconst (v := 4) hx hb dL_law_27 (by decide) ?_
  refine lv_isub hx hb dL_law_28 ?_
  refine W.eq (g2 := F0 m 29 ls [.int 0, .int 4]) rfl ?_
  refine lv_icmp_gt (tgt := 2048) hx hb dL_law_29 (by decide) (fun _ => ?_) (fun h29 => absurd (by decide) h29)
  refine lv_iconst (v := 1) hx hb dL_law_2048 (by decide) ?_
  refine W.widen (k := 600002) (n := 7302232) (Nat.le_of_ble_eq_true rfl) (Nat.le_of_ble_eq_true rfl) ?_
  refine va_forget (fun q hq => hG.2.2.2.1.2.2 q hq) ?_
  refine W.base ?_
  exact lw_ret (Drawn.sameBut.refl s.drawn lw_cs) hx hb hr hlocks dL_law_2049
theorem dL_law_807 : decode code 807 = .ok (.aload_n 1, 1) := by decide +kernel
theorem dL_law_808 : decode code 808 = .ok (.aload_n 0, 1) := by decide +kernel
theorem dL_law_809 : decode code 809 = .ok (.iload 4, 2) := by decide +kernel
theorem dL_law_811 : decode code 811 = .ok (.iconst 1, 1) := by decide +kernel
theorem dL_law_812 : decode code 812 = .ok (.iadd, 1) := by decide +kernel
theorem dL_law_813 : decode code 813 = .ok (.iaload, 1) := by decide +kernel
theorem dL_law_814 : decode code 814 = .ok (.aload_n 0, 1) := by decide +kernel
theorem dL_law_815 : decode code 815 = .ok (.iload 4, 2) := by decide +kernel
theorem dL_law_817 : decode code 817 = .ok (.iconst 2, 1) := by decide +kernel
theorem dL_law_818 : decode code 818 = .ok (.iadd, 1) := by decide +kernel
theorem dL_law_819 : decode code 819 = .ok (.iaload, 1) := by decide +kernel
theorem dL_law_820 : decode code 820 = .ok (.aload_n 0, 1) := by decide +kernel
theorem dL_law_821 : decode code 821 = .ok (.iload 4, 2) := by decide +kernel
theorem dL_law_823 : decode code 823 = .ok (.iconst 3, 1) := by decide +kernel
theorem dL_law_824 : decode code 824 = .ok (.iadd, 1) := by decide +kernel
theorem dL_law_825 : decode code 825 = .ok (.iaload, 1) := by decide +kernel
theorem dL_law_826 : decode code 826 = .ok (.aload_n 3, 1) := by decide +kernel
theorem dL_law_827 : decode code 827 = .ok (.invokestatic 152, 3) := by decide +kernel
theorem dL_law_830 : decode code 830 = .ok (.istore 5, 2) := by decide +kernel
theorem dL_law_832 : decode code 832 = .ok (.aload_n 2, 1) := by decide +kernel
theorem dL_law_833 : decode code 833 = .ok (.aload_n 0, 1) := by decide +kernel
theorem dL_law_834 : decode code 834 = .ok (.iload 4, 2) := by decide +kernel
theorem dL_law_836 : decode code 836 = .ok (.iconst 1, 1) := by decide +kernel
theorem dL_law_837 : decode code 837 = .ok (.iadd, 1) := by decide +kernel
theorem dL_law_838 : decode code 838 = .ok (.iaload, 1) := by decide +kernel
theorem dL_law_839 : decode code 839 = .ok (.aload_n 0, 1) := by decide +kernel
theorem dL_law_840 : decode code 840 = .ok (.iload 4, 2) := by decide +kernel
theorem dL_law_842 : decode code 842 = .ok (.iconst 2, 1) := by decide +kernel
theorem dL_law_843 : decode code 843 = .ok (.iadd, 1) := by decide +kernel
theorem dL_law_844 : decode code 844 = .ok (.iaload, 1) := by decide +kernel
theorem dL_law_845 : decode code 845 = .ok (.aload_n 0, 1) := by decide +kernel
theorem dL_law_846 : decode code 846 = .ok (.iload 4, 2) := by decide +kernel
theorem dL_law_848 : decode code 848 = .ok (.iconst 3, 1) := by decide +kernel
theorem dL_law_849 : decode code 849 = .ok (.iadd, 1) := by decide +kernel
theorem dL_law_850 : decode code 850 = .ok (.iaload, 1) := by decide +kernel
theorem dL_law_851 : decode code 851 = .ok (.invokevirtual 155, 3) := by decide +kernel
theorem dL_law_854 : decode code 854 = .ok (.lstore 6, 2) := by decide +kernel
theorem dL_law_856 : decode code 856 = .ok (.aload_n 2, 1) := by decide +kernel
theorem dL_law_857 : decode code 857 = .ok (.invokevirtual 116, 3) := by decide +kernel
theorem dL_law_860 : decode code 860 = .ok (.iload 5, 2) := by decide +kernel
theorem dL_law_862 : decode code 862 = .ok (.if_icmp .eq 5, 3) := by decide +kernel
theorem dL_law_867 : decode code 867 = .ok (.iload 5, 2) := by decide +kernel
theorem dL_law_869 : decode code 869 = .ok (.ifCond .ne 14, 3) := by decide +kernel
theorem dL_law_883 : decode code 883 = .ok (.goto 1159, 3) := by decide +kernel
set_option maxHeartbeats 4000000 in
set_option maxRecDepth 100000 in
theorem leaf_15 {p : Program} {e : Env} {s : State} {m : MethodId} {below : List Frame} {meth : Method} {c : Code} (l : Launch) (hst : l.stackTraces = false) {D : va_G} {κ : K4} {E0 : Nat} {a b : Nat → Nat} {o sb L : Nat} {xs : Nat → Int32} (hC : CallFix p m c code 9 s #[Value.ref sb] WALL RL) (hr : meth.sig.returnType = ret) (hlocks : meth.locks = false) (hX : va_X sb L xs s s.heap) (hbl : sb < s.heap.size) (hL4 : L = 4) (hE : EA E0 D κ (fun q => s.heap.size ≤ q) s s.heap) (hT : ET s) (k_1 : -2147483648 ≤ (xs 1).toInt ∧ (xs 1).toInt ≤ 2147483647) (k_2 : -2147483648 ≤ (xs 2).toInt ∧ (xs 2).toInt ≤ 2147483647) (k_3 : -2147483648 ≤ (xs 3).toInt ∧ (xs 3).toInt ≤ 2147483647) (H : Heap) (locs : List Loc) (hG : BW D κ ((xw κ a ++ [(o, .inl (κ.2.1, 1, .inr (.inl (fun _ => 0))))]) ++ mw κ b E0 0) (fun q => s.heap.size ≤ q) s H locs) (ls : Array Slot) (hl : lv_has ls 9 [(4, .int 0), (3, .ref o), (2, .ref (b 0)), (1, .ref (a 0)), (0, .ref sb)]) : W p l e room_1 s m #[Value.ref sb] below meth c H locs 100 6000 (lw_Z below #[Value.ref sb] s) (F0 m 807 ls []) := by
  have hx := hC.1
  have hb := hC.2.1
  refine lv_aload_n hx hb dL_law_807 rfl (lv_at hl 3 rfl) ?_
  refine lv_aload_n hx hb dL_law_808 rfl (lv_at hl 4 rfl) ?_
  refine lv_iload hx hb dL_law_809 (lv_at hl 0 rfl) ?_
  refine lv_iconst (v := 1) hx hb dL_law_811 (by decide) ?_
  refine lv_iadd hx hb dL_law_812 ?_
  refine W.eq (g2 := F0 m 813 ls [.int 1, .ref sb, .ref (a 0)]) rfl ?_
  refine va_sld hx hb hX hbl (Nat.not_le_of_lt hbl) hG.2.2.2.1 (vp_box (by decide) (by rw [hL4]; decide)) dL_law_813 ?_
  refine W.eq (g2 := F0 m 814 ls [.int (xs 1), .ref (a 0)]) rfl ?_
  refine lv_aload_n hx hb dL_law_814 rfl (lv_at hl 4 rfl) ?_
  refine lv_iload hx hb dL_law_815 (lv_at hl 0 rfl) ?_
  refine lv_iconst (v := 2) hx hb dL_law_817 (by decide) ?_
  refine lv_iadd hx hb dL_law_818 ?_
  refine W.eq (g2 := F0 m 819 ls [.int 2, .ref sb, .int (xs 1), .ref (a 0)]) rfl ?_
  refine va_sld hx hb hX hbl (Nat.not_le_of_lt hbl) hG.2.2.2.1 (vp_box (by decide) (by rw [hL4]; decide)) dL_law_819 ?_
  refine W.eq (g2 := F0 m 820 ls [.int (xs 2), .int (xs 1), .ref (a 0)]) rfl ?_
  refine lv_aload_n hx hb dL_law_820 rfl (lv_at hl 4 rfl) ?_
  refine lv_iload hx hb dL_law_821 (lv_at hl 0 rfl) ?_
  refine lv_iconst (v := 3) hx hb dL_law_823 (by decide) ?_
  refine lv_iadd hx hb dL_law_824 ?_
  refine W.eq (g2 := F0 m 825 ls [.int 3, .ref sb, .int (xs 2), .int (xs 1), .ref (a 0)]) rfl ?_
  refine va_sld hx hb hX hbl (Nat.not_le_of_lt hbl) hG.2.2.2.1 (vp_box (by decide) (by rw [hL4]; decide)) dL_law_825 ?_
  refine W.eq (g2 := F0 m 826 ls [.int (xs 3), .int (xs 2), .int (xs 1), .ref (a 0)]) rfl ?_
  refine lv_aload_n hx hb dL_law_826 rfl (lv_at hl 1 rfl) ?_
  have cut827 : Cut ((xw κ a ++ [(o, .inl (κ.2.1, 1, .inr (.inl (fun _ => 0))))]) ++ mw κ b E0 0) ([(a 0, .inr (7, [.ref (a 1), .ref (a 7), .ref (a 12), .ref (a 23), .ref (a 28), .ref (a 33), .ref (a 37), .ref (a 41), .int (-1), .int 0])), (a 1, .inr (0, [.ref (a 2), .ref (a 3), .ref (a 4), .ref (a 5), .ref (a 6), .int 0])), (a 2, .inl (κ.1, 4, .inl (fun _ => 1000))), (a 3, .inl (κ.1, 10, .inl (fun _ => 0))), (a 4, .inl (κ.1, 10, .inl (fun _ => 0))), (a 5, .inl (κ.1, 10, .inl (fun _ => 0))), (a 6, .inl (κ.2.2.1, 10, .inl (fun _ => 0))), (a 7, .inr (1, [.ref (a 8), .int 0, .int 0, .int 0])), (a 8, .inr (4, [.ref (a 9), .ref (a 10), .ref (a 11), .int 0])), (a 9, .inl (κ.1, 10, .inl (fun _ => 0))), (a 10, .inl (κ.2.1, 10, .inr (.inl (fun _ => 0)))), (a 11, .inl (κ.2.1, 10, .inr (.inl (fun _ => 0)))), (a 12, .inr (3, [.ref (a 13), .ref (a 14), .ref (a 15), .ref (a 16), .ref (a 17), .ref (a 18), .int 0, .ref (a 19), .ref (a 20), .ref (a 21), .ref (a 22), .int 0])), (a 13, .inl (κ.1, 60, .inl (fun _ => 0))), (a 14, .inl (κ.1, 60, .inl (fun _ => 0))), (a 15, .inl (κ.1, 60, .inl (fun _ => 0))), (a 16, .inl (κ.1, 60, .inl (fun _ => 0))), (a 17, .inl (κ.2.2.1, 60, .inl (fun _ => 0))), (a 18, .inl (κ.2.2.1, 60, .inl (fun _ => 0))), (a 19, .inl (κ.1, 600, .inl (fun _ => 0))), (a 20, .inl (κ.1, 600, .inl (fun _ => 0))), (a 21, .inl (κ.2.1, 600, .inr (.inl (fun _ => 0)))), (a 22, .inl (κ.2.1, 600, .inr (.inl (fun _ => 0)))), (a 23, .inr (2, [.ref (a 24), .ref (a 25), .ref (a 26), .ref (a 27), .int 0])), (a 24, .inl (κ.1, 20, .inl (fun _ => 0))), (a 25, .inl (κ.1, 20, .inl (fun _ => 0))), (a 26, .inl (κ.1, 20, .inl (fun _ => 0))), (a 27, .inl (κ.2.2.1, 20, .inl (fun _ => 0))), (a 28, .inr (5, [.ref (a 29), .ref (a 30), .ref (a 31), .ref (a 32), .int 0])), (a 29, .inl (κ.1, 40, .inl (fun _ => 0))), (a 30, .inl (κ.1, 40, .inl (fun _ => 0))), (a 31, .inl (κ.1, 40, .inl (fun _ => 0))), (a 32, .inl (κ.1, 40, .inl (fun _ => 0))), (a 33, .inr (6, [.ref (a 12), .ref (a 28), .ref (a 34), .ref (a 35), .ref (a 36)])), (a 34, .inl (κ.1, 600, .inl (fun _ => (-1)))), (a 35, .inl (κ.1, 40, .inl (fun _ => (-1)))), (a 36, .inl (κ.1, 40, .inl (fun _ => (-1)))), (a 37, .inr (6, [.ref (a 12), .ref (a 28), .ref (a 38), .ref (a 39), .ref (a 40)])), (a 38, .inl (κ.1, 600, .inl (fun _ => (-1)))), (a 39, .inl (κ.1, 40, .inl (fun _ => (-1)))), (a 40, .inl (κ.1, 40, .inl (fun _ => (-1)))), (a 41, .inr (4, [.ref (a 42), .ref (a 43), .ref (a 44), .int 0])), (a 42, .inl (κ.1, 10, .inl (fun _ => 0))), (a 43, .inl (κ.2.1, 10, .inr (.inl (fun _ => 0)))), (a 44, .inl (κ.2.1, 10, .inr (.inl (fun _ => 0)))), (o, .inl (κ.2.1, 1, .inr (.inl (fun _ => 0))))]) ([(b 0, .inr (9, [.int 0, .ref (b 1), .ref (b 2), .ref (b 3), .ref (b 4), .ref (b 5), .ref (b 6), .ref (b 7), .null, .int 0, .int (-1), .int 0, .int 0, .int 0, .ref (b 8)])), (b 1, .inl (κ.1, 4, .inl (fun _ => 1000))), (b 2, .inr (10, [.int 0, .ref E0, .int 0])), (b 3, .inr (10, [.int 0, .ref E0, .int 0])), (b 4, .inr (10, [.int 0, .ref E0, .int 0])), (b 5, .inr (10, [.int 0, .ref E0, .int 0])), (b 6, .inr (10, [.int 0, .ref E0, .int 0])), (b 7, .inr (10, [.int 0, .ref E0, .int 0])), (b 8, .inr (10, [.int 0, .ref E0, .int 0]))]) := (Cut.idx [0, 1, 2, 3, 4, 5, 6, 7, 8, 9, 10, 11, 12, 13, 14, 15, 16, 17, 18, 19, 20, 21, 22, 23, 24, 25, 26, 27, 28, 29, 30, 31, 32, 33, 34, 35, 36, 37, 38, 39, 40, 41, 42, 43, 44, 45] [46, 47, 48, 49, 50, 51, 52, 53, 54] rfl rfl (by decide) (by decide) (by decide))
  refine zc_i hG cut827 (zr_H (n := 5) (As := [.ref (a 0), .int (xs 1), .int (xs 2), .int (xs 3), .ref o]) (rest := []) hC hG hE hT cut827 (z_82_ofLeg l hst D κ E0 H.size a (xs 1) (xs 2) (xs 3) o ⟨by omega, by omega⟩ ⟨by omega, by omega⟩ ⟨by omega, by omega⟩) w675 w143 w677 w676 (by decide +kernel) ⟨Nat.le_of_ble_eq_true rfl, Nat.le_of_ble_eq_true rfl⟩ rfl hl.1 rfl (Nat.le_of_ble_eq_true rfl) dL_law_827 ⟨Nat.le_of_ble_eq_true rfl, Nat.le_of_ble_eq_true rfl⟩) (fun z1 H locs hG => ?_)
  have hG : BW D κ (([(b 0, .inr (9, [.int 0, .ref (b 1), .ref (b 2), .ref (b 3), .ref (b 4), .ref (b 5), .ref (b 6), .ref (b 7), .null, .int 0, .int (-1), .int 0, .int 0, .int 0, .ref (b 8)])), (b 1, .inl (κ.1, 4, .inl (fun _ => 1000))), (b 2, .inr (10, [.int 0, .ref E0, .int 0])), (b 3, .inr (10, [.int 0, .ref E0, .int 0])), (b 4, .inr (10, [.int 0, .ref E0, .int 0])), (b 5, .inr (10, [.int 0, .ref E0, .int 0])), (b 6, .inr (10, [.int 0, .ref E0, .int 0])), (b 7, .inr (10, [.int 0, .ref E0, .int 0])), (b 8, .inr (10, [.int 0, .ref E0, .int 0]))]) ++ ([(o, .inl (κ.2.1, 1, .inr (.inl (fun _ => 0))))])) _ s H locs := hG
  refine lv_istore (lv' := [(5, .int 1), (4, .int 0), (3, .ref o), (2, .ref (b 0)), (1, .ref (a 0)), (0, .ref sb)]) hx hb dL_law_830 hl (by decide) rfl (fun ls hl => ?_)
  refine lv_aload_n hx hb dL_law_832 rfl (lv_at hl 3 rfl) ?_
  refine lv_aload_n hx hb dL_law_833 rfl (lv_at hl 5 rfl) ?_
  refine lv_iload hx hb dL_law_834 (lv_at hl 1 rfl) ?_
  refine lv_iconst (v := 1) hx hb dL_law_836 (by decide) ?_
  refine lv_iadd hx hb dL_law_837 ?_
  refine W.eq (g2 := F0 m 838 ls [.int 1, .ref sb, .ref (b 0)]) rfl ?_
  refine va_sld hx hb hX hbl (Nat.not_le_of_lt hbl) hG.2.2.2.1 (vp_box (by decide) (by rw [hL4]; decide)) dL_law_838 ?_
  refine W.eq (g2 := F0 m 839 ls [.int (xs 1), .ref (b 0)]) rfl ?_
  refine lv_aload_n hx hb dL_law_839 rfl (lv_at hl 5 rfl) ?_
  refine lv_iload hx hb dL_law_840 (lv_at hl 1 rfl) ?_
  refine lv_iconst (v := 2) hx hb dL_law_842 (by decide) ?_
  refine lv_iadd hx hb dL_law_843 ?_
  refine W.eq (g2 := F0 m 844 ls [.int 2, .ref sb, .int (xs 1), .ref (b 0)]) rfl ?_
  refine va_sld hx hb hX hbl (Nat.not_le_of_lt hbl) hG.2.2.2.1 (vp_box (by decide) (by rw [hL4]; decide)) dL_law_844 ?_
  refine W.eq (g2 := F0 m 845 ls [.int (xs 2), .int (xs 1), .ref (b 0)]) rfl ?_
  refine lv_aload_n hx hb dL_law_845 rfl (lv_at hl 5 rfl) ?_
  refine lv_iload hx hb dL_law_846 (lv_at hl 1 rfl) ?_
  refine lv_iconst (v := 3) hx hb dL_law_848 (by decide) ?_
  refine lv_iadd hx hb dL_law_849 ?_
  refine W.eq (g2 := F0 m 850 ls [.int 3, .ref sb, .int (xs 2), .int (xs 1), .ref (b 0)]) rfl ?_
  refine va_sld hx hb hX hbl (Nat.not_le_of_lt hbl) hG.2.2.2.1 (vp_box (by decide) (by rw [hL4]; decide)) dL_law_850 ?_
  refine W.eq (g2 := F0 m 851 ls [.int (xs 3), .int (xs 2), .int (xs 1), .ref (b 0)]) rfl ?_
  have cut851 : Cut (([(b 0, .inr (9, [.int 0, .ref (b 1), .ref (b 2), .ref (b 3), .ref (b 4), .ref (b 5), .ref (b 6), .ref (b 7), .null, .int 0, .int (-1), .int 0, .int 0, .int 0, .ref (b 8)])), (b 1, .inl (κ.1, 4, .inl (fun _ => 1000))), (b 2, .inr (10, [.int 0, .ref E0, .int 0])), (b 3, .inr (10, [.int 0, .ref E0, .int 0])), (b 4, .inr (10, [.int 0, .ref E0, .int 0])), (b 5, .inr (10, [.int 0, .ref E0, .int 0])), (b 6, .inr (10, [.int 0, .ref E0, .int 0])), (b 7, .inr (10, [.int 0, .ref E0, .int 0])), (b 8, .inr (10, [.int 0, .ref E0, .int 0]))]) ++ ([(o, .inl (κ.2.1, 1, .inr (.inl (fun _ => 0))))])) (mw κ b E0 0) ([(o, .inl (κ.2.1, 1, .inr (.inl (fun _ => 0))))]) := (Cut.idx [0, 1, 2, 3, 4, 5, 6, 7, 8] [9] rfl rfl (by decide) (by decide) (by decide))
  refine zc_l hG cut851 (zr_V (k := 0) (ci := 9) (n := 3) (As := [.int (xs 1), .int (xs 2), .int (xs 3)]) (rest := []) hC hG hE hT cut851 (z_83_ofLeg l hst D κ E0 H.size b (xs 1) (xs 2) (xs 3) ⟨by omega, by omega⟩ ⟨by omega, by omega⟩ ⟨by omega, by omega⟩) rfl rfl w684 w5 w687 w685 w686 (by decide +kernel) ⟨Nat.le_of_ble_eq_true rfl, Nat.le_of_ble_eq_true rfl⟩ rfl hl.1 rfl (Nat.le_of_ble_eq_true rfl) dL_law_851 ⟨Nat.le_of_ble_eq_true rfl, Nat.le_of_ble_eq_true rfl⟩) (fun z2 H locs hG => ?_)
  have hG : BW D κ (([(o, .inl (κ.2.1, 1, .inr (.inl (fun _ => 0))))]) ++ (mw κ b E0 1)) _ s H locs := hG
  refine lv_lstore (lv' := [(6, .long 0), (5, .int 1), (4, .int 0), (3, .ref o), (2, .ref (b 0)), (1, .ref (a 0)), (0, .ref sb)]) hx hb dL_law_854 hl (by decide) rfl (fun ls hl => ?_)
  refine lv_aload_n hx hb dL_law_856 rfl (lv_at hl 4 rfl) ?_
  have cut857 : Cut (([(o, .inl (κ.2.1, 1, .inr (.inl (fun _ => 0))))]) ++ (mw κ b E0 1)) ([(b 0, .inr (9, [.int 1, .ref (b 1), .ref (b 2), .ref (b 3), .ref (b 4), .ref (b 5), .ref (b 6), .ref (b 7), .null, .int 0, .int (-1), .int 0, .int 0, .int 0, .ref (b 8)]))]) ([(o, .inl (κ.2.1, 1, .inr (.inl (fun _ => 0)))), (b 1, .inl (κ.1, 4, .inl (fun _ => 1000))), (b 2, .inr (10, [.int 0, .ref E0, .int 0])), (b 3, .inr (10, [.int 0, .ref E0, .int 0])), (b 4, .inr (10, [.int 0, .ref E0, .int 0])), (b 5, .inr (10, [.int 0, .ref E0, .int 0])), (b 6, .inr (10, [.int 0, .ref E0, .int 0])), (b 7, .inr (10, [.int 0, .ref E0, .int 0])), (b 8, .inr (10, [.int 0, .ref E0, .int 0]))]) := (Cut.idx [1] [0, 2, 3, 4, 5, 6, 7, 8, 9] rfl rfl (by decide) (by decide) (by decide))
  refine zc_i hG cut857 (zr_V (k := 1) (ci := 9) (n := 0) (As := []) (rest := []) hC hG hE hT cut857 (z_6_thrown l hst D κ E0 H.size b) rfl rfl w200 w5 w203 w201 w202 (by decide +kernel) ⟨Nat.le_of_ble_eq_true rfl, Nat.le_of_ble_eq_true rfl⟩ rfl hl.1 rfl (Nat.le_of_ble_eq_true rfl) dL_law_857 ⟨Nat.le_of_ble_eq_true rfl, Nat.le_of_ble_eq_true rfl⟩) (fun z3 H locs hG => ?_)
  have hG : BW D κ (([(o, .inl (κ.2.1, 1, .inr (.inl (fun _ => 0)))), (b 1, .inl (κ.1, 4, .inl (fun _ => 1000))), (b 2, .inr (10, [.int 0, .ref E0, .int 0])), (b 3, .inr (10, [.int 0, .ref E0, .int 0])), (b 4, .inr (10, [.int 0, .ref E0, .int 0])), (b 5, .inr (10, [.int 0, .ref E0, .int 0])), (b 6, .inr (10, [.int 0, .ref E0, .int 0])), (b 7, .inr (10, [.int 0, .ref E0, .int 0])), (b 8, .inr (10, [.int 0, .ref E0, .int 0]))]) ++ ([(b 0, .inr (9, [.int 1, .ref (b 1), .ref (b 2), .ref (b 3), .ref (b 4), .ref (b 5), .ref (b 6), .ref (b 7), .null, .int 0, .int (-1), .int 0, .int 0, .int 0, .ref (b 8)]))])) _ s H locs := hG
  refine lv_iload hx hb dL_law_860 (lv_at hl 1 rfl) ?_
  refine lv_icmp_eq (tgt := 867) hx hb dL_law_862 (by decide) (fun _ => ?_) (fun h862 => absurd (by decide) h862)
  refine lv_iload hx hb dL_law_867 (lv_at hl 1 rfl) ?_
  refine lv_if_ne (tgt := 883) hx hb dL_law_869 (by decide) (fun _ => ?_) (fun h869 => absurd h869 (by decide))
  refine lv_goto (tgt := 2042) hx hb dL_law_883 (by decide) ?_
  refine lv_iinc (v := 4) (lv' := [(4, .int 4), (6, .long 0), (5, .int 1), (3, .ref o), (2, .ref (b 0)), (1, .ref (a 0)), (0, .ref sb)]) hx hb dL_law_2042 hl (k := 2) rfl (by decide) (by decide) rfl (fun ls hl => ?_)
  refine lv_goto (tgt := 23) hx hb dL_law_2045 (by decide) ?_
  refine lv_iload hx hb dL_law_23 (lv_at hl 0 rfl) ?_
  refine lv_aload_n hx hb dL_law_25 rfl (lv_at hl 6 rfl) ?_
  refine va_slen hx hb hX hbl (Nat.not_le_of_lt hbl) hG.2.2.2.1 dL_law_26 ?_
  refine W.eq (g2 := F0 m 27 ls [.int 4, .int 4]) (by rw [hL4]; rfl) ?_
  refine lv_iconst (v := 4) hx hb dL_law_27 (by decide) ?_
  refine lv_isub hx hb dL_law_28 ?_
  refine W.eq (g2 := F0 m 29 ls [.int 0, .int 4]) rfl ?_
  refine lv_icmp_gt (tgt := 2048) hx hb dL_law_29 (by decide) (fun _ => ?_) (fun h29 => absurd (by decide) h29)
  refine lv_iconst (v := 1) hx hb dL_law_2048 (by decide) ?_
  refine W.widen (k := 600002) (n := 7302232) (Nat.le_of_ble_eq_true rfl) (Nat.le_of_ble_eq_true rfl) ?_
  refine va_forget (fun q hq => hG.2.2.2.1.2.2 q hq) ?_
  refine W.base ?_
  exact lw_ret (Drawn.sameBut.refl s.drawn lw_cs) hx hb hr hlocks dL_law_2049
theorem dL_law_886 : decode code 886 = .ok (.aload_n 1, 1) := by decide +kernel
theorem dL_law_887 : decode code 887 = .ok (.aload_n 0, 1) := by decide +kernel
theorem dL_law_888 : decode code 888 = .ok (.iload 4, 2) := by decide +kernel
theorem dL_law_890 : decode code 890 = .ok (.iconst 1, 1) := by decide +kernel
theorem dL_law_891 : decode code 891 = .ok (.iadd, 1) := by decide +kernel
theorem dL_law_892 : decode code 892 = .ok (.iaload, 1) := by decide +kernel
theorem dL_law_893 : decode code 893 = .ok (.aload_n 0, 1) := by decide +kernel
theorem dL_law_894 : decode code 894 = .ok (.iload 4, 2) := by decide +kernel
theorem dL_law_896 : decode code 896 = .ok (.iconst 2, 1) := by decide +kernel
theorem dL_law_897 : decode code 897 = .ok (.iadd, 1) := by decide +kernel
theorem dL_law_898 : decode code 898 = .ok (.iaload, 1) := by decide +kernel
theorem dL_law_899 : decode code 899 = .ok (.aload_n 0, 1) := by decide +kernel
theorem dL_law_900 : decode code 900 = .ok (.iload 4, 2) := by decide +kernel
theorem dL_law_902 : decode code 902 = .ok (.iconst 3, 1) := by decide +kernel
theorem dL_law_903 : decode code 903 = .ok (.iadd, 1) := by decide +kernel
theorem dL_law_904 : decode code 904 = .ok (.iaload, 1) := by decide +kernel
theorem dL_law_905 : decode code 905 = .ok (.aload_n 3, 1) := by decide +kernel
theorem dL_law_906 : decode code 906 = .ok (.invokestatic 156, 3) := by decide +kernel
theorem dL_law_909 : decode code 909 = .ok (.istore 5, 2) := by decide +kernel
theorem dL_law_911 : decode code 911 = .ok (.aload_n 2, 1) := by decide +kernel
theorem dL_law_912 : decode code 912 = .ok (.aload_n 0, 1) := by decide +kernel
theorem dL_law_913 : decode code 913 = .ok (.iload 4, 2) := by decide +kernel
theorem dL_law_915 : decode code 915 = .ok (.iconst 1, 1) := by decide +kernel
theorem dL_law_916 : decode code 916 = .ok (.iadd, 1) := by decide +kernel
theorem dL_law_917 : decode code 917 = .ok (.iaload, 1) := by decide +kernel
theorem dL_law_918 : decode code 918 = .ok (.aload_n 0, 1) := by decide +kernel
theorem dL_law_919 : decode code 919 = .ok (.iload 4, 2) := by decide +kernel
theorem dL_law_921 : decode code 921 = .ok (.iconst 2, 1) := by decide +kernel
theorem dL_law_922 : decode code 922 = .ok (.iadd, 1) := by decide +kernel
theorem dL_law_923 : decode code 923 = .ok (.iaload, 1) := by decide +kernel
theorem dL_law_924 : decode code 924 = .ok (.aload_n 0, 1) := by decide +kernel
theorem dL_law_925 : decode code 925 = .ok (.iload 4, 2) := by decide +kernel
theorem dL_law_927 : decode code 927 = .ok (.iconst 3, 1) := by decide +kernel
theorem dL_law_928 : decode code 928 = .ok (.iadd, 1) := by decide +kernel
theorem dL_law_929 : decode code 929 = .ok (.iaload, 1) := by decide +kernel
theorem dL_law_930 : decode code 930 = .ok (.invokevirtual 158, 3) := by decide +kernel
theorem dL_law_933 : decode code 933 = .ok (.istore 6, 2) := by decide +kernel
theorem dL_law_935 : decode code 935 = .ok (.aload_n 2, 1) := by decide +kernel
theorem dL_law_936 : decode code 936 = .ok (.invokevirtual 116, 3) := by decide +kernel
theorem dL_law_939 : decode code 939 = .ok (.iload 5, 2) := by decide +kernel
theorem dL_law_941 : decode code 941 = .ok (.if_icmp .eq 5, 3) := by decide +kernel
theorem dL_law_946 : decode code 946 = .ok (.iload 5, 2) := by decide +kernel
theorem dL_law_948 : decode code 948 = .ok (.ifCond .ne 15, 3) := by decide +kernel
theorem dL_law_963 : decode code 963 = .ok (.goto 1079, 3) := by decide +kernel
set_option maxHeartbeats 4000000 in
set_option maxRecDepth 100000 in
theorem leaf_16 {p : Program} {e : Env} {s : State} {m : MethodId} {below : List Frame} {meth : Method} {c : Code} (l : Launch) (hst : l.stackTraces = false) {D : va_G} {κ : K4} {E0 : Nat} {a b : Nat → Nat} {o sb L : Nat} {xs : Nat → Int32} (hC : CallFix p m c code 9 s #[Value.ref sb] WALL RL) (hr : meth.sig.returnType = ret) (hlocks : meth.locks = false) (hX : va_X sb L xs s s.heap) (hbl : sb < s.heap.size) (hL4 : L = 4) (hE : EA E0 D κ (fun q => s.heap.size ≤ q) s s.heap) (hT : ET s) (k_1 : -2147483648 ≤ (xs 1).toInt ∧ (xs 1).toInt ≤ 2147483647) (k_2 : -2147483648 ≤ (xs 2).toInt ∧ (xs 2).toInt ≤ 2147483647) (k_3 : -2147483648 ≤ (xs 3).toInt ∧ (xs 3).toInt ≤ 2147483647) (H : Heap) (locs : List Loc) (hG : BW D κ ((xw κ a ++ [(o, .inl (κ.2.1, 1, .inr (.inl (fun _ => 0))))]) ++ mw κ b E0 0) (fun q => s.heap.size ≤ q) s H locs) (ls : Array Slot) (hl : lv_has ls 9 [(4, .int 0), (3, .ref o), (2, .ref (b 0)), (1, .ref (a 0)), (0, .ref sb)]) : W p l e room_1 s m #[Value.ref sb] below meth c H locs 100 6000 (lw_Z below #[Value.ref sb] s) (F0 m 886 ls []) := by
  have hx := hC.1
  have hb := hC.2.1
  refine lv_aload_n hx hb dL_law_886 rfl (lv_at hl 3 rfl) ?_
  refine lv_aload_n hx hb dL_law_887 rfl (lv_at hl 4 rfl) ?_
  refine lv_iload hx hb dL_law_888 (lv_at hl 0 rfl) ?_
  refine lv_iconst (v := 1) hx hb dL_law_890 (by decide) ?_
  refine lv_iadd hx hb dL_law_891 ?_
  refine W.eq (g2 := F0 m 892 ls [.int 1, .ref sb, .ref (a 0)]) rfl ?_
  refine va_sld hx hb hX hbl (Nat.not_le_of_lt hbl) hG.2.2.2.1 (vp_box (by decide) (by rw [hL4]; decide)) dL_law_892 ?_
  refine W.eq (g2 := F0 m 893 ls [.int (xs 1), .ref (a 0)]) rfl ?_
  refine lv_aload_n hx hb dL_law_893 rfl (lv_at hl 4 rfl) ?_
  refine lv_iload hx hb dL_law_894 (lv_at hl 0 rfl) ?_
  refine lv_iconst (v := 2) hx hb dL_law_896 (by decide) ?_
  refine lv_iadd hx hb dL_law_897 ?_
  refine W.eq (g2 := F0 m 898 ls [.int 2, .ref sb, .int (xs 1), .ref (a 0)]) rfl ?_
  refine va_sld hx hb hX hbl (Nat.not_le_of_lt hbl) hG.2.2.2.1 (vp_box (by decide) (by rw [hL4]; decide)) dL_law_898 ?_
  refine W.eq (g2 := F0 m 899 ls [.int (xs 2), .int (xs 1), .ref (a 0)]) rfl ?_
  refine lv_aload_n hx hb dL_law_899 rfl (lv_at hl 4 rfl) ?_
  refine lv_iload hx hb dL_law_900 (lv_at hl 0 rfl) ?_
  refine lv_iconst (v := 3) hx hb dL_law_902 (by decide) ?_
  refine lv_iadd hx hb dL_law_903 ?_
  refine W.eq (g2 := F0 m 904 ls [.int 3, .ref sb, .int (xs 2), .int (xs 1), .ref (a 0)]) rfl ?_
  refine va_sld hx hb hX hbl (Nat.not_le_of_lt hbl) hG.2.2.2.1 (vp_box (by decide) (by rw [hL4]; decide)) dL_law_904 ?_
  refine W.eq (g2 := F0 m 905 ls [.int (xs 3), .int (xs 2), .int (xs 1), .ref (a 0)]) rfl ?_
  refine lv_aload_n hx hb dL_law_905 rfl (lv_at hl 1 rfl) ?_
  have cut906 : Cut ((xw κ a ++ [(o, .inl (κ.2.1, 1, .inr (.inl (fun _ => 0))))]) ++ mw κ b E0 0) ([(a 0, .inr (7, [.ref (a 1), .ref (a 7), .ref (a 12), .ref (a 23), .ref (a 28), .ref (a 33), .ref (a 37), .ref (a 41), .int (-1), .int 0])), (a 1, .inr (0, [.ref (a 2), .ref (a 3), .ref (a 4), .ref (a 5), .ref (a 6), .int 0])), (a 2, .inl (κ.1, 4, .inl (fun _ => 1000))), (a 3, .inl (κ.1, 10, .inl (fun _ => 0))), (a 4, .inl (κ.1, 10, .inl (fun _ => 0))), (a 5, .inl (κ.1, 10, .inl (fun _ => 0))), (a 6, .inl (κ.2.2.1, 10, .inl (fun _ => 0))), (a 7, .inr (1, [.ref (a 8), .int 0, .int 0, .int 0])), (a 8, .inr (4, [.ref (a 9), .ref (a 10), .ref (a 11), .int 0])), (a 9, .inl (κ.1, 10, .inl (fun _ => 0))), (a 10, .inl (κ.2.1, 10, .inr (.inl (fun _ => 0)))), (a 11, .inl (κ.2.1, 10, .inr (.inl (fun _ => 0)))), (a 12, .inr (3, [.ref (a 13), .ref (a 14), .ref (a 15), .ref (a 16), .ref (a 17), .ref (a 18), .int 0, .ref (a 19), .ref (a 20), .ref (a 21), .ref (a 22), .int 0])), (a 13, .inl (κ.1, 60, .inl (fun _ => 0))), (a 14, .inl (κ.1, 60, .inl (fun _ => 0))), (a 15, .inl (κ.1, 60, .inl (fun _ => 0))), (a 16, .inl (κ.1, 60, .inl (fun _ => 0))), (a 17, .inl (κ.2.2.1, 60, .inl (fun _ => 0))), (a 18, .inl (κ.2.2.1, 60, .inl (fun _ => 0))), (a 19, .inl (κ.1, 600, .inl (fun _ => 0))), (a 20, .inl (κ.1, 600, .inl (fun _ => 0))), (a 21, .inl (κ.2.1, 600, .inr (.inl (fun _ => 0)))), (a 22, .inl (κ.2.1, 600, .inr (.inl (fun _ => 0)))), (a 23, .inr (2, [.ref (a 24), .ref (a 25), .ref (a 26), .ref (a 27), .int 0])), (a 24, .inl (κ.1, 20, .inl (fun _ => 0))), (a 25, .inl (κ.1, 20, .inl (fun _ => 0))), (a 26, .inl (κ.1, 20, .inl (fun _ => 0))), (a 27, .inl (κ.2.2.1, 20, .inl (fun _ => 0))), (a 28, .inr (5, [.ref (a 29), .ref (a 30), .ref (a 31), .ref (a 32), .int 0])), (a 29, .inl (κ.1, 40, .inl (fun _ => 0))), (a 30, .inl (κ.1, 40, .inl (fun _ => 0))), (a 31, .inl (κ.1, 40, .inl (fun _ => 0))), (a 32, .inl (κ.1, 40, .inl (fun _ => 0))), (a 33, .inr (6, [.ref (a 12), .ref (a 28), .ref (a 34), .ref (a 35), .ref (a 36)])), (a 34, .inl (κ.1, 600, .inl (fun _ => (-1)))), (a 35, .inl (κ.1, 40, .inl (fun _ => (-1)))), (a 36, .inl (κ.1, 40, .inl (fun _ => (-1)))), (a 37, .inr (6, [.ref (a 12), .ref (a 28), .ref (a 38), .ref (a 39), .ref (a 40)])), (a 38, .inl (κ.1, 600, .inl (fun _ => (-1)))), (a 39, .inl (κ.1, 40, .inl (fun _ => (-1)))), (a 40, .inl (κ.1, 40, .inl (fun _ => (-1)))), (a 41, .inr (4, [.ref (a 42), .ref (a 43), .ref (a 44), .int 0])), (a 42, .inl (κ.1, 10, .inl (fun _ => 0))), (a 43, .inl (κ.2.1, 10, .inr (.inl (fun _ => 0)))), (a 44, .inl (κ.2.1, 10, .inr (.inl (fun _ => 0)))), (o, .inl (κ.2.1, 1, .inr (.inl (fun _ => 0))))]) ([(b 0, .inr (9, [.int 0, .ref (b 1), .ref (b 2), .ref (b 3), .ref (b 4), .ref (b 5), .ref (b 6), .ref (b 7), .null, .int 0, .int (-1), .int 0, .int 0, .int 0, .ref (b 8)])), (b 1, .inl (κ.1, 4, .inl (fun _ => 1000))), (b 2, .inr (10, [.int 0, .ref E0, .int 0])), (b 3, .inr (10, [.int 0, .ref E0, .int 0])), (b 4, .inr (10, [.int 0, .ref E0, .int 0])), (b 5, .inr (10, [.int 0, .ref E0, .int 0])), (b 6, .inr (10, [.int 0, .ref E0, .int 0])), (b 7, .inr (10, [.int 0, .ref E0, .int 0])), (b 8, .inr (10, [.int 0, .ref E0, .int 0]))]) := (Cut.idx [0, 1, 2, 3, 4, 5, 6, 7, 8, 9, 10, 11, 12, 13, 14, 15, 16, 17, 18, 19, 20, 21, 22, 23, 24, 25, 26, 27, 28, 29, 30, 31, 32, 33, 34, 35, 36, 37, 38, 39, 40, 41, 42, 43, 44, 45] [46, 47, 48, 49, 50, 51, 52, 53, 54] rfl rfl (by decide) (by decide) (by decide))
  refine zc_i hG cut906 (zr_H (n := 5) (As := [.ref (a 0), .int (xs 1), .int (xs 2), .int (xs 3), .ref o]) (rest := []) hC hG hE hT cut906 (z_85_hold l hst D κ E0 H.size a (xs 1) (xs 2) (xs 3) o ⟨by omega, by omega⟩ ⟨by omega, by omega⟩ ⟨by omega, by omega⟩) w695 w143 w697 w696 (by decide +kernel) ⟨Nat.le_of_ble_eq_true rfl, Nat.le_of_ble_eq_true rfl⟩ rfl hl.1 rfl (Nat.le_of_ble_eq_true rfl) dL_law_906 ⟨Nat.le_of_ble_eq_true rfl, Nat.le_of_ble_eq_true rfl⟩) (fun z1 H locs hG => ?_)
  have hG : BW D κ (([(b 0, .inr (9, [.int 0, .ref (b 1), .ref (b 2), .ref (b 3), .ref (b 4), .ref (b 5), .ref (b 6), .ref (b 7), .null, .int 0, .int (-1), .int 0, .int 0, .int 0, .ref (b 8)])), (b 1, .inl (κ.1, 4, .inl (fun _ => 1000))), (b 2, .inr (10, [.int 0, .ref E0, .int 0])), (b 3, .inr (10, [.int 0, .ref E0, .int 0])), (b 4, .inr (10, [.int 0, .ref E0, .int 0])), (b 5, .inr (10, [.int 0, .ref E0, .int 0])), (b 6, .inr (10, [.int 0, .ref E0, .int 0])), (b 7, .inr (10, [.int 0, .ref E0, .int 0])), (b 8, .inr (10, [.int 0, .ref E0, .int 0]))]) ++ ([(o, .inl (κ.2.1, 1, .inr (.inl (fun _ => 0))))])) _ s H locs := hG
  refine lv_istore (lv' := [(5, .int 1), (4, .int 0), (3, .ref o), (2, .ref (b 0)), (1, .ref (a 0)), (0, .ref sb)]) hx hb dL_law_909 hl (by decide) rfl (fun ls hl => ?_)
  refine lv_aload_n hx hb dL_law_911 rfl (lv_at hl 3 rfl) ?_
  refine lv_aload_n hx hb dL_law_912 rfl (lv_at hl 5 rfl) ?_
  refine lv_iload hx hb dL_law_913 (lv_at hl 1 rfl) ?_
  refine lv_iconst (v := 1) hx hb dL_law_915 (by decide) ?_
  refine lv_iadd hx hb dL_law_916 ?_
  refine W.eq (g2 := F0 m 917 ls [.int 1, .ref sb, .ref (b 0)]) rfl ?_
  refine va_sld hx hb hX hbl (Nat.not_le_of_lt hbl) hG.2.2.2.1 (vp_box (by decide) (by rw [hL4]; decide)) dL_law_917 ?_
  refine W.eq (g2 := F0 m 918 ls [.int (xs 1), .ref (b 0)]) rfl ?_
  refine lv_aload_n hx hb dL_law_918 rfl (lv_at hl 5 rfl) ?_
  refine lv_iload hx hb dL_law_919 (lv_at hl 1 rfl) ?_
  refine lv_iconst (v := 2) hx hb dL_law_921 (by decide) ?_
  refine lv_iadd hx hb dL_law_922 ?_
  refine W.eq (g2 := F0 m 923 ls [.int 2, .ref sb, .int (xs 1), .ref (b 0)]) rfl ?_
  refine va_sld hx hb hX hbl (Nat.not_le_of_lt hbl) hG.2.2.2.1 (vp_box (by decide) (by rw [hL4]; decide)) dL_law_923 ?_
  refine W.eq (g2 := F0 m 924 ls [.int (xs 2), .int (xs 1), .ref (b 0)]) rfl ?_
  refine lv_aload_n hx hb dL_law_924 rfl (lv_at hl 5 rfl) ?_
  refine lv_iload hx hb dL_law_925 (lv_at hl 1 rfl) ?_
  refine lv_iconst (v := 3) hx hb dL_law_927 (by decide) ?_
  refine lv_iadd hx hb dL_law_928 ?_
  refine W.eq (g2 := F0 m 929 ls [.int 3, .ref sb, .int (xs 2), .int (xs 1), .ref (b 0)]) rfl ?_
  refine va_sld hx hb hX hbl (Nat.not_le_of_lt hbl) hG.2.2.2.1 (vp_box (by decide) (by rw [hL4]; decide)) dL_law_929 ?_
  refine W.eq (g2 := F0 m 930 ls [.int (xs 3), .int (xs 2), .int (xs 1), .ref (b 0)]) rfl ?_
  have cut930 : Cut (([(b 0, .inr (9, [.int 0, .ref (b 1), .ref (b 2), .ref (b 3), .ref (b 4), .ref (b 5), .ref (b 6), .ref (b 7), .null, .int 0, .int (-1), .int 0, .int 0, .int 0, .ref (b 8)])), (b 1, .inl (κ.1, 4, .inl (fun _ => 1000))), (b 2, .inr (10, [.int 0, .ref E0, .int 0])), (b 3, .inr (10, [.int 0, .ref E0, .int 0])), (b 4, .inr (10, [.int 0, .ref E0, .int 0])), (b 5, .inr (10, [.int 0, .ref E0, .int 0])), (b 6, .inr (10, [.int 0, .ref E0, .int 0])), (b 7, .inr (10, [.int 0, .ref E0, .int 0])), (b 8, .inr (10, [.int 0, .ref E0, .int 0]))]) ++ ([(o, .inl (κ.2.1, 1, .inr (.inl (fun _ => 0))))])) (mw κ b E0 0) ([(o, .inl (κ.2.1, 1, .inr (.inl (fun _ => 0))))]) := (Cut.idx [0, 1, 2, 3, 4, 5, 6, 7, 8] [9] rfl rfl (by decide) (by decide) (by decide))
  refine zc_i hG cut930 (zr_V (k := 0) (ci := 9) (n := 3) (As := [.int (xs 1), .int (xs 2), .int (xs 3)]) (rest := []) hC hG hE hT cut930 (z_86_hold l hst D κ E0 H.size b (xs 1) (xs 2) (xs 3) ⟨by omega, by omega⟩ ⟨by omega, by omega⟩ ⟨by omega, by omega⟩) rfl rfl w712 w5 w715 w713 w714 (by decide +kernel) ⟨Nat.le_of_ble_eq_true rfl, Nat.le_of_ble_eq_true rfl⟩ rfl hl.1 rfl (Nat.le_of_ble_eq_true rfl) dL_law_930 ⟨Nat.le_of_ble_eq_true rfl, Nat.le_of_ble_eq_true rfl⟩) (fun z2 H locs hG => ?_)
  have hG : BW D κ (([(o, .inl (κ.2.1, 1, .inr (.inl (fun _ => 0))))]) ++ (mw κ b E0 1)) _ s H locs := hG
  refine lv_istore (lv' := [(6, .int 0), (5, .int 1), (4, .int 0), (3, .ref o), (2, .ref (b 0)), (1, .ref (a 0)), (0, .ref sb)]) hx hb dL_law_933 hl (by decide) rfl (fun ls hl => ?_)
  refine lv_aload_n hx hb dL_law_935 rfl (lv_at hl 4 rfl) ?_
  have cut936 : Cut (([(o, .inl (κ.2.1, 1, .inr (.inl (fun _ => 0))))]) ++ (mw κ b E0 1)) ([(b 0, .inr (9, [.int 1, .ref (b 1), .ref (b 2), .ref (b 3), .ref (b 4), .ref (b 5), .ref (b 6), .ref (b 7), .null, .int 0, .int (-1), .int 0, .int 0, .int 0, .ref (b 8)]))]) ([(o, .inl (κ.2.1, 1, .inr (.inl (fun _ => 0)))), (b 1, .inl (κ.1, 4, .inl (fun _ => 1000))), (b 2, .inr (10, [.int 0, .ref E0, .int 0])), (b 3, .inr (10, [.int 0, .ref E0, .int 0])), (b 4, .inr (10, [.int 0, .ref E0, .int 0])), (b 5, .inr (10, [.int 0, .ref E0, .int 0])), (b 6, .inr (10, [.int 0, .ref E0, .int 0])), (b 7, .inr (10, [.int 0, .ref E0, .int 0])), (b 8, .inr (10, [.int 0, .ref E0, .int 0]))]) := (Cut.idx [1] [0, 2, 3, 4, 5, 6, 7, 8, 9] rfl rfl (by decide) (by decide) (by decide))
  refine zc_i hG cut936 (zr_V (k := 1) (ci := 9) (n := 0) (As := []) (rest := []) hC hG hE hT cut936 (z_6_thrown l hst D κ E0 H.size b) rfl rfl w200 w5 w203 w201 w202 (by decide +kernel) ⟨Nat.le_of_ble_eq_true rfl, Nat.le_of_ble_eq_true rfl⟩ rfl hl.1 rfl (Nat.le_of_ble_eq_true rfl) dL_law_936 ⟨Nat.le_of_ble_eq_true rfl, Nat.le_of_ble_eq_true rfl⟩) (fun z3 H locs hG => ?_)
  have hG : BW D κ (([(o, .inl (κ.2.1, 1, .inr (.inl (fun _ => 0)))), (b 1, .inl (κ.1, 4, .inl (fun _ => 1000))), (b 2, .inr (10, [.int 0, .ref E0, .int 0])), (b 3, .inr (10, [.int 0, .ref E0, .int 0])), (b 4, .inr (10, [.int 0, .ref E0, .int 0])), (b 5, .inr (10, [.int 0, .ref E0, .int 0])), (b 6, .inr (10, [.int 0, .ref E0, .int 0])), (b 7, .inr (10, [.int 0, .ref E0, .int 0])), (b 8, .inr (10, [.int 0, .ref E0, .int 0]))]) ++ ([(b 0, .inr (9, [.int 1, .ref (b 1), .ref (b 2), .ref (b 3), .ref (b 4), .ref (b 5), .ref (b 6), .ref (b 7), .null, .int 0, .int (-1), .int 0, .int 0, .int 0, .ref (b 8)]))])) _ s H locs := hG
  refine lv_iload hx hb dL_law_939 (lv_at hl 1 rfl) ?_
  refine lv_icmp_eq (tgt := 946) hx hb dL_law_941 (by decide) (fun _ => ?_) (fun h941 => absurd (by decide) h941)
  refine lv_iload hx hb dL_law_946 (lv_at hl 1 rfl) ?_
  refine lv_if_ne (tgt := 963) hx hb dL_law_948 (by decide) (fun _ => ?_) (fun h948 => absurd h948 (by decide))
  refine lv_goto (tgt := 2042) hx hb dL_law_963 (by decide) ?_
  refine lv_iinc (v := 4) (lv' := [(4, .int 4), (6, .int 0), (5, .int 1), (3, .ref o), (2, .ref (b 0)), (1, .ref (a 0)), (0, .ref sb)]) hx hb dL_law_2042 hl (k := 2) rfl (by decide) (by decide) rfl (fun ls hl => ?_)
  refine lv_goto (tgt := 23) hx hb dL_law_2045 (by decide) ?_
  refine lv_iload hx hb dL_law_23 (lv_at hl 0 rfl) ?_
  refine lv_aload_n hx hb dL_law_25 rfl (lv_at hl 6 rfl) ?_
  refine va_slen hx hb hX hbl (Nat.not_le_of_lt hbl) hG.2.2.2.1 dL_law_26 ?_
  refine W.eq (g2 := F0 m 27 ls [.int 4, .int 4]) (by rw [hL4]; rfl) ?_
  refine lv_iconst (v := 4) hx hb dL_law_27 (by decide) ?_
  refine lv_isub hx hb dL_law_28 ?_
  refine W.eq (g2 := F0 m 29 ls [.int 0, .int 4]) rfl ?_
  refine lv_icmp_gt (tgt := 2048) hx hb dL_law_29 (by decide) (fun _ => ?_) (fun h29 => absurd (by decide) h29)
  refine lv_iconst (v := 1) hx hb dL_law_2048 (by decide) ?_
  refine W.widen (k := 600002) (n := 7302232) (Nat.le_of_ble_eq_true rfl) (Nat.le_of_ble_eq_true rfl) ?_
  refine va_forget (fun q hq => hG.2.2.2.1.2.2 q hq) ?_
  refine W.base ?_
  exact lw_ret (Drawn.sameBut.refl s.drawn lw_cs) hx hb hr hlocks dL_law_2049
theorem dL_law_1001 : decode code 1001 = .ok (.iconst 2, 1) := by decide +kernel
theorem dL_law_1002 : decode code 1002 = .ok (.iadd, 1) := by decide +kernel
theorem dL_law_1003 : decode code 1003 = .ok (.iaload, 1) := by decide +kernel
theorem dL_law_1004 : decode code 1004 = .ok (.aload_n 0, 1) := by decide +kernel
theorem dL_law_1005 : decode code 1005 = .ok (.iload 4, 2) := by decide +kernel
theorem dL_law_1007 : decode code 1007 = .ok (.iconst 3, 1) := by decide +kernel
theorem dL_law_1008 : decode code 1008 = .ok (.iadd, 1) := by decide +kernel
theorem dL_law_1009 : decode code 1009 = .ok (.iaload, 1) := by decide +kernel
theorem dL_law_1010 : decode code 1010 = .ok (.invokevirtual 161, 3) := by decide +kernel
theorem dL_law_1013 : decode code 1013 = .ok (.istore 6, 2) := by decide +kernel
theorem dL_law_1015 : decode code 1015 = .ok (.aload_n 2, 1) := by decide +kernel
theorem dL_law_1016 : decode code 1016 = .ok (.invokevirtual 116, 3) := by decide +kernel
theorem dL_law_1019 : decode code 1019 = .ok (.iload 5, 2) := by decide +kernel
theorem dL_law_1021 : decode code 1021 = .ok (.if_icmp .eq 5, 3) := by decide +kernel
theorem dL_law_1026 : decode code 1026 = .ok (.iload 5, 2) := by decide +kernel
theorem dL_law_1028 : decode code 1028 = .ok (.ifCond .ne 15, 3) := by decide +kernel
theorem dL_law_1043 : decode code 1043 = .ok (.goto 999, 3) := by decide +kernel
theorem dL_law_966 : decode code 966 = .ok (.aload_n 1, 1) := by decide +kernel
theorem dL_law_967 : decode code 967 = .ok (.aload_n 0, 1) := by decide +kernel
theorem dL_law_968 : decode code 968 = .ok (.iload 4, 2) := by decide +kernel
theorem dL_law_970 : decode code 970 = .ok (.iconst 1, 1) := by decide +kernel
theorem dL_law_971 : decode code 971 = .ok (.iadd, 1) := by decide +kernel
theorem dL_law_972 : decode code 972 = .ok (.iaload, 1) := by decide +kernel
theorem dL_law_973 : decode code 973 = .ok (.aload_n 0, 1) := by decide +kernel
theorem dL_law_974 : decode code 974 = .ok (.iload 4, 2) := by decide +kernel
theorem dL_law_976 : decode code 976 = .ok (.iconst 2, 1) := by decide +kernel
theorem dL_law_977 : decode code 977 = .ok (.iadd, 1) := by decide +kernel
theorem dL_law_978 : decode code 978 = .ok (.iaload, 1) := by decide +kernel
theorem dL_law_979 : decode code 979 = .ok (.aload_n 0, 1) := by decide +kernel
theorem dL_law_980 : decode code 980 = .ok (.iload 4, 2) := by decide +kernel
theorem dL_law_982 : decode code 982 = .ok (.iconst 3, 1) := by decide +kernel
theorem dL_law_983 : decode code 983 = .ok (.iadd, 1) := by decide +kernel
theorem dL_law_984 : decode code 984 = .ok (.iaload, 1) := by decide +kernel
theorem dL_law_985 : decode code 985 = .ok (.aload_n 3, 1) := by decide +kernel
theorem dL_law_986 : decode code 986 = .ok (.invokestatic 159, 3) := by decide +kernel
theorem dL_law_989 : decode code 989 = .ok (.istore 5, 2) := by decide +kernel
theorem dL_law_991 : decode code 991 = .ok (.aload_n 2, 1) := by decide +kernel
theorem dL_law_992 : decode code 992 = .ok (.aload_n 0, 1) := by decide +kernel
theorem dL_law_993 : decode code 993 = .ok (.iload 4, 2) := by decide +kernel
theorem dL_law_995 : decode code 995 = .ok (.iconst 1, 1) := by decide +kernel
theorem dL_law_996 : decode code 996 = .ok (.iadd, 1) := by decide +kernel
theorem dL_law_997 : decode code 997 = .ok (.iaload, 1) := by decide +kernel
theorem dL_law_998 : decode code 998 = .ok (.aload_n 0, 1) := by decide +kernel
theorem dL_law_999 : decode code 999 = .ok (.iload 4, 2) := by decide +kernel
set_option maxHeartbeats 4000000 in
set_option maxRecDepth 100000 in
theorem leaf_17 {p : Program} {e : Env} {s : State} {m : MethodId} {below : List Frame} {meth : Method} {c : Code} (l : Launch) (hst : l.stackTraces = false) {D : va_G} {κ : K4} {E0 : Nat} {a b : Nat → Nat} {o sb L : Nat} {xs : Nat → Int32} (hC : CallFix p m c code 9 s #[Value.ref sb] WALL RL) (hr : meth.sig.returnType = ret) (hlocks : meth.locks = false) (hX : va_X sb L xs s s.heap) (hbl : sb < s.heap.size) (hL4 : L = 4) (hE : EA E0 D κ (fun q => s.heap.size ≤ q) s s.heap) (hT : ET s) (k_1 : -2147483648 ≤ (xs 1).toInt ∧ (xs 1).toInt ≤ 2147483647) (k_2 : -2147483648 ≤ (xs 2).toInt ∧ (xs 2).toInt ≤ 2147483647) (k_3 : -2147483648 ≤ (xs 3).toInt ∧ (xs 3).toInt ≤ 2147483647) (H : Heap) (locs : List Loc) (hG : BW D κ ((xw κ a ++ [(o, .inl (κ.2.1, 1, .inr (.inl (fun _ => 0))))]) ++ mw κ b E0 0) (fun q => s.heap.size ≤ q) s H locs) (ls : Array Slot) (hl : lv_has ls 9 [(4, .int 0), (3, .ref o), (2, .ref (b 0)), (1, .ref (a 0)), (0, .ref sb)]) : W p l e room_1 s m #[Value.ref sb] below meth c H locs 100 6000 (lw_Z below #[Value.ref sb] s) (F0 m 966 ls []) := by
  have hx := hC.1
  have hb := hC.2.1
  refine lv_aload_n hx hb dL_law_966 rfl (lv_at hl 3 rfl) ?_
  refine lv_aload_n hx hb dL_law_967 rfl (lv_at hl 4 rfl) ?_
  refine lv_iload hx hb dL_law_968 (lv_at hl 0 rfl) ?_
  refine lv_iconst (v := 1) hx hb dL_law_970 (by decide) ?_
  refine lv_iadd hx hb dL_law_971 ?_
  refine W.eq (g2 := F0 m 972 ls [.int 1, .ref sb, .ref (a 0)]) rfl ?_
  refine va_sld hx hb hX hbl (Nat.not_le_of_lt hbl) hG.2.2.2.1 (vp_box (by decide) (by rw [hL4]; decide)) dL_law_972 ?_
  refine W.eq (g2 := F0 m 973 ls [.int (xs 1), .ref (a 0)]) rfl ?_
  refine lv_aload_n hx hb dL_law_973 rfl (lv_at hl 4 rfl) ?_
  refine lv_iload hx hb dL_law_974 (lv_at hl 0 rfl) ?_
  refine lv_iconst (v := 2) hx hb dL_law_976 (by decide) ?_
  refine lv_iadd hx hb dL_law_977 ?_
  refine W.eq (g2 := F0 m 978 ls [.int 2, .ref sb, .int (xs 1), .ref (a 0)]) rfl ?_
  refine va_sld hx hb hX hbl (Nat.not_le_of_lt hbl) hG.2.2.2.1 (vp_box (by decide) (by rw [hL4]; decide)) dL_law_978 ?_
  refine W.eq (g2 := F0 m 979 ls [.int (xs 2), .int (xs 1), .ref (a 0)]) rfl ?_
  refine lv_aload_n hx hb dL_law_979 rfl (lv_at hl 4 rfl) ?_
  refine lv_iload hx hb dL_law_980 (lv_at hl 0 rfl) ?_
  refine lv_iconst (v := 3) hx hb dL_law_982 (by decide) ?_
  refine lv_iadd hx hb dL_law_983 ?_
  refine W.eq (g2 := F0 m 984 ls [.int 3, .ref sb, .int (xs 2), .int (xs 1), .ref (a 0)]) rfl ?_
  refine va_sld hx hb hX hbl (Nat.not_le_of_lt hbl) hG.2.2.2.1 (vp_box (by decide) (by rw [hL4]; decide)) dL_law_984 ?_
  refine W.eq (g2 := F0 m 985 ls [.int (xs 3), .int (xs 2), .int (xs 1), .ref (a 0)]) rfl ?_
  refine lv_aload_n hx hb dL_law_985 rfl (lv_at hl 1 rfl) ?_
  have cut986 : Cut ((xw κ a ++ [(o, .inl (κ.2.1, 1, .inr (.inl (fun _ => 0))))]) ++ mw κ b E0 0) ([(a 0, .inr (7, [.ref (a 1), .ref (a 7), .ref (a 12), .ref (a 23), .ref (a 28), .ref (a 33), .ref (a 37), .ref (a 41), .int (-1), .int 0])), (a 1, .inr (0, [.ref (a 2), .ref (a 3), .ref (a 4), .ref (a 5), .ref (a 6), .int 0])), (a 2, .inl (κ.1, 4, .inl (fun _ => 1000))), (a 3, .inl (κ.1, 10, .inl (fun _ => 0))), (a 4, .inl (κ.1, 10, .inl (fun _ => 0))), (a 5, .inl (κ.1, 10, .inl (fun _ => 0))), (a 6, .inl (κ.2.2.1, 10, .inl (fun _ => 0))), (a 7, .inr (1, [.ref (a 8), .int 0, .int 0, .int 0])), (a 8, .inr (4, [.ref (a 9), .ref (a 10), .ref (a 11), .int 0])), (a 9, .inl (κ.1, 10, .inl (fun _ => 0))), (a 10, .inl (κ.2.1, 10, .inr (.inl (fun _ => 0)))), (a 11, .inl (κ.2.1, 10, .inr (.inl (fun _ => 0)))), (a 12, .inr (3, [.ref (a 13), .ref (a 14), .ref (a 15), .ref (a 16), .ref (a 17), .ref (a 18), .int 0, .ref (a 19), .ref (a 20), .ref (a 21), .ref (a 22), .int 0])), (a 13, .inl (κ.1, 60, .inl (fun _ => 0))), (a 14, .inl (κ.1, 60, .inl (fun _ => 0))), (a 15, .inl (κ.1, 60, .inl (fun _ => 0))), (a 16, .inl (κ.1, 60, .inl (fun _ => 0))), (a 17, .inl (κ.2.2.1, 60, .inl (fun _ => 0))), (a 18, .inl (κ.2.2.1, 60, .inl (fun _ => 0))), (a 19, .inl (κ.1, 600, .inl (fun _ => 0))), (a 20, .inl (κ.1, 600, .inl (fun _ => 0))), (a 21, .inl (κ.2.1, 600, .inr (.inl (fun _ => 0)))), (a 22, .inl (κ.2.1, 600, .inr (.inl (fun _ => 0)))), (a 23, .inr (2, [.ref (a 24), .ref (a 25), .ref (a 26), .ref (a 27), .int 0])), (a 24, .inl (κ.1, 20, .inl (fun _ => 0))), (a 25, .inl (κ.1, 20, .inl (fun _ => 0))), (a 26, .inl (κ.1, 20, .inl (fun _ => 0))), (a 27, .inl (κ.2.2.1, 20, .inl (fun _ => 0))), (a 28, .inr (5, [.ref (a 29), .ref (a 30), .ref (a 31), .ref (a 32), .int 0])), (a 29, .inl (κ.1, 40, .inl (fun _ => 0))), (a 30, .inl (κ.1, 40, .inl (fun _ => 0))), (a 31, .inl (κ.1, 40, .inl (fun _ => 0))), (a 32, .inl (κ.1, 40, .inl (fun _ => 0))), (a 33, .inr (6, [.ref (a 12), .ref (a 28), .ref (a 34), .ref (a 35), .ref (a 36)])), (a 34, .inl (κ.1, 600, .inl (fun _ => (-1)))), (a 35, .inl (κ.1, 40, .inl (fun _ => (-1)))), (a 36, .inl (κ.1, 40, .inl (fun _ => (-1)))), (a 37, .inr (6, [.ref (a 12), .ref (a 28), .ref (a 38), .ref (a 39), .ref (a 40)])), (a 38, .inl (κ.1, 600, .inl (fun _ => (-1)))), (a 39, .inl (κ.1, 40, .inl (fun _ => (-1)))), (a 40, .inl (κ.1, 40, .inl (fun _ => (-1)))), (a 41, .inr (4, [.ref (a 42), .ref (a 43), .ref (a 44), .int 0])), (a 42, .inl (κ.1, 10, .inl (fun _ => 0))), (a 43, .inl (κ.2.1, 10, .inr (.inl (fun _ => 0)))), (a 44, .inl (κ.2.1, 10, .inr (.inl (fun _ => 0)))), (o, .inl (κ.2.1, 1, .inr (.inl (fun _ => 0))))]) ([(b 0, .inr (9, [.int 0, .ref (b 1), .ref (b 2), .ref (b 3), .ref (b 4), .ref (b 5), .ref (b 6), .ref (b 7), .null, .int 0, .int (-1), .int 0, .int 0, .int 0, .ref (b 8)])), (b 1, .inl (κ.1, 4, .inl (fun _ => 1000))), (b 2, .inr (10, [.int 0, .ref E0, .int 0])), (b 3, .inr (10, [.int 0, .ref E0, .int 0])), (b 4, .inr (10, [.int 0, .ref E0, .int 0])), (b 5, .inr (10, [.int 0, .ref E0, .int 0])), (b 6, .inr (10, [.int 0, .ref E0, .int 0])), (b 7, .inr (10, [.int 0, .ref E0, .int 0])), (b 8, .inr (10, [.int 0, .ref E0, .int 0]))]) := (Cut.idx [0, 1, 2, 3, 4, 5, 6, 7, 8, 9, 10, 11, 12, 13, 14, 15, 16, 17, 18, 19, 20, 21, 22, 23, 24, 25, 26, 27, 28, 29, 30, 31, 32, 33, 34, 35, 36, 37, 38, 39, 40, 41, 42, 43, 44, 45] [46, 47, 48, 49, 50, 51, 52, 53, 54] rfl rfl (by decide) (by decide) (by decide))
  refine zc_i hG cut986 (zr_H (n := 5) (As := [.ref (a 0), .int (xs 1), .int (xs 2), .int (xs 3), .ref o]) (rest := []) hC hG hE hT cut986 (z_89_take l hst D κ E0 H.size a (xs 1) (xs 2) (xs 3) o ⟨by omega, by omega⟩ ⟨by omega, by omega⟩ ⟨by omega, by omega⟩) w725 w143 w727 w726 (by decide +kernel) ⟨Nat.le_of_ble_eq_true rfl, Nat.le_of_ble_eq_true rfl⟩ rfl hl.1 rfl (Nat.le_of_ble_eq_true rfl) dL_law_986 ⟨Nat.le_of_ble_eq_true rfl, Nat.le_of_ble_eq_true rfl⟩) (fun z1 H locs hG => ?_)
  have hG : BW D κ (([(b 0, .inr (9, [.int 0, .ref (b 1), .ref (b 2), .ref (b 3), .ref (b 4), .ref (b 5), .ref (b 6), .ref (b 7), .null, .int 0, .int (-1), .int 0, .int 0, .int 0, .ref (b 8)])), (b 1, .inl (κ.1, 4, .inl (fun _ => 1000))), (b 2, .inr (10, [.int 0, .ref E0, .int 0])), (b 3, .inr (10, [.int 0, .ref E0, .int 0])), (b 4, .inr (10, [.int 0, .ref E0, .int 0])), (b 5, .inr (10, [.int 0, .ref E0, .int 0])), (b 6, .inr (10, [.int 0, .ref E0, .int 0])), (b 7, .inr (10, [.int 0, .ref E0, .int 0])), (b 8, .inr (10, [.int 0, .ref E0, .int 0]))]) ++ ([(o, .inl (κ.2.1, 1, .inr (.inl (fun _ => 0))))])) _ s H locs := hG
  refine lv_istore (lv' := [(5, .int 1), (4, .int 0), (3, .ref o), (2, .ref (b 0)), (1, .ref (a 0)), (0, .ref sb)]) hx hb dL_law_989 hl (by decide) rfl (fun ls hl => ?_)
  refine lv_aload_n hx hb dL_law_991 rfl (lv_at hl 3 rfl) ?_
  refine lv_aload_n hx hb dL_law_992 rfl (lv_at hl 5 rfl) ?_
  refine lv_iload hx hb dL_law_993 (lv_at hl 1 rfl) ?_
  refine lv_iconst (v := 1) hx hb dL_law_995 (by decide) ?_
  refine lv_iadd hx hb dL_law_996 ?_
  refine W.eq (g2 := F0 m 997 ls [.int 1, .ref sb, .ref (b 0)]) rfl ?_
  refine va_sld hx hb hX hbl (Nat.not_le_of_lt hbl) hG.2.2.2.1 (vp_box (by decide) (by rw [hL4]; decide)) dL_law_997 ?_
  refine W.eq (g2 := F0 m 998 ls [.int (xs 1), .ref (b 0)]) rfl ?_
  refine lv_aload_n hx hb dL_law_998 rfl (lv_at hl 5 rfl) ?_
  refine lv_iload hx hb dL_law_999 (lv_at hl 1 rfl) ?_
  refine lv_iconst (v := 2) hx hb dL_law_1001 (by decide) ?_
  refine lv_iadd hx hb dL_law_1002 ?_
  refine W.eq (g2 := F0 m 1003 ls [.int 2, .ref sb, .int (xs 1), .ref (b 0)]) rfl ?_
  refine va_sld hx hb hX hbl (Nat.not_le_of_lt hbl) hG.2.2.2.1 (vp_box (by decide) (by rw [hL4]; decide)) dL_law_1003 ?_
  refine W.eq (g2 := F0 m 1004 ls [.int (xs 2), .int (xs 1), .ref (b 0)]) rfl ?_
  refine lv_aload_n hx hb dL_law_1004 rfl (lv_at hl 5 rfl) ?_
  refine lv_iload hx hb dL_law_1005 (lv_at hl 1 rfl) ?_
  refine lv_iconst (v := 3) hx hb dL_law_1007 (by decide) ?_
  refine lv_iadd hx hb dL_law_1008 ?_
  refine W.eq (g2 := F0 m 1009 ls [.int 3, .ref sb, .int (xs 2), .int (xs 1), .ref (b 0)]) rfl ?_
  refine va_sld hx hb hX hbl (Nat.not_le_of_lt hbl) hG.2.2.2.1 (vp_box (by decide) (by rw [hL4]; decide)) dL_law_1009 ?_
  refine W.eq (g2 := F0 m 1010 ls [.int (xs 3), .int (xs 2), .int (xs 1), .ref (b 0)]) rfl ?_
  have cut1010 : Cut (([(b 0, .inr (9, [.int 0, .ref (b 1), .ref (b 2), .ref (b 3), .ref (b 4), .ref (b 5), .ref (b 6), .ref (b 7), .null, .int 0, .int (-1), .int 0, .int 0, .int 0, .ref (b 8)])), (b 1, .inl (κ.1, 4, .inl (fun _ => 1000))), (b 2, .inr (10, [.int 0, .ref E0, .int 0])), (b 3, .inr (10, [.int 0, .ref E0, .int 0])), (b 4, .inr (10, [.int 0, .ref E0, .int 0])), (b 5, .inr (10, [.int 0, .ref E0, .int 0])), (b 6, .inr (10, [.int 0, .ref E0, .int 0])), (b 7, .inr (10, [.int 0, .ref E0, .int 0])), (b 8, .inr (10, [.int 0, .ref E0, .int 0]))]) ++ ([(o, .inl (κ.2.1, 1, .inr (.inl (fun _ => 0))))])) (mw κ b E0 0) ([(o, .inl (κ.2.1, 1, .inr (.inl (fun _ => 0))))]) := (Cut.idx [0, 1, 2, 3, 4, 5, 6, 7, 8] [9] rfl rfl (by decide) (by decide) (by decide))
  refine zc_i hG cut1010 (zr_V (k := 0) (ci := 9) (n := 3) (As := [.int (xs 1), .int (xs 2), .int (xs 3)]) (rest := []) hC hG hE hT cut1010 (z_92_take l hst D κ E0 H.size b (xs 1) (xs 2) (xs 3) ⟨by omega, by omega⟩ ⟨by omega, by omega⟩ ⟨by omega, by omega⟩) rfl rfl w748 w5 w751 w749 w750 (by decide +kernel) ⟨Nat.le_of_ble_eq_true rfl, Nat.le_of_ble_eq_true rfl⟩ rfl hl.1 rfl (Nat.le_of_ble_eq_true rfl) dL_law_1010 ⟨Nat.le_of_ble_eq_true rfl, Nat.le_of_ble_eq_true rfl⟩) (fun z2 H locs hG => ?_)
  have hG : BW D κ (([(o, .inl (κ.2.1, 1, .inr (.inl (fun _ => 0))))]) ++ (mw κ b E0 1)) _ s H locs := hG
  refine lv_istore (lv' := [(6, .int 0), (5, .int 1), (4, .int 0), (3, .ref o), (2, .ref (b 0)), (1, .ref (a 0)), (0, .ref sb)]) hx hb dL_law_1013 hl (by decide) rfl (fun ls hl => ?_)
  refine lv_aload_n hx hb dL_law_1015 rfl (lv_at hl 4 rfl) ?_
  have cut1016 : Cut (([(o, .inl (κ.2.1, 1, .inr (.inl (fun _ => 0))))]) ++ (mw κ b E0 1)) ([(b 0, .inr (9, [.int 1, .ref (b 1), .ref (b 2), .ref (b 3), .ref (b 4), .ref (b 5), .ref (b 6), .ref (b 7), .null, .int 0, .int (-1), .int 0, .int 0, .int 0, .ref (b 8)]))]) ([(o, .inl (κ.2.1, 1, .inr (.inl (fun _ => 0)))), (b 1, .inl (κ.1, 4, .inl (fun _ => 1000))), (b 2, .inr (10, [.int 0, .ref E0, .int 0])), (b 3, .inr (10, [.int 0, .ref E0, .int 0])), (b 4, .inr (10, [.int 0, .ref E0, .int 0])), (b 5, .inr (10, [.int 0, .ref E0, .int 0])), (b 6, .inr (10, [.int 0, .ref E0, .int 0])), (b 7, .inr (10, [.int 0, .ref E0, .int 0])), (b 8, .inr (10, [.int 0, .ref E0, .int 0]))]) := (Cut.idx [1] [0, 2, 3, 4, 5, 6, 7, 8, 9] rfl rfl (by decide) (by decide) (by decide))
  refine zc_i hG cut1016 (zr_V (k := 1) (ci := 9) (n := 0) (As := []) (rest := []) hC hG hE hT cut1016 (z_6_thrown l hst D κ E0 H.size b) rfl rfl w200 w5 w203 w201 w202 (by decide +kernel) ⟨Nat.le_of_ble_eq_true rfl, Nat.le_of_ble_eq_true rfl⟩ rfl hl.1 rfl (Nat.le_of_ble_eq_true rfl) dL_law_1016 ⟨Nat.le_of_ble_eq_true rfl, Nat.le_of_ble_eq_true rfl⟩) (fun z3 H locs hG => ?_)
  have hG : BW D κ (([(o, .inl (κ.2.1, 1, .inr (.inl (fun _ => 0)))), (b 1, .inl (κ.1, 4, .inl (fun _ => 1000))), (b 2, .inr (10, [.int 0, .ref E0, .int 0])), (b 3, .inr (10, [.int 0, .ref E0, .int 0])), (b 4, .inr (10, [.int 0, .ref E0, .int 0])), (b 5, .inr (10, [.int 0, .ref E0, .int 0])), (b 6, .inr (10, [.int 0, .ref E0, .int 0])), (b 7, .inr (10, [.int 0, .ref E0, .int 0])), (b 8, .inr (10, [.int 0, .ref E0, .int 0]))]) ++ ([(b 0, .inr (9, [.int 1, .ref (b 1), .ref (b 2), .ref (b 3), .ref (b 4), .ref (b 5), .ref (b 6), .ref (b 7), .null, .int 0, .int (-1), .int 0, .int 0, .int 0, .ref (b 8)]))])) _ s H locs := hG
  refine lv_iload hx hb dL_law_1019 (lv_at hl 1 rfl) ?_
  refine lv_icmp_eq (tgt := 1026) hx hb dL_law_1021 (by decide) (fun _ => ?_) (fun h1021 => absurd (by decide) h1021)
  refine lv_iload hx hb dL_law_1026 (lv_at hl 1 rfl) ?_
  refine lv_if_ne (tgt := 1043) hx hb dL_law_1028 (by decide) (fun _ => ?_) (fun h1028 => absurd h1028 (by decide))
  refine lv_goto (tgt := 2042) hx hb dL_law_1043 (by decide) ?_
  refine lv_iinc (v := 4) (lv' := [(4, .int 4), (6, .int 0), (5, .int 1), (3, .ref o), (2, .ref (b 0)), (1, .ref (a 0)), (0, .ref sb)]) hx hb dL_law_2042 hl (k := 2) rfl (by decide) (by decide) rfl (fun ls hl => ?_)
  refine lv_goto (tgt := 23) hx hb dL_law_2045 (by decide) ?_
  refine lv_iload hx hb dL_law_23 (lv_at hl 0 rfl) ?_
  refine lv_aload_n hx hb dL_law_25 rfl (lv_at hl 6 rfl) ?_
  refine va_slen hx hb hX hbl (Nat.not_le_of_lt hbl) hG.2.2.2.1 dL_law_26 ?_
  refine W.eq (g2 := F0 m 27 ls [.int 4, .int 4]) (by rw [hL4]; rfl) ?_
  refine lv_iconst (v := 4) hx hb dL_law_27 (by decide) ?_
  refine lv_isub hx hb dL_law_28 ?_
  refine W.eq (g2 := F0 m 29 ls [.int 0, .int 4]) rfl ?_
  refine lv_icmp_gt (tgt := 2048) hx hb dL_law_29 (by decide) (fun _ => ?_) (fun h29 => absurd (by decide) h29)
  refine lv_iconst (v := 1) hx hb dL_law_2048 (by decide) ?_
  refine W.widen (k := 600002) (n := 7302232) (Nat.le_of_ble_eq_true rfl) (Nat.le_of_ble_eq_true rfl) ?_
  refine va_forget (fun q hq => hG.2.2.2.1.2.2 q hq) ?_
  refine W.base ?_
  exact lw_ret (Drawn.sameBut.refl s.drawn lw_cs) hx hb hr hlocks dL_law_2049
theorem dL_law_1046 : decode code 1046 = .ok (.aload_n 1, 1) := by decide +kernel
theorem dL_law_1047 : decode code 1047 = .ok (.aload_n 0, 1) := by decide +kernel
theorem dL_law_1048 : decode code 1048 = .ok (.iload 4, 2) := by decide +kernel
theorem dL_law_1050 : decode code 1050 = .ok (.iconst 1, 1) := by decide +kernel
theorem dL_law_1051 : decode code 1051 = .ok (.iadd, 1) := by decide +kernel
theorem dL_law_1052 : decode code 1052 = .ok (.iaload, 1) := by decide +kernel
theorem dL_law_1053 : decode code 1053 = .ok (.aload_n 3, 1) := by decide +kernel
theorem dL_law_1054 : decode code 1054 = .ok (.invokestatic 162, 3) := by decide +kernel
theorem dL_law_1057 : decode code 1057 = .ok (.istore 5, 2) := by decide +kernel
theorem dL_law_1059 : decode code 1059 = .ok (.aload_n 2, 1) := by decide +kernel
theorem dL_law_1060 : decode code 1060 = .ok (.aload_n 0, 1) := by decide +kernel
theorem dL_law_1061 : decode code 1061 = .ok (.iload 4, 2) := by decide +kernel
theorem dL_law_1063 : decode code 1063 = .ok (.iconst 1, 1) := by decide +kernel
theorem dL_law_1064 : decode code 1064 = .ok (.iadd, 1) := by decide +kernel
theorem dL_law_1065 : decode code 1065 = .ok (.iaload, 1) := by decide +kernel
theorem dL_law_1066 : decode code 1066 = .ok (.invokevirtual 164, 3) := by decide +kernel
theorem dL_law_1069 : decode code 1069 = .ok (.istore 6, 2) := by decide +kernel
theorem dL_law_1071 : decode code 1071 = .ok (.aload_n 2, 1) := by decide +kernel
theorem dL_law_1072 : decode code 1072 = .ok (.invokevirtual 116, 3) := by decide +kernel
theorem dL_law_1075 : decode code 1075 = .ok (.iload 5, 2) := by decide +kernel
theorem dL_law_1077 : decode code 1077 = .ok (.if_icmp .eq 5, 3) := by decide +kernel
theorem dL_law_1082 : decode code 1082 = .ok (.iload 5, 2) := by decide +kernel
theorem dL_law_1084 : decode code 1084 = .ok (.ifCond .ne 15, 3) := by decide +kernel
theorem dL_law_1099 : decode code 1099 = .ok (.goto 943, 3) := by decide +kernel
set_option maxHeartbeats 4000000 in
set_option maxRecDepth 100000 in
theorem leaf_18 {p : Program} {e : Env} {s : State} {m : MethodId} {below : List Frame} {meth : Method} {c : Code} (l : Launch) (hst : l.stackTraces = false) {D : va_G} {κ : K4} {E0 : Nat} {a b : Nat → Nat} {o sb L : Nat} {xs : Nat → Int32} (hC : CallFix p m c code 9 s #[Value.ref sb] WALL RL) (hr : meth.sig.returnType = ret) (hlocks : meth.locks = false) (hX : va_X sb L xs s s.heap) (hbl : sb < s.heap.size) (hL4 : L = 4) (hE : EA E0 D κ (fun q => s.heap.size ≤ q) s s.heap) (hT : ET s) (k_1 : -2147483648 ≤ (xs 1).toInt ∧ (xs 1).toInt ≤ 2147483647) (k_2 : -2147483648 ≤ (xs 2).toInt ∧ (xs 2).toInt ≤ 2147483647) (k_3 : -2147483648 ≤ (xs 3).toInt ∧ (xs 3).toInt ≤ 2147483647) (H : Heap) (locs : List Loc) (hG : BW D κ ((xw κ a ++ [(o, .inl (κ.2.1, 1, .inr (.inl (fun _ => 0))))]) ++ mw κ b E0 0) (fun q => s.heap.size ≤ q) s H locs) (ls : Array Slot) (hl : lv_has ls 9 [(4, .int 0), (3, .ref o), (2, .ref (b 0)), (1, .ref (a 0)), (0, .ref sb)]) : W p l e room_1 s m #[Value.ref sb] below meth c H locs 100 6000 (lw_Z below #[Value.ref sb] s) (F0 m 1046 ls []) := by
  have hx := hC.1
  have hb := hC.2.1
  refine lv_aload_n hx hb dL_law_1046 rfl (lv_at hl 3 rfl) ?_
  refine lv_aload_n hx hb dL_law_1047 rfl (lv_at hl 4 rfl) ?_
  refine lv_iload hx hb dL_law_1048 (lv_at hl 0 rfl) ?_
  refine lv_iconst (v := 1) hx hb dL_law_1050 (by decide) ?_
  refine lv_iadd hx hb dL_law_1051 ?_
  refine W.eq (g2 := F0 m 1052 ls [.int 1, .ref sb, .ref (a 0)]) rfl ?_
  refine va_sld hx hb hX hbl (Nat.not_le_of_lt hbl) hG.2.2.2.1 (vp_box (by decide) (by rw [hL4]; decide)) dL_law_1052 ?_
  refine W.eq (g2 := F0 m 1053 ls [.int (xs 1), .ref (a 0)]) rfl ?_
  refine lv_aload_n hx hb dL_law_1053 rfl (lv_at hl 1 rfl) ?_
  have cut1054 : Cut ((xw κ a ++ [(o, .inl (κ.2.1, 1, .inr (.inl (fun _ => 0))))]) ++ mw κ b E0 0) ([(a 0, .inr (7, [.ref (a 1), .ref (a 7), .ref (a 12), .ref (a 23), .ref (a 28), .ref (a 33), .ref (a 37), .ref (a 41), .int (-1), .int 0])), (a 1, .inr (0, [.ref (a 2), .ref (a 3), .ref (a 4), .ref (a 5), .ref (a 6), .int 0])), (a 2, .inl (κ.1, 4, .inl (fun _ => 1000))), (a 3, .inl (κ.1, 10, .inl (fun _ => 0))), (a 4, .inl (κ.1, 10, .inl (fun _ => 0))), (a 5, .inl (κ.1, 10, .inl (fun _ => 0))), (a 6, .inl (κ.2.2.1, 10, .inl (fun _ => 0))), (a 7, .inr (1, [.ref (a 8), .int 0, .int 0, .int 0])), (a 8, .inr (4, [.ref (a 9), .ref (a 10), .ref (a 11), .int 0])), (a 9, .inl (κ.1, 10, .inl (fun _ => 0))), (a 10, .inl (κ.2.1, 10, .inr (.inl (fun _ => 0)))), (a 11, .inl (κ.2.1, 10, .inr (.inl (fun _ => 0)))), (a 12, .inr (3, [.ref (a 13), .ref (a 14), .ref (a 15), .ref (a 16), .ref (a 17), .ref (a 18), .int 0, .ref (a 19), .ref (a 20), .ref (a 21), .ref (a 22), .int 0])), (a 13, .inl (κ.1, 60, .inl (fun _ => 0))), (a 14, .inl (κ.1, 60, .inl (fun _ => 0))), (a 15, .inl (κ.1, 60, .inl (fun _ => 0))), (a 16, .inl (κ.1, 60, .inl (fun _ => 0))), (a 17, .inl (κ.2.2.1, 60, .inl (fun _ => 0))), (a 18, .inl (κ.2.2.1, 60, .inl (fun _ => 0))), (a 19, .inl (κ.1, 600, .inl (fun _ => 0))), (a 20, .inl (κ.1, 600, .inl (fun _ => 0))), (a 21, .inl (κ.2.1, 600, .inr (.inl (fun _ => 0)))), (a 22, .inl (κ.2.1, 600, .inr (.inl (fun _ => 0)))), (a 23, .inr (2, [.ref (a 24), .ref (a 25), .ref (a 26), .ref (a 27), .int 0])), (a 24, .inl (κ.1, 20, .inl (fun _ => 0))), (a 25, .inl (κ.1, 20, .inl (fun _ => 0))), (a 26, .inl (κ.1, 20, .inl (fun _ => 0))), (a 27, .inl (κ.2.2.1, 20, .inl (fun _ => 0))), (a 28, .inr (5, [.ref (a 29), .ref (a 30), .ref (a 31), .ref (a 32), .int 0])), (a 29, .inl (κ.1, 40, .inl (fun _ => 0))), (a 30, .inl (κ.1, 40, .inl (fun _ => 0))), (a 31, .inl (κ.1, 40, .inl (fun _ => 0))), (a 32, .inl (κ.1, 40, .inl (fun _ => 0))), (a 33, .inr (6, [.ref (a 12), .ref (a 28), .ref (a 34), .ref (a 35), .ref (a 36)])), (a 34, .inl (κ.1, 600, .inl (fun _ => (-1)))), (a 35, .inl (κ.1, 40, .inl (fun _ => (-1)))), (a 36, .inl (κ.1, 40, .inl (fun _ => (-1)))), (a 37, .inr (6, [.ref (a 12), .ref (a 28), .ref (a 38), .ref (a 39), .ref (a 40)])), (a 38, .inl (κ.1, 600, .inl (fun _ => (-1)))), (a 39, .inl (κ.1, 40, .inl (fun _ => (-1)))), (a 40, .inl (κ.1, 40, .inl (fun _ => (-1)))), (a 41, .inr (4, [.ref (a 42), .ref (a 43), .ref (a 44), .int 0])), (a 42, .inl (κ.1, 10, .inl (fun _ => 0))), (a 43, .inl (κ.2.1, 10, .inr (.inl (fun _ => 0)))), (a 44, .inl (κ.2.1, 10, .inr (.inl (fun _ => 0)))), (o, .inl (κ.2.1, 1, .inr (.inl (fun _ => 0))))]) ([(b 0, .inr (9, [.int 0, .ref (b 1), .ref (b 2), .ref (b 3), .ref (b 4), .ref (b 5), .ref (b 6), .ref (b 7), .null, .int 0, .int (-1), .int 0, .int 0, .int 0, .ref (b 8)])), (b 1, .inl (κ.1, 4, .inl (fun _ => 1000))), (b 2, .inr (10, [.int 0, .ref E0, .int 0])), (b 3, .inr (10, [.int 0, .ref E0, .int 0])), (b 4, .inr (10, [.int 0, .ref E0, .int 0])), (b 5, .inr (10, [.int 0, .ref E0, .int 0])), (b 6, .inr (10, [.int 0, .ref E0, .int 0])), (b 7, .inr (10, [.int 0, .ref E0, .int 0])), (b 8, .inr (10, [.int 0, .ref E0, .int 0]))]) := (Cut.idx [0, 1, 2, 3, 4, 5, 6, 7, 8, 9, 10, 11, 12, 13, 14, 15, 16, 17, 18, 19, 20, 21, 22, 23, 24, 25, 26, 27, 28, 29, 30, 31, 32, 33, 34, 35, 36, 37, 38, 39, 40, 41, 42, 43, 44, 45] [46, 47, 48, 49, 50, 51, 52, 53, 54] rfl rfl (by decide) (by decide) (by decide))
  refine zc_i hG cut1054 (zr_H (n := 3) (As := [.ref (a 0), .int (xs 1), .ref o]) (rest := []) hC hG hE hT cut1054 (z_94_letGo l hst D κ E0 H.size a (xs 1) o ⟨by omega, by omega⟩) w757 w143 w759 w758 (by decide +kernel) ⟨Nat.le_of_ble_eq_true rfl, Nat.le_of_ble_eq_true rfl⟩ rfl hl.1 rfl (Nat.le_of_ble_eq_true rfl) dL_law_1054 ⟨Nat.le_of_ble_eq_true rfl, Nat.le_of_ble_eq_true rfl⟩) (fun z1 H locs hG => ?_)
  have hG : BW D κ (([(b 0, .inr (9, [.int 0, .ref (b 1), .ref (b 2), .ref (b 3), .ref (b 4), .ref (b 5), .ref (b 6), .ref (b 7), .null, .int 0, .int (-1), .int 0, .int 0, .int 0, .ref (b 8)])), (b 1, .inl (κ.1, 4, .inl (fun _ => 1000))), (b 2, .inr (10, [.int 0, .ref E0, .int 0])), (b 3, .inr (10, [.int 0, .ref E0, .int 0])), (b 4, .inr (10, [.int 0, .ref E0, .int 0])), (b 5, .inr (10, [.int 0, .ref E0, .int 0])), (b 6, .inr (10, [.int 0, .ref E0, .int 0])), (b 7, .inr (10, [.int 0, .ref E0, .int 0])), (b 8, .inr (10, [.int 0, .ref E0, .int 0]))]) ++ ([(o, .inl (κ.2.1, 1, .inr (.inl (fun _ => 0))))])) _ s H locs := hG
  refine lv_istore (lv' := [(5, .int 1), (4, .int 0), (3, .ref o), (2, .ref (b 0)), (1, .ref (a 0)), (0, .ref sb)]) hx hb dL_law_1057 hl (by decide) rfl (fun ls hl => ?_)
  refine lv_aload_n hx hb dL_law_1059 rfl (lv_at hl 3 rfl) ?_
  refine lv_aload_n hx hb dL_law_1060 rfl (lv_at hl 5 rfl) ?_
  refine lv_iload hx hb dL_law_1061 (lv_at hl 1 rfl) ?_
  refine lv_iconst (v := 1) hx hb dL_law_1063 (by decide) ?_
  refine lv_iadd hx hb dL_law_1064 ?_
  refine W.eq (g2 := F0 m 1065 ls [.int 1, .ref sb, .ref (b 0)]) rfl ?_
  refine va_sld hx hb hX hbl (Nat.not_le_of_lt hbl) hG.2.2.2.1 (vp_box (by decide) (by rw [hL4]; decide)) dL_law_1065 ?_
  refine W.eq (g2 := F0 m 1066 ls [.int (xs 1), .ref (b 0)]) rfl ?_
  have cut1066 : Cut (([(b 0, .inr (9, [.int 0, .ref (b 1), .ref (b 2), .ref (b 3), .ref (b 4), .ref (b 5), .ref (b 6), .ref (b 7), .null, .int 0, .int (-1), .int 0, .int 0, .int 0, .ref (b 8)])), (b 1, .inl (κ.1, 4, .inl (fun _ => 1000))), (b 2, .inr (10, [.int 0, .ref E0, .int 0])), (b 3, .inr (10, [.int 0, .ref E0, .int 0])), (b 4, .inr (10, [.int 0, .ref E0, .int 0])), (b 5, .inr (10, [.int 0, .ref E0, .int 0])), (b 6, .inr (10, [.int 0, .ref E0, .int 0])), (b 7, .inr (10, [.int 0, .ref E0, .int 0])), (b 8, .inr (10, [.int 0, .ref E0, .int 0]))]) ++ ([(o, .inl (κ.2.1, 1, .inr (.inl (fun _ => 0))))])) (mw κ b E0 0) ([(o, .inl (κ.2.1, 1, .inr (.inl (fun _ => 0))))]) := (Cut.idx [0, 1, 2, 3, 4, 5, 6, 7, 8] [9] rfl rfl (by decide) (by decide) (by decide))
  refine zc_i hG cut1066 (zr_V (k := 0) (ci := 9) (n := 1) (As := [.int (xs 1)]) (rest := []) hC hG hE hT cut1066 (z_95_letGo l hst D κ E0 H.size b (xs 1) ⟨by omega, by omega⟩) rfl rfl w764 w5 w767 w765 w766 (by decide +kernel) ⟨Nat.le_of_ble_eq_true rfl, Nat.le_of_ble_eq_true rfl⟩ rfl hl.1 rfl (Nat.le_of_ble_eq_true rfl) dL_law_1066 ⟨Nat.le_of_ble_eq_true rfl, Nat.le_of_ble_eq_true rfl⟩) (fun z2 H locs hG => ?_)
  have hG : BW D κ (([(o, .inl (κ.2.1, 1, .inr (.inl (fun _ => 0))))]) ++ (mw κ b E0 1)) _ s H locs := hG
  refine lv_istore (lv' := [(6, .int 0), (5, .int 1), (4, .int 0), (3, .ref o), (2, .ref (b 0)), (1, .ref (a 0)), (0, .ref sb)]) hx hb dL_law_1069 hl (by decide) rfl (fun ls hl => ?_)
  refine lv_aload_n hx hb dL_law_1071 rfl (lv_at hl 4 rfl) ?_
  have cut1072 : Cut (([(o, .inl (κ.2.1, 1, .inr (.inl (fun _ => 0))))]) ++ (mw κ b E0 1)) ([(b 0, .inr (9, [.int 1, .ref (b 1), .ref (b 2), .ref (b 3), .ref (b 4), .ref (b 5), .ref (b 6), .ref (b 7), .null, .int 0, .int (-1), .int 0, .int 0, .int 0, .ref (b 8)]))]) ([(o, .inl (κ.2.1, 1, .inr (.inl (fun _ => 0)))), (b 1, .inl (κ.1, 4, .inl (fun _ => 1000))), (b 2, .inr (10, [.int 0, .ref E0, .int 0])), (b 3, .inr (10, [.int 0, .ref E0, .int 0])), (b 4, .inr (10, [.int 0, .ref E0, .int 0])), (b 5, .inr (10, [.int 0, .ref E0, .int 0])), (b 6, .inr (10, [.int 0, .ref E0, .int 0])), (b 7, .inr (10, [.int 0, .ref E0, .int 0])), (b 8, .inr (10, [.int 0, .ref E0, .int 0]))]) := (Cut.idx [1] [0, 2, 3, 4, 5, 6, 7, 8, 9] rfl rfl (by decide) (by decide) (by decide))
  refine zc_i hG cut1072 (zr_V (k := 1) (ci := 9) (n := 0) (As := []) (rest := []) hC hG hE hT cut1072 (z_6_thrown l hst D κ E0 H.size b) rfl rfl w200 w5 w203 w201 w202 (by decide +kernel) ⟨Nat.le_of_ble_eq_true rfl, Nat.le_of_ble_eq_true rfl⟩ rfl hl.1 rfl (Nat.le_of_ble_eq_true rfl) dL_law_1072 ⟨Nat.le_of_ble_eq_true rfl, Nat.le_of_ble_eq_true rfl⟩) (fun z3 H locs hG => ?_)
  have hG : BW D κ (([(o, .inl (κ.2.1, 1, .inr (.inl (fun _ => 0)))), (b 1, .inl (κ.1, 4, .inl (fun _ => 1000))), (b 2, .inr (10, [.int 0, .ref E0, .int 0])), (b 3, .inr (10, [.int 0, .ref E0, .int 0])), (b 4, .inr (10, [.int 0, .ref E0, .int 0])), (b 5, .inr (10, [.int 0, .ref E0, .int 0])), (b 6, .inr (10, [.int 0, .ref E0, .int 0])), (b 7, .inr (10, [.int 0, .ref E0, .int 0])), (b 8, .inr (10, [.int 0, .ref E0, .int 0]))]) ++ ([(b 0, .inr (9, [.int 1, .ref (b 1), .ref (b 2), .ref (b 3), .ref (b 4), .ref (b 5), .ref (b 6), .ref (b 7), .null, .int 0, .int (-1), .int 0, .int 0, .int 0, .ref (b 8)]))])) _ s H locs := hG
  refine lv_iload hx hb dL_law_1075 (lv_at hl 1 rfl) ?_
  refine lv_icmp_eq (tgt := 1082) hx hb dL_law_1077 (by decide) (fun _ => ?_) (fun h1077 => absurd (by decide) h1077)
  refine lv_iload hx hb dL_law_1082 (lv_at hl 1 rfl) ?_
  refine lv_if_ne (tgt := 1099) hx hb dL_law_1084 (by decide) (fun _ => ?_) (fun h1084 => absurd h1084 (by decide))
  refine lv_goto (tgt := 2042) hx hb dL_law_1099 (by decide) ?_
  refine lv_iinc (v := 4) (lv' := [(4, .int 4), (6, .int 0), (5, .int 1), (3, .ref o), (2, .ref (b 0)), (1, .ref (a 0)), (0, .ref sb)]) hx hb dL_law_2042 hl (k := 2) rfl (by decide) (by decide) rfl (fun ls hl => ?_)
  refine lv_goto (tgt := 23) hx hb dL_law_2045 (by decide) ?_
  refine lv_iload hx hb dL_law_23 (lv_at hl 0 rfl) ?_
  refine lv_aload_n hx hb dL_law_25 rfl (lv_at hl 6 rfl) ?_
  refine va_slen hx hb hX hbl (Nat.not_le_of_lt hbl) hG.2.2.2.1 dL_law_26 ?_
  refine W.eq (g2 := F0 m 27 ls [.int 4, .int 4]) (by rw [hL4]; rfl) ?_
  refine lv_iconst (v := 4) hx hb dL_law_27 (by decide) ?_
  refine lv_isub hx hb dL_law_28 ?_
  refine W.eq (g2 := F0 m 29 ls [.int 0, .int 4]) rfl ?_
  refine lv_icmp_gt (tgt := 2048) hx hb dL_law_29 (by decide) (fun _ => ?_) (fun h29 => absurd (by decide) h29)
  refine lv_iconst (v := 1) hx hb dL_law_2048 (by decide) ?_
  refine W.widen (k := 600002) (n := 7302232) (Nat.le_of_ble_eq_true rfl) (Nat.le_of_ble_eq_true rfl) ?_
  refine va_forget (fun q hq => hG.2.2.2.1.2.2 q hq) ?_
  refine W.base ?_
  exact lw_ret (Drawn.sameBut.refl s.drawn lw_cs) hx hb hr hlocks dL_law_2049
theorem dL_law_1102 : decode code 1102 = .ok (.aload_n 1, 1) := by decide +kernel
theorem dL_law_1103 : decode code 1103 = .ok (.aload_n 0, 1) := by decide +kernel
theorem dL_law_1104 : decode code 1104 = .ok (.iload 4, 2) := by decide +kernel
theorem dL_law_1106 : decode code 1106 = .ok (.iconst 1, 1) := by decide +kernel
theorem dL_law_1107 : decode code 1107 = .ok (.iadd, 1) := by decide +kernel
theorem dL_law_1108 : decode code 1108 = .ok (.iaload, 1) := by decide +kernel
theorem dL_law_1109 : decode code 1109 = .ok (.aload_n 0, 1) := by decide +kernel
theorem dL_law_1110 : decode code 1110 = .ok (.iload 4, 2) := by decide +kernel
theorem dL_law_1112 : decode code 1112 = .ok (.iconst 2, 1) := by decide +kernel
theorem dL_law_1113 : decode code 1113 = .ok (.iadd, 1) := by decide +kernel
theorem dL_law_1114 : decode code 1114 = .ok (.iaload, 1) := by decide +kernel
theorem dL_law_1115 : decode code 1115 = .ok (.aload_n 3, 1) := by decide +kernel
theorem dL_law_1116 : decode code 1116 = .ok (.invokestatic 165, 3) := by decide +kernel
theorem dL_law_1119 : decode code 1119 = .ok (.istore 5, 2) := by decide +kernel
theorem dL_law_1121 : decode code 1121 = .ok (.aload_n 2, 1) := by decide +kernel
theorem dL_law_1122 : decode code 1122 = .ok (.aload_n 0, 1) := by decide +kernel
theorem dL_law_1123 : decode code 1123 = .ok (.iload 4, 2) := by decide +kernel
theorem dL_law_1125 : decode code 1125 = .ok (.iconst 1, 1) := by decide +kernel
theorem dL_law_1126 : decode code 1126 = .ok (.iadd, 1) := by decide +kernel
theorem dL_law_1127 : decode code 1127 = .ok (.iaload, 1) := by decide +kernel
theorem dL_law_1128 : decode code 1128 = .ok (.aload_n 0, 1) := by decide +kernel
theorem dL_law_1129 : decode code 1129 = .ok (.iload 4, 2) := by decide +kernel
theorem dL_law_1131 : decode code 1131 = .ok (.iconst 2, 1) := by decide +kernel
theorem dL_law_1132 : decode code 1132 = .ok (.iadd, 1) := by decide +kernel
theorem dL_law_1133 : decode code 1133 = .ok (.iaload, 1) := by decide +kernel
theorem dL_law_1134 : decode code 1134 = .ok (.invokevirtual 167, 3) := by decide +kernel
theorem dL_law_1137 : decode code 1137 = .ok (.istore 6, 2) := by decide +kernel
theorem dL_law_1139 : decode code 1139 = .ok (.aload_n 2, 1) := by decide +kernel
theorem dL_law_1140 : decode code 1140 = .ok (.invokevirtual 116, 3) := by decide +kernel
theorem dL_law_1143 : decode code 1143 = .ok (.iload 5, 2) := by decide +kernel
theorem dL_law_1145 : decode code 1145 = .ok (.if_icmp .eq 5, 3) := by decide +kernel
theorem dL_law_1150 : decode code 1150 = .ok (.iload 5, 2) := by decide +kernel
theorem dL_law_1152 : decode code 1152 = .ok (.ifCond .ne 15, 3) := by decide +kernel
theorem dL_law_1167 : decode code 1167 = .ok (.goto 875, 3) := by decide +kernel
set_option maxHeartbeats 4000000 in
set_option maxRecDepth 100000 in
theorem leaf_19 {p : Program} {e : Env} {s : State} {m : MethodId} {below : List Frame} {meth : Method} {c : Code} (l : Launch) (hst : l.stackTraces = false) {D : va_G} {κ : K4} {E0 : Nat} {a b : Nat → Nat} {o sb L : Nat} {xs : Nat → Int32} (hC : CallFix p m c code 9 s #[Value.ref sb] WALL RL) (hr : meth.sig.returnType = ret) (hlocks : meth.locks = false) (hX : va_X sb L xs s s.heap) (hbl : sb < s.heap.size) (hL4 : L = 4) (hE : EA E0 D κ (fun q => s.heap.size ≤ q) s s.heap) (hT : ET s) (k_1 : -2147483648 ≤ (xs 1).toInt ∧ (xs 1).toInt ≤ 2147483647) (k_2 : -2147483648 ≤ (xs 2).toInt ∧ (xs 2).toInt ≤ 2147483647) (k_3 : -2147483648 ≤ (xs 3).toInt ∧ (xs 3).toInt ≤ 2147483647) (H : Heap) (locs : List Loc) (hG : BW D κ ((xw κ a ++ [(o, .inl (κ.2.1, 1, .inr (.inl (fun _ => 0))))]) ++ mw κ b E0 0) (fun q => s.heap.size ≤ q) s H locs) (ls : Array Slot) (hl : lv_has ls 9 [(4, .int 0), (3, .ref o), (2, .ref (b 0)), (1, .ref (a 0)), (0, .ref sb)]) : W p l e room_1 s m #[Value.ref sb] below meth c H locs 100 6000 (lw_Z below #[Value.ref sb] s) (F0 m 1102 ls []) := by
  have hx := hC.1
  have hb := hC.2.1
  refine lv_aload_n hx hb dL_law_1102 rfl (lv_at hl 3 rfl) ?_
  refine lv_aload_n hx hb dL_law_1103 rfl (lv_at hl 4 rfl) ?_
  refine lv_iload hx hb dL_law_1104 (lv_at hl 0 rfl) ?_
  refine lv_iconst (v := 1) hx hb dL_law_1106 (by decide) ?_
  refine lv_iadd hx hb dL_law_1107 ?_
  refine W.eq (g2 := F0 m 1108 ls [.int 1, .ref sb, .ref (a 0)]) rfl ?_
  refine va_sld hx hb hX hbl (Nat.not_le_of_lt hbl) hG.2.2.2.1 (vp_box (by decide) (by rw [hL4]; decide)) dL_law_1108 ?_
  refine W.eq (g2 := F0 m 1109 ls [.int (xs 1), .ref (a 0)]) rfl ?_
  refine lv_aload_n hx hb dL_law_1109 rfl (lv_at hl 4 rfl) ?_
  refine lv_iload hx hb dL_law_1110 (lv_at hl 0 rfl) ?_
  refine lv_iconst (v := 2) hx hb dL_law_1112 (by decide) ?_
  refine lv_iadd hx hb dL_law_1113 ?_
  refine W.eq (g2 := F0 m 1114 ls [.int 2, .ref sb, .int (xs 1), .ref (a 0)]) rfl ?_
  refine va_sld hx hb hX hbl (Nat.not_le_of_lt hbl) hG.2.2.2.1 (vp_box (by decide) (by rw [hL4]; decide)) dL_law_1114 ?_
  refine W.eq (g2 := F0 m 1115 ls [.int (xs 2), .int (xs 1), .ref (a 0)]) rfl ?_
  refine lv_aload_n hx hb dL_law_1115 rfl (lv_at hl 1 rfl) ?_
  have cut1116 : Cut ((xw κ a ++ [(o, .inl (κ.2.1, 1, .inr (.inl (fun _ => 0))))]) ++ mw κ b E0 0) ([(a 0, .inr (7, [.ref (a 1), .ref (a 7), .ref (a 12), .ref (a 23), .ref (a 28), .ref (a 33), .ref (a 37), .ref (a 41), .int (-1), .int 0])), (a 1, .inr (0, [.ref (a 2), .ref (a 3), .ref (a 4), .ref (a 5), .ref (a 6), .int 0])), (a 2, .inl (κ.1, 4, .inl (fun _ => 1000))), (a 3, .inl (κ.1, 10, .inl (fun _ => 0))), (a 4, .inl (κ.1, 10, .inl (fun _ => 0))), (a 5, .inl (κ.1, 10, .inl (fun _ => 0))), (a 6, .inl (κ.2.2.1, 10, .inl (fun _ => 0))), (a 7, .inr (1, [.ref (a 8), .int 0, .int 0, .int 0])), (a 8, .inr (4, [.ref (a 9), .ref (a 10), .ref (a 11), .int 0])), (a 9, .inl (κ.1, 10, .inl (fun _ => 0))), (a 10, .inl (κ.2.1, 10, .inr (.inl (fun _ => 0)))), (a 11, .inl (κ.2.1, 10, .inr (.inl (fun _ => 0)))), (a 12, .inr (3, [.ref (a 13), .ref (a 14), .ref (a 15), .ref (a 16), .ref (a 17), .ref (a 18), .int 0, .ref (a 19), .ref (a 20), .ref (a 21), .ref (a 22), .int 0])), (a 13, .inl (κ.1, 60, .inl (fun _ => 0))), (a 14, .inl (κ.1, 60, .inl (fun _ => 0))), (a 15, .inl (κ.1, 60, .inl (fun _ => 0))), (a 16, .inl (κ.1, 60, .inl (fun _ => 0))), (a 17, .inl (κ.2.2.1, 60, .inl (fun _ => 0))), (a 18, .inl (κ.2.2.1, 60, .inl (fun _ => 0))), (a 19, .inl (κ.1, 600, .inl (fun _ => 0))), (a 20, .inl (κ.1, 600, .inl (fun _ => 0))), (a 21, .inl (κ.2.1, 600, .inr (.inl (fun _ => 0)))), (a 22, .inl (κ.2.1, 600, .inr (.inl (fun _ => 0)))), (a 23, .inr (2, [.ref (a 24), .ref (a 25), .ref (a 26), .ref (a 27), .int 0])), (a 24, .inl (κ.1, 20, .inl (fun _ => 0))), (a 25, .inl (κ.1, 20, .inl (fun _ => 0))), (a 26, .inl (κ.1, 20, .inl (fun _ => 0))), (a 27, .inl (κ.2.2.1, 20, .inl (fun _ => 0))), (a 28, .inr (5, [.ref (a 29), .ref (a 30), .ref (a 31), .ref (a 32), .int 0])), (a 29, .inl (κ.1, 40, .inl (fun _ => 0))), (a 30, .inl (κ.1, 40, .inl (fun _ => 0))), (a 31, .inl (κ.1, 40, .inl (fun _ => 0))), (a 32, .inl (κ.1, 40, .inl (fun _ => 0))), (a 33, .inr (6, [.ref (a 12), .ref (a 28), .ref (a 34), .ref (a 35), .ref (a 36)])), (a 34, .inl (κ.1, 600, .inl (fun _ => (-1)))), (a 35, .inl (κ.1, 40, .inl (fun _ => (-1)))), (a 36, .inl (κ.1, 40, .inl (fun _ => (-1)))), (a 37, .inr (6, [.ref (a 12), .ref (a 28), .ref (a 38), .ref (a 39), .ref (a 40)])), (a 38, .inl (κ.1, 600, .inl (fun _ => (-1)))), (a 39, .inl (κ.1, 40, .inl (fun _ => (-1)))), (a 40, .inl (κ.1, 40, .inl (fun _ => (-1)))), (a 41, .inr (4, [.ref (a 42), .ref (a 43), .ref (a 44), .int 0])), (a 42, .inl (κ.1, 10, .inl (fun _ => 0))), (a 43, .inl (κ.2.1, 10, .inr (.inl (fun _ => 0)))), (a 44, .inl (κ.2.1, 10, .inr (.inl (fun _ => 0)))), (o, .inl (κ.2.1, 1, .inr (.inl (fun _ => 0))))]) ([(b 0, .inr (9, [.int 0, .ref (b 1), .ref (b 2), .ref (b 3), .ref (b 4), .ref (b 5), .ref (b 6), .ref (b 7), .null, .int 0, .int (-1), .int 0, .int 0, .int 0, .ref (b 8)])), (b 1, .inl (κ.1, 4, .inl (fun _ => 1000))), (b 2, .inr (10, [.int 0, .ref E0, .int 0])), (b 3, .inr (10, [.int 0, .ref E0, .int 0])), (b 4, .inr (10, [.int 0, .ref E0, .int 0])), (b 5, .inr (10, [.int 0, .ref E0, .int 0])), (b 6, .inr (10, [.int 0, .ref E0, .int 0])), (b 7, .inr (10, [.int 0, .ref E0, .int 0])), (b 8, .inr (10, [.int 0, .ref E0, .int 0]))]) := (Cut.idx [0, 1, 2, 3, 4, 5, 6, 7, 8, 9, 10, 11, 12, 13, 14, 15, 16, 17, 18, 19, 20, 21, 22, 23, 24, 25, 26, 27, 28, 29, 30, 31, 32, 33, 34, 35, 36, 37, 38, 39, 40, 41, 42, 43, 44, 45] [46, 47, 48, 49, 50, 51, 52, 53, 54] rfl rfl (by decide) (by decide) (by decide))
  refine zc_i hG cut1116 (zr_H (n := 4) (As := [.ref (a 0), .int (xs 1), .int (xs 2), .ref o]) (rest := []) hC hG hE hT cut1116 (z_97_close l hst D κ E0 H.size a (xs 1) (xs 2) o ⟨by omega, by omega⟩ ⟨by omega, by omega⟩) w768 w143 w770 w769 (by decide +kernel) ⟨Nat.le_of_ble_eq_true rfl, Nat.le_of_ble_eq_true rfl⟩ rfl hl.1 rfl (Nat.le_of_ble_eq_true rfl) dL_law_1116 ⟨Nat.le_of_ble_eq_true rfl, Nat.le_of_ble_eq_true rfl⟩) (fun z1 H locs hG => ?_)
  have hG : BW D κ (([(b 0, .inr (9, [.int 0, .ref (b 1), .ref (b 2), .ref (b 3), .ref (b 4), .ref (b 5), .ref (b 6), .ref (b 7), .null, .int 0, .int (-1), .int 0, .int 0, .int 0, .ref (b 8)])), (b 1, .inl (κ.1, 4, .inl (fun _ => 1000))), (b 2, .inr (10, [.int 0, .ref E0, .int 0])), (b 3, .inr (10, [.int 0, .ref E0, .int 0])), (b 4, .inr (10, [.int 0, .ref E0, .int 0])), (b 5, .inr (10, [.int 0, .ref E0, .int 0])), (b 6, .inr (10, [.int 0, .ref E0, .int 0])), (b 7, .inr (10, [.int 0, .ref E0, .int 0])), (b 8, .inr (10, [.int 0, .ref E0, .int 0]))]) ++ ([(o, .inl (κ.2.1, 1, .inr (.inl (fun _ => 0))))])) _ s H locs := hG
  refine lv_istore (lv' := [(5, .int 1), (4, .int 0), (3, .ref o), (2, .ref (b 0)), (1, .ref (a 0)), (0, .ref sb)]) hx hb dL_law_1119 hl (by decide) rfl (fun ls hl => ?_)
  refine lv_aload_n hx hb dL_law_1121 rfl (lv_at hl 3 rfl) ?_
  refine lv_aload_n hx hb dL_law_1122 rfl (lv_at hl 5 rfl) ?_
  refine lv_iload hx hb dL_law_1123 (lv_at hl 1 rfl) ?_
  refine lv_iconst (v := 1) hx hb dL_law_1125 (by decide) ?_
  refine lv_iadd hx hb dL_law_1126 ?_
  refine W.eq (g2 := F0 m 1127 ls [.int 1, .ref sb, .ref (b 0)]) rfl ?_
  refine va_sld hx hb hX hbl (Nat.not_le_of_lt hbl) hG.2.2.2.1 (vp_box (by decide) (by rw [hL4]; decide)) dL_law_1127 ?_
  refine W.eq (g2 := F0 m 1128 ls [.int (xs 1), .ref (b 0)]) rfl ?_
  refine lv_aload_n hx hb dL_law_1128 rfl (lv_at hl 5 rfl) ?_
  refine lv_iload hx hb dL_law_1129 (lv_at hl 1 rfl) ?_
  refine lv_iconst (v := 2) hx hb dL_law_1131 (by decide) ?_
  refine lv_iadd hx hb dL_law_1132 ?_
  refine W.eq (g2 := F0 m 1133 ls [.int 2, .ref sb, .int (xs 1), .ref (b 0)]) rfl ?_
  refine va_sld hx hb hX hbl (Nat.not_le_of_lt hbl) hG.2.2.2.1 (vp_box (by decide) (by rw [hL4]; decide)) dL_law_1133 ?_
  refine W.eq (g2 := F0 m 1134 ls [.int (xs 2), .int (xs 1), .ref (b 0)]) rfl ?_
  have cut1134 : Cut (([(b 0, .inr (9, [.int 0, .ref (b 1), .ref (b 2), .ref (b 3), .ref (b 4), .ref (b 5), .ref (b 6), .ref (b 7), .null, .int 0, .int (-1), .int 0, .int 0, .int 0, .ref (b 8)])), (b 1, .inl (κ.1, 4, .inl (fun _ => 1000))), (b 2, .inr (10, [.int 0, .ref E0, .int 0])), (b 3, .inr (10, [.int 0, .ref E0, .int 0])), (b 4, .inr (10, [.int 0, .ref E0, .int 0])), (b 5, .inr (10, [.int 0, .ref E0, .int 0])), (b 6, .inr (10, [.int 0, .ref E0, .int 0])), (b 7, .inr (10, [.int 0, .ref E0, .int 0])), (b 8, .inr (10, [.int 0, .ref E0, .int 0]))]) ++ ([(o, .inl (κ.2.1, 1, .inr (.inl (fun _ => 0))))])) (mw κ b E0 0) ([(o, .inl (κ.2.1, 1, .inr (.inl (fun _ => 0))))]) := (Cut.idx [0, 1, 2, 3, 4, 5, 6, 7, 8] [9] rfl rfl (by decide) (by decide) (by decide))
  refine zc_i hG cut1134 (zr_V (k := 0) (ci := 9) (n := 2) (As := [.int (xs 1), .int (xs 2)]) (rest := []) hC hG hE hT cut1134 (z_98_close l hst D κ E0 H.size b (xs 1) (xs 2) ⟨by omega, by omega⟩ ⟨by omega, by omega⟩) rfl rfl w783 w5 w786 w784 w785 (by decide +kernel) ⟨Nat.le_of_ble_eq_true rfl, Nat.le_of_ble_eq_true rfl⟩ rfl hl.1 rfl (Nat.le_of_ble_eq_true rfl) dL_law_1134 ⟨Nat.le_of_ble_eq_true rfl, Nat.le_of_ble_eq_true rfl⟩) (fun z2 H locs hG => ?_)
  have hG : BW D κ (([(o, .inl (κ.2.1, 1, .inr (.inl (fun _ => 0))))]) ++ (mw κ b E0 1)) _ s H locs := hG
  refine lv_istore (lv' := [(6, .int 0), (5, .int 1), (4, .int 0), (3, .ref o), (2, .ref (b 0)), (1, .ref (a 0)), (0, .ref sb)]) hx hb dL_law_1137 hl (by decide) rfl (fun ls hl => ?_)
  refine lv_aload_n hx hb dL_law_1139 rfl (lv_at hl 4 rfl) ?_
  have cut1140 : Cut (([(o, .inl (κ.2.1, 1, .inr (.inl (fun _ => 0))))]) ++ (mw κ b E0 1)) ([(b 0, .inr (9, [.int 1, .ref (b 1), .ref (b 2), .ref (b 3), .ref (b 4), .ref (b 5), .ref (b 6), .ref (b 7), .null, .int 0, .int (-1), .int 0, .int 0, .int 0, .ref (b 8)]))]) ([(o, .inl (κ.2.1, 1, .inr (.inl (fun _ => 0)))), (b 1, .inl (κ.1, 4, .inl (fun _ => 1000))), (b 2, .inr (10, [.int 0, .ref E0, .int 0])), (b 3, .inr (10, [.int 0, .ref E0, .int 0])), (b 4, .inr (10, [.int 0, .ref E0, .int 0])), (b 5, .inr (10, [.int 0, .ref E0, .int 0])), (b 6, .inr (10, [.int 0, .ref E0, .int 0])), (b 7, .inr (10, [.int 0, .ref E0, .int 0])), (b 8, .inr (10, [.int 0, .ref E0, .int 0]))]) := (Cut.idx [1] [0, 2, 3, 4, 5, 6, 7, 8, 9] rfl rfl (by decide) (by decide) (by decide))
  refine zc_i hG cut1140 (zr_V (k := 1) (ci := 9) (n := 0) (As := []) (rest := []) hC hG hE hT cut1140 (z_6_thrown l hst D κ E0 H.size b) rfl rfl w200 w5 w203 w201 w202 (by decide +kernel) ⟨Nat.le_of_ble_eq_true rfl, Nat.le_of_ble_eq_true rfl⟩ rfl hl.1 rfl (Nat.le_of_ble_eq_true rfl) dL_law_1140 ⟨Nat.le_of_ble_eq_true rfl, Nat.le_of_ble_eq_true rfl⟩) (fun z3 H locs hG => ?_)
  have hG : BW D κ (([(o, .inl (κ.2.1, 1, .inr (.inl (fun _ => 0)))), (b 1, .inl (κ.1, 4, .inl (fun _ => 1000))), (b 2, .inr (10, [.int 0, .ref E0, .int 0])), (b 3, .inr (10, [.int 0, .ref E0, .int 0])), (b 4, .inr (10, [.int 0, .ref E0, .int 0])), (b 5, .inr (10, [.int 0, .ref E0, .int 0])), (b 6, .inr (10, [.int 0, .ref E0, .int 0])), (b 7, .inr (10, [.int 0, .ref E0, .int 0])), (b 8, .inr (10, [.int 0, .ref E0, .int 0]))]) ++ ([(b 0, .inr (9, [.int 1, .ref (b 1), .ref (b 2), .ref (b 3), .ref (b 4), .ref (b 5), .ref (b 6), .ref (b 7), .null, .int 0, .int (-1), .int 0, .int 0, .int 0, .ref (b 8)]))])) _ s H locs := hG
  refine lv_iload hx hb dL_law_1143 (lv_at hl 1 rfl) ?_
  refine lv_icmp_eq (tgt := 1150) hx hb dL_law_1145 (by decide) (fun _ => ?_) (fun h1145 => absurd (by decide) h1145)
  refine lv_iload hx hb dL_law_1150 (lv_at hl 1 rfl) ?_
  refine lv_if_ne (tgt := 1167) hx hb dL_law_1152 (by decide) (fun _ => ?_) (fun h1152 => absurd h1152 (by decide))
  refine lv_goto (tgt := 2042) hx hb dL_law_1167 (by decide) ?_
  refine lv_iinc (v := 4) (lv' := [(4, .int 4), (6, .int 0), (5, .int 1), (3, .ref o), (2, .ref (b 0)), (1, .ref (a 0)), (0, .ref sb)]) hx hb dL_law_2042 hl (k := 2) rfl (by decide) (by decide) rfl (fun ls hl => ?_)
  refine lv_goto (tgt := 23) hx hb dL_law_2045 (by decide) ?_
  refine lv_iload hx hb dL_law_23 (lv_at hl 0 rfl) ?_
  refine lv_aload_n hx hb dL_law_25 rfl (lv_at hl 6 rfl) ?_
  refine va_slen hx hb hX hbl (Nat.not_le_of_lt hbl) hG.2.2.2.1 dL_law_26 ?_
  refine W.eq (g2 := F0 m 27 ls [.int 4, .int 4]) (by rw [hL4]; rfl) ?_
  refine lv_iconst (v := 4) hx hb dL_law_27 (by decide) ?_
  refine lv_isub hx hb dL_law_28 ?_
  refine W.eq (g2 := F0 m 29 ls [.int 0, .int 4]) rfl ?_
  refine lv_icmp_gt (tgt := 2048) hx hb dL_law_29 (by decide) (fun _ => ?_) (fun h29 => absurd (by decide) h29)
  refine lv_iconst (v := 1) hx hb dL_law_2048 (by decide) ?_
  refine W.widen (k := 600002) (n := 7302232) (Nat.le_of_ble_eq_true rfl) (Nat.le_of_ble_eq_true rfl) ?_
  refine va_forget (fun q hq => hG.2.2.2.1.2.2 q hq) ?_
  refine W.base ?_
  exact lw_ret (Drawn.sameBut.refl s.drawn lw_cs) hx hb hr hlocks dL_law_2049
