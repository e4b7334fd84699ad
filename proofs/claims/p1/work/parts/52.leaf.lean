theorem dL_law_1214 : decode code 1214 = .ok (.aload_n 1, 1) := by decide +kernel
theorem dL_law_1215 : decode code 1215 = .ok (.aload_n 0, 1) := by decide +kernel
theorem dL_law_1216 : decode code 1216 = .ok (.iload 4, 2) := by decide +kernel
theorem dL_law_1218 : decode code 1218 = .ok (.iconst 1, 1) := by decide +kernel
theorem dL_law_1219 : decode code 1219 = .ok (.iadd, 1) := by decide +kernel
theorem dL_law_1220 : decode code 1220 = .ok (.iaload, 1) := by decide +kernel
theorem dL_law_1221 : decode code 1221 = .ok (.aload_n 0, 1) := by decide +kernel
theorem dL_law_1222 : decode code 1222 = .ok (.iload 4, 2) := by decide +kernel
theorem dL_law_1224 : decode code 1224 = .ok (.iconst 2, 1) := by decide +kernel
theorem dL_law_1225 : decode code 1225 = .ok (.iadd, 1) := by decide +kernel
theorem dL_law_1226 : decode code 1226 = .ok (.iaload, 1) := by decide +kernel
theorem dL_law_1227 : decode code 1227 = .ok (.aload_n 0, 1) := by decide +kernel
theorem dL_law_1228 : decode code 1228 = .ok (.iload 4, 2) := by decide +kernel
theorem dL_law_1230 : decode code 1230 = .ok (.iconst 3, 1) := by decide +kernel
theorem dL_law_1231 : decode code 1231 = .ok (.iadd, 1) := by decide +kernel
theorem dL_law_1232 : decode code 1232 = .ok (.iaload, 1) := by decide +kernel
theorem dL_law_1233 : decode code 1233 = .ok (.aload_n 3, 1) := by decide +kernel
theorem dL_law_1234 : decode code 1234 = .ok (.invokestatic 171, 3) := by decide +kernel
theorem dL_law_1237 : decode code 1237 = .ok (.istore 5, 2) := by decide +kernel
theorem dL_law_1239 : decode code 1239 = .ok (.aload_n 2, 1) := by decide +kernel
theorem dL_law_1240 : decode code 1240 = .ok (.aload_n 0, 1) := by decide +kernel
theorem dL_law_1241 : decode code 1241 = .ok (.iload 4, 2) := by decide +kernel
theorem dL_law_1243 : decode code 1243 = .ok (.iconst 1, 1) := by decide +kernel
theorem dL_law_1244 : decode code 1244 = .ok (.iadd, 1) := by decide +kernel
theorem dL_law_1245 : decode code 1245 = .ok (.iaload, 1) := by decide +kernel
theorem dL_law_1246 : decode code 1246 = .ok (.aload_n 0, 1) := by decide +kernel
theorem dL_law_1247 : decode code 1247 = .ok (.iload 4, 2) := by decide +kernel
theorem dL_law_1249 : decode code 1249 = .ok (.iconst 2, 1) := by decide +kernel
theorem dL_law_1250 : decode code 1250 = .ok (.iadd, 1) := by decide +kernel
theorem dL_law_1251 : decode code 1251 = .ok (.iaload, 1) := by decide +kernel
theorem dL_law_1252 : decode code 1252 = .ok (.aload_n 0, 1) := by decide +kernel
theorem dL_law_1253 : decode code 1253 = .ok (.iload 4, 2) := by decide +kernel
theorem dL_law_1255 : decode code 1255 = .ok (.iconst 3, 1) := by decide +kernel
theorem dL_law_1256 : decode code 1256 = .ok (.iadd, 1) := by decide +kernel
theorem dL_law_1257 : decode code 1257 = .ok (.iaload, 1) := by decide +kernel
theorem dL_law_1258 : decode code 1258 = .ok (.invokevirtual 173, 3) := by decide +kernel
theorem dL_law_1261 : decode code 1261 = .ok (.istore 6, 2) := by decide +kernel
theorem dL_law_1263 : decode code 1263 = .ok (.aload_n 2, 1) := by decide +kernel
theorem dL_law_1264 : decode code 1264 = .ok (.invokevirtual 116, 3) := by decide +kernel
theorem dL_law_1267 : decode code 1267 = .ok (.iload 5, 2) := by decide +kernel
theorem dL_law_1269 : decode code 1269 = .ok (.if_icmp .eq 5, 3) := by decide +kernel
theorem dL_law_1274 : decode code 1274 = .ok (.iload 5, 2) := by decide +kernel
theorem dL_law_1276 : decode code 1276 = .ok (.ifCond .ne 15, 3) := by decide +kernel
theorem dL_law_1291 : decode code 1291 = .ok (.goto 751, 3) := by decide +kernel
set_option maxHeartbeats 4000000 in
set_option maxRecDepth 100000 in
theorem leaf_20 {p : Program} {e : Env} {s : State} {m : MethodId} {below : List Frame} {meth : Method} {c : Code} (l : Launch) (hst : l.stackTraces = false) {D : va_G} {κ : K4} {E0 : Nat} {a b : Nat → Nat} {o sb L : Nat} {xs : Nat → Int32} (hC : CallFix p m c code 9 s #[Value.ref sb] WALL RL) (hr : meth.sig.returnType = ret) (hlocks : meth.locks = false) (hX : va_X sb L xs s s.heap) (hbl : sb < s.heap.size) (hL4 : L = 4) (hE : EA E0 D κ (fun q => s.heap.size ≤ q) s s.heap) (hT : ET s) (k_1 : -2147483648 ≤ (xs 1).toInt ∧ (xs 1).toInt ≤ 2147483647) (k_2 : -2147483648 ≤ (xs 2).toInt ∧ (xs 2).toInt ≤ 2147483647) (k_3 : -2147483648 ≤ (xs 3).toInt ∧ (xs 3).toInt ≤ 2147483647) (H : Heap) (locs : List Loc) (hG : BW D κ ((xw κ a ++ [(o, .inl (κ.2.1, 1, .inr (.inl (fun _ => 0))))]) ++ mw κ b E0 0) (fun q => s.heap.size ≤ q) s H locs) (ls : Array Slot) (hl : lv_has ls 9 [(4, .int 0), (3, .ref o), (2, .ref (b 0)), (1, .ref (a 0)), (0, .ref sb)]) : W p l e room_1 s m #[Value.ref sb] below meth c H locs 100 6000 (lw_Z below #[Value.ref sb] s) (F0 m 1214 ls []) := by
  have hx := hC.1
  have hb := hC.2.1
  refine lv_aload_n hx hb dL_law_1214 rfl (lv_at hl 3 rfl) ?_
  refine lv_aload_n hx hb dL_law_1215 rfl (lv_at hl 4 rfl) ?_
  refine lv_iload hx hb dL_law_1216 (lv_at hl 0 rfl) ?_
  refine lv_iconst (v := 1) hx hb dL_law_1218 (by decide) ?_
  refine lv_iadd hx hb dL_law_1219 ?_
  refine W.eq (g2 := F0 m 1220 ls [.int 1, .ref sb, .ref (a 0)]) rfl ?_
  refine va_sld hx hb hX hbl (Nat.not_le_of_lt hbl) hG.2.2.2.1 (vp_box (by decide) (by rw [hL4]; decide)) dL_law_1220 ?_
  refine W.eq (g2 := F0 m 1221 ls [.int (xs 1), .ref (a 0)]) rfl ?_
  refine lv_aload_n hx hb dL_law_1221 rfl (lv_at hl 4 rfl) ?_
  refine lv_iload hx hb dL_law_1222 (lv_at hl 0 rfl) ?_
  refine lv_iconst (v := 2) hx hb dL_law_1224 (by decide) ?_
  refine lv_iadd hx hb dL_law_1225 ?_
  refine W.eq (g2 := F0 m 1226 ls [.int 2, .ref sb, .int (xs 1), .ref (a 0)]) rfl ?_
  refine va_sld hx hb hX hbl (Nat.not_le_of_lt hbl) hG.2.2.2.1 (vp_box (by decide) (by rw [hL4]; decide)) dL_law_1226 ?_
  refine W.eq (g2 := F0 m 1227 ls [.int (xs 2), .int (xs 1), .ref (a 0)]) rfl ?_
  refine lv_aload_n hx hb dL_law_1227 rfl (lv_at hl 4 rfl) ?_
  refine lv_iload hx hb dL_law_1228 (lv_at hl 0 rfl) ?_
  refine lv_iconst (v := 3) hx hb dL_law_1230 (by decide) ?_
  refine lv_iadd hx hb dL_law_1231 ?_
  refine W.eq (g2 := F0 m 1232 ls [.int 3, .ref sb, .int (xs 2), .int (xs 1), .ref (a 0)]) rfl ?_
  refine va_sld hx hb hX hbl (Nat.not_le_of_lt hbl) hG.2.2.2.1 (vp_box (by decide) (by rw [hL4]; decide)) dL_law_1232 ?_
  refine W.eq (g2 := F0 m 1233 ls [.int (xs 3), .int (xs 2), .int (xs 1), .ref (a 0)]) rfl ?_
  refine lv_aload_n hx hb dL_law_1233 rfl (lv_at hl 1 rfl) ?_
  have cut1234 : Cut ((xw κ a ++ [(o, .inl (κ.2.1, 1, .inr (.inl (fun _ => 0))))]) ++ mw κ b E0 0) ([(a 0, .inr (7, [.ref (a 1), .ref (a 7), .ref (a 12), .ref (a 23), .ref (a 28), .ref (a 33), .ref (a 37), .ref (a 41), .int (-1), .int 0])), (a 1, .inr (0, [.ref (a 2), .ref (a 3), .ref (a 4), .ref (a 5), .ref (a 6), .int 0])), (a 2, .inl (κ.1, 4, .inl (fun _ => 1000))), (a 3, .inl (κ.1, 10, .inl (fun _ => 0))), (a 4, .inl (κ.1, 10, .inl (fun _ => 0))), (a 5, .inl (κ.1, 10, .inl (fun _ => 0))), (a 6, .inl (κ.2.2.1, 10, .inl (fun _ => 0))), (a 7, .inr (1, [.ref (a 8), .int 0, .int 0, .int 0])), (a 8, .inr (4, [.ref (a 9), .ref (a 10), .ref (a 11), .int 0])), (a 9, .inl (κ.1, 10, .inl (fun _ => 0))), (a 10, .inl (κ.2.1, 10, .inr (.inl (fun _ => 0)))), (a 11, .inl (κ.2.1, 10, .inr (.inl (fun _ => 0)))), (a 12, .inr (3, [.ref (a 13), .ref (a 14), .ref (a 15), .ref (a 16), .ref (a 17), .ref (a 18), .int 0, .ref (a 19), .ref (a 20), .ref (a 21), .ref (a 22), .int 0])), (a 13, .inl (κ.1, 60, .inl (fun _ => 0))), (a 14, .inl (κ.1, 60, .inl (fun _ => 0))), (a 15, .inl (κ.1, 60, .inl (fun _ => 0))), (a 16, .inl (κ.1, 60, .inl (fun _ => 0))), (a 17, .inl (κ.2.2.1, 60, .inl (fun _ => 0))), (a 18, .inl (κ.2.2.1, 60, .inl (fun _ => 0))), (a 19, .inl (κ.1, 600, .inl (fun _ => 0))), (a 20, .inl (κ.1, 600, .inl (fun _ => 0))), (a 21, .inl (κ.2.1, 600, .inr (.inl (fun _ => 0)))), (a 22, .inl (κ.2.1, 600, .inr (.inl (fun _ => 0)))), (a 23, .inr (2, [.ref (a 24), .ref (a 25), .ref (a 26), .ref (a 27), .int 0])), (a 24, .inl (κ.1, 20, .inl (fun _ => 0))), (a 25, .inl (κ.1, 20, .inl (fun _ => 0))), (a 26, .inl (κ.1, 20, .inl (fun _ => 0))), (a 27, .inl (κ.2.2.1, 20, .inl (fun _ => 0))), (a 28, .inr (5, [.ref (a 29), .ref (a 30), .ref (a 31), .ref (a 32), .int 0])), (a 29, .inl (κ.1, 40, .inl (fun _ => 0))), (a 30, .inl (κ.1, 40, .inl (fun _ => 0))), (a 31, .inl (κ.1, 40, .inl (fun _ => 0))), (a 32, .inl (κ.1, 40, .inl (fun _ => 0))), (a 33, .inr (6, [.ref (a 12), .ref (a 28), .ref (a 34), .ref (a 35), .ref (a 36)])), (a 34, .inl (κ.1, 600, .inl (fun _ => (-1)))), (a 35, .inl (κ.1, 40, .inl (fun _ => (-1)))), (a 36, .inl (κ.1, 40, .inl (fun _ => (-1)))), (a 37, .inr (6, [.ref (a 12), .ref (a 28), .ref (a 38), .ref (a 39), .ref (a 40)])), (a 38, .inl (κ.1, 600, .inl (fun _ => (-1)))), (a 39, .inl (κ.1, 40, .inl (fun _ => (-1)))), (a 40, .inl (κ.1, 40, .inl (fun _ => (-1)))), (a 41, .inr (4, [.ref (a 42), .ref (a 43), .ref (a 44), .int 0])), (a 42, .inl (κ.1, 10, .inl (fun _ => 0))), (a 43, .inl (κ.2.1, 10, .inr (.inl (fun _ => 0)))), (a 44, .inl (κ.2.1, 10, .inr (.inl (fun _ => 0)))), (o, .inl (κ.2.1, 1, .inr (.inl (fun _ => 0))))]) ([(b 0, .inr (9, [.int 0, .ref (b 1), .ref (b 2), .ref (b 3), .ref (b 4), .ref (b 5), .ref (b 6), .ref (b 7), .null, .int 0, .int (-1), .int 0, .int 0, .int 0, .ref (b 8)])), (b 1, .inl (κ.1, 4, .inl (fun _ => 1000))), (b 2, .inr (10, [.int 0, .ref E0, .int 0])), (b 3, .inr (10, [.int 0, .ref E0, .int 0])), (b 4, .inr (10, [.int 0, .ref E0, .int 0])), (b 5, .inr (10, [.int 0, .ref E0, .int 0])), (b 6, .inr (10, [.int 0, .ref E0, .int 0])), (b 7, .inr (10, [.int 0, .ref E0, .int 0])), (b 8, .inr (10, [.int 0, .ref E0, .int 0]))]) := (Cut.idx [0, 1, 2, 3, 4, 5, 6, 7, 8, 9, 10, 11, 12, 13, 14, 15, 16, 17, 18, 19, 20, 21, 22, 23, 24, 25, 26, 27, 28, 29, 30, 31, 32, 33, 34, 35, 36, 37, 38, 39, 40, 41, 42, 43, 44, 45] [46, 47, 48, 49, 50, 51, 52, 53, 54] rfl rfl (by decide) (by decide) (by decide))
  refine zc_i hG cut1234 (zr_H (n := 5) (As := [.ref (a 0), .int (xs 1), .int (xs 2), .int (xs 3), .ref o]) (rest := []) hC hG hE hT cut1234 (z_100_line l hst D κ E0 H.size a (xs 1) (xs 2) (xs 3) o ⟨by omega, by omega⟩ ⟨by omega, by omega⟩ ⟨by omega, by omega⟩) w856 w143 w858 w857 (by decide +kernel) ⟨Nat.le_of_ble_eq_true rfl, Nat.le_of_ble_eq_true rfl⟩ rfl hl.1 rfl (Nat.le_of_ble_eq_true rfl) dL_law_1234 ⟨Nat.le_of_ble_eq_true rfl, Nat.le_of_ble_eq_true rfl⟩) (fun z1 H locs hG => ?_)
  have hG : BW D κ (([(b 0, .inr (9, [.int 0, .ref (b 1), .ref (b 2), .ref (b 3), .ref (b 4), .ref (b 5), .ref (b 6), .ref (b 7), .null, .int 0, .int (-1), .int 0, .int 0, .int 0, .ref (b 8)])), (b 1, .inl (κ.1, 4, .inl (fun _ => 1000))), (b 2, .inr (10, [.int 0, .ref E0, .int 0])), (b 3, .inr (10, [.int 0, .ref E0, .int 0])), (b 4, .inr (10, [.int 0, .ref E0, .int 0])), (b 5, .inr (10, [.int 0, .ref E0, .int 0])), (b 6, .inr (10, [.int 0, .ref E0, .int 0])), (b 7, .inr (10, [.int 0, .ref E0, .int 0])), (b 8, .inr (10, [.int 0, .ref E0, .int 0]))]) ++ ([(o, .inl (κ.2.1, 1, .inr (.inl (fun _ => 0))))])) _ s H locs := hG
  refine lv_istore (lv' := [(5, .int 1), (4, .int 0), (3, .ref o), (2, .ref (b 0)), (1, .ref (a 0)), (0, .ref sb)]) hx hb dL_law_1237 hl (by decide) rfl (fun ls hl => ?_)
  refine lv_aload_n hx hb dL_law_1239 rfl (lv_at hl 3 rfl) ?_
  refine lv_aload_n hx hb dL_law_1240 rfl (lv_at hl 5 rfl) ?_
  refine lv_iload hx hb dL_law_1241 (lv_at hl 1 rfl) ?_
  refine lv_iconst (v := 1) hx hb dL_law_1243 (by decide) ?_
  refine lv_iadd hx hb dL_law_1244 ?_
  refine W.eq (g2 := F0 m 1245 ls [.int 1, .ref sb, .ref (b 0)]) rfl ?_
  refine va_sld hx hb hX hbl (Nat.not_le_of_lt hbl) hG.2.2.2.1 (vp_box (by decide) (by rw [hL4]; decide)) dL_law_1245 ?_
  refine W.eq (g2 := F0 m 1246 ls [.int (xs 1), .ref (b 0)]) rfl ?_
  refine lv_aload_n hx hb dL_law_1246 rfl (lv_at hl 5 rfl) ?_
  refine lv_iload hx hb dL_law_1247 (lv_at hl 1 rfl) ?_
  refine lv_iconst (v := 2) hx hb dL_law_1249 (by decide) ?_
  refine lv_iadd hx hb dL_law_1250 ?_
  refine W.eq (g2 := F0 m 1251 ls [.int 2, .ref sb, .int (xs 1), .ref (b 0)]) rfl ?_
  refine va_sld hx hb hX hbl (Nat.not_le_of_lt hbl) hG.2.2.2.1 (vp_box (by decide) (by rw [hL4]; decide)) dL_law_1251 ?_
  refine W.eq (g2 := F0 m 1252 ls [.int (xs 2), .int (xs 1), .ref (b 0)]) rfl ?_
  refine lv_aload_n hx hb dL_law_1252 rfl (lv_at hl 5 rfl) ?_
  refine lv_iload hx hb dL_law_1253 (lv_at hl 1 rfl) ?_
  refine lv_iconst (v := 3) hx hb dL_law_1255 (by decide) ?_
  refine lv_iadd hx hb dL_law_1256 ?_
  refine W.eq (g2 := F0 m 1257 ls [.int 3, .ref sb, .int (xs 2), .int (xs 1), .ref (b 0)]) rfl ?_
  refine va_sld hx hb hX hbl (Nat.not_le_of_lt hbl) hG.2.2.2.1 (vp_box (by decide) (by rw [hL4]; decide)) dL_law_1257 ?_
  refine W.eq (g2 := F0 m 1258 ls [.int (xs 3), .int (xs 2), .int (xs 1), .ref (b 0)]) rfl ?_
  have cut1258 : Cut (([(b 0, .inr (9, [.int 0, .ref (b 1), .ref (b 2), .ref (b 3), .ref (b 4), .ref (b 5), .ref (b 6), .ref (b 7), .null, .int 0, .int (-1), .int 0, .int 0, .int 0, .ref (b 8)])), (b 1, .inl (κ.1, 4, .inl (fun _ => 1000))), (b 2, .inr (10, [.int 0, .ref E0, .int 0])), (b 3, .inr (10, [.int 0, .ref E0, .int 0])), (b 4, .inr (10, [.int 0, .ref E0, .int 0])), (b 5, .inr (10, [.int 0, .ref E0, .int 0])), (b 6, .inr (10, [.int 0, .ref E0, .int 0])), (b 7, .inr (10, [.int 0, .ref E0, .int 0])), (b 8, .inr (10, [.int 0, .ref E0, .int 0]))]) ++ ([(o, .inl (κ.2.1, 1, .inr (.inl (fun _ => 0))))])) (mw κ b E0 0) ([(o, .inl (κ.2.1, 1, .inr (.inl (fun _ => 0))))]) := (Cut.idx [0, 1, 2, 3, 4, 5, 6, 7, 8] [9] rfl rfl (by decide) (by decide) (by decide))
  refine zc_i hG cut1258 (zr_V (k := 0) (ci := 9) (n := 3) (As := [.int (xs 1), .int (xs 2), .int (xs 3)]) (rest := []) hC hG hE hT cut1258 (z_101_line l hst D κ E0 H.size b (xs 1) (xs 2) (xs 3) ⟨by omega, by omega⟩ ⟨by omega, by omega⟩ ⟨by omega, by omega⟩) rfl rfl w872 w5 w875 w873 w874 (by decide +kernel) ⟨Nat.le_of_ble_eq_true rfl, Nat.le_of_ble_eq_true rfl⟩ rfl hl.1 rfl (Nat.le_of_ble_eq_true rfl) dL_law_1258 ⟨Nat.le_of_ble_eq_true rfl, Nat.le_of_ble_eq_true rfl⟩) (fun z2 H locs hG => ?_)
  have hG : BW D κ (([(o, .inl (κ.2.1, 1, .inr (.inl (fun _ => 0))))]) ++ (mw κ b E0 1)) _ s H locs := hG
  refine lv_istore (lv' := [(6, .int 0), (5, .int 1), (4, .int 0), (3, .ref o), (2, .ref (b 0)), (1, .ref (a 0)), (0, .ref sb)]) hx hb dL_law_1261 hl (by decide) rfl (fun ls hl => ?_)
  refine lv_aload_n hx hb dL_law_1263 rfl (lv_at hl 4 rfl) ?_
  have cut1264 : Cut (([(o, .inl (κ.2.1, 1, .inr (.inl (fun _ => 0))))]) ++ (mw κ b E0 1)) ([(b 0, .inr (9, [.int 1, .ref (b 1), .ref (b 2), .ref (b 3), .ref (b 4), .ref (b 5), .ref (b 6), .ref (b 7), .null, .int 0, .int (-1), .int 0, .int 0, .int 0, .ref (b 8)]))]) ([(o, .inl (κ.2.1, 1, .inr (.inl (fun _ => 0)))), (b 1, .inl (κ.1, 4, .inl (fun _ => 1000))), (b 2, .inr (10, [.int 0, .ref E0, .int 0])), (b 3, .inr (10, [.int 0, .ref E0, .int 0])), (b 4, .inr (10, [.int 0, .ref E0, .int 0])), (b 5, .inr (10, [.int 0, .ref E0, .int 0])), (b 6, .inr (10, [.int 0, .ref E0, .int 0])), (b 7, .inr (10, [.int 0, .ref E0, .int 0])), (b 8, .inr (10, [.int 0, .ref E0, .int 0]))]) := (Cut.idx [1] [0, 2, 3, 4, 5, 6, 7, 8, 9] rfl rfl (by decide) (by decide) (by decide))
  refine zc_i hG cut1264 (zr_V (k := 1) (ci := 9) (n := 0) (As := []) (rest := []) hC hG hE hT cut1264 (z_6_thrown l hst D κ E0 H.size b) rfl rfl w200 w5 w203 w201 w202 (by decide +kernel) ⟨Nat.le_of_ble_eq_true rfl, Nat.le_of_ble_eq_true rfl⟩ rfl hl.1 rfl (Nat.le_of_ble_eq_true rfl) dL_law_1264 ⟨Nat.le_of_ble_eq_true rfl, Nat.le_of_ble_eq_true rfl⟩) (fun z3 H locs hG => ?_)
  have hG : BW D κ (([(o, .inl (κ.2.1, 1, .inr (.inl (fun _ => 0)))), (b 1, .inl (κ.1, 4, .inl (fun _ => 1000))), (b 2, .inr (10, [.int 0, .ref E0, .int 0])), (b 3, .inr (10, [.int 0, .ref E0, .int 0])), (b 4, .inr (10, [.int 0, .ref E0, .int 0])), (b 5, .inr (10, [.int 0, .ref E0, .int 0])), (b 6, .inr (10, [.int 0, .ref E0, .int 0])), (b 7, .inr (10, [.int 0, .ref E0, .int 0])), (b 8, .inr (10, [.int 0, .ref E0, .int 0]))]) ++ ([(b 0, .inr (9, [.int 1, .ref (b 1), .ref (b 2), .ref (b 3), .ref (b 4), .ref (b 5), .ref (b 6), .ref (b 7), .null, .int 0, .int (-1), .int 0, .int 0, .int 0, .ref (b 8)]))])) _ s H locs := hG
  refine lv_iload hx hb dL_law_1267 (lv_at hl 1 rfl) ?_
  refine lv_icmp_eq (tgt := 1274) hx hb dL_law_1269 (by decide) (fun _ => ?_) (fun h1269 => absurd (by decide) h1269)
  refine lv_iload hx hb dL_law_1274 (lv_at hl 1 rfl) ?_
  refine lv_if_ne (tgt := 1291) hx hb dL_law_1276 (by decide) (fun _ => ?_) (fun h1276 => absurd h1276 (by decide))
  refine lv_goto (tgt := 2042) hx hb dL_law_1291 (by decide) ?_
  refine lv_iinc (v := 4) (lv' := [(4, .int 4), (6, .int 0), (5, .int 1), (3, .ref o), (2, .ref (b 0)), (1, .ref (a 0)), (0, .ref sb)]) hx hb dL_law_2042 hl (k := 2) rfl (by decide) (by decide) rfl (fun ls hl => ?_)
  refine lv_goto (tgt := 23) hx hb dL_law_2045 (by decide) ?_
  refine lv_iload hx hb dL_law_23 (lv_at hl 0 rfl) ?_
  refine lv_aload_n hx hb dL_law_25 rfl (lv_at hl 6 rfl) ?_
  refine va_slen hx hb hX hbl (Nat.not_le_of_lt hbl) hG.2.2.2.1 dL_law_26 ?_
  refine W.eq (g2 := F0 m 27 ls [.int 4, .int 4]) (by rw [hL4]; rfl) ?_
  refine lv_iconst (v := 4) hx hb dL_law_27 (by decide) ?_
  refine lv_isub hx hb dL_law_28 ?_
  refine W.eq (g2 := F0 m 29 ls [.int 0, .int 4]) rfl ?_
  refine lv_icmp_gt (tgt := 2048) hx hb dL_law_29 (by decide) (fun _ => ?_) (fun h29 => absurd (by decide) h29)
  refine lv_iconst (v := 1) hx hb dL_law_2048 (by decide) ?_
  refine W.widen (k := 600002) (n := 7302232) (Nat.le_of_ble_eq_true rfl) (Nat.le_of_ble_eq_true rfl) ?_
  refine va_forget (fun q hq => hG.2.2.2.1.2.2 q hq) ?_
  refine W.base ?_
  exact lw_ret (Drawn.sameBut.refl s.drawn lw_cs) hx hb hr hlocks dL_law_2049
theorem dL_law_1294 : decode code 1294 = .ok (.aload_n 1, 1) := by decide +kernel
theorem dL_law_1295 : decode code 1295 = .ok (.aload_n 0, 1) := by decide +kernel
theorem dL_law_1296 : decode code 1296 = .ok (.iload 4, 2) := by decide +kernel
theorem dL_law_1298 : decode code 1298 = .ok (.iconst 1, 1) := by decide +kernel
theorem dL_law_1299 : decode code 1299 = .ok (.iadd, 1) := by decide +kernel
theorem dL_law_1300 : decode code 1300 = .ok (.iaload, 1) := by decide +kernel
theorem dL_law_1301 : decode code 1301 = .ok (.aload_n 0, 1) := by decide +kernel
theorem dL_law_1302 : decode code 1302 = .ok (.iload 4, 2) := by decide +kernel
theorem dL_law_1304 : decode code 1304 = .ok (.iconst 2, 1) := by decide +kernel
theorem dL_law_1305 : decode code 1305 = .ok (.iadd, 1) := by decide +kernel
theorem dL_law_1306 : decode code 1306 = .ok (.iaload, 1) := by decide +kernel
theorem dL_law_1307 : decode code 1307 = .ok (.aload_n 3, 1) := by decide +kernel
theorem dL_law_1308 : decode code 1308 = .ok (.invokestatic 174, 3) := by decide +kernel
theorem dL_law_1311 : decode code 1311 = .ok (.istore 5, 2) := by decide +kernel
theorem dL_law_1313 : decode code 1313 = .ok (.aload_n 2, 1) := by decide +kernel
theorem dL_law_1314 : decode code 1314 = .ok (.aload_n 0, 1) := by decide +kernel
theorem dL_law_1315 : decode code 1315 = .ok (.iload 4, 2) := by decide +kernel
theorem dL_law_1317 : decode code 1317 = .ok (.iconst 1, 1) := by decide +kernel
theorem dL_law_1318 : decode code 1318 = .ok (.iadd, 1) := by decide +kernel
theorem dL_law_1319 : decode code 1319 = .ok (.iaload, 1) := by decide +kernel
theorem dL_law_1320 : decode code 1320 = .ok (.aload_n 0, 1) := by decide +kernel
theorem dL_law_1321 : decode code 1321 = .ok (.iload 4, 2) := by decide +kernel
theorem dL_law_1323 : decode code 1323 = .ok (.iconst 2, 1) := by decide +kernel
theorem dL_law_1324 : decode code 1324 = .ok (.iadd, 1) := by decide +kernel
theorem dL_law_1325 : decode code 1325 = .ok (.iaload, 1) := by decide +kernel
theorem dL_law_1326 : decode code 1326 = .ok (.invokevirtual 176, 3) := by decide +kernel
theorem dL_law_1329 : decode code 1329 = .ok (.istore 6, 2) := by decide +kernel
theorem dL_law_1331 : decode code 1331 = .ok (.aload_n 2, 1) := by decide +kernel
theorem dL_law_1332 : decode code 1332 = .ok (.invokevirtual 116, 3) := by decide +kernel
theorem dL_law_1335 : decode code 1335 = .ok (.iload 5, 2) := by decide +kernel
theorem dL_law_1337 : decode code 1337 = .ok (.if_icmp .eq 5, 3) := by decide +kernel
theorem dL_law_1342 : decode code 1342 = .ok (.iload 5, 2) := by decide +kernel
theorem dL_law_1344 : decode code 1344 = .ok (.ifCond .ne 15, 3) := by decide +kernel
theorem dL_law_1359 : decode code 1359 = .ok (.goto 683, 3) := by decide +kernel
set_option maxHeartbeats 4000000 in
set_option maxRecDepth 100000 in
theorem leaf_21 {p : Program} {e : Env} {s : State} {m : MethodId} {below : List Frame} {meth : Method} {c : Code} (l : Launch) (hst : l.stackTraces = false) {D : va_G} {κ : K4} {E0 : Nat} {a b : Nat → Nat} {o sb L : Nat} {xs : Nat → Int32} (hC : CallFix p m c code 9 s #[Value.ref sb] WALL RL) (hr : meth.sig.returnType = ret) (hlocks : meth.locks = false) (hX : va_X sb L xs s s.heap) (hbl : sb < s.heap.size) (hL4 : L = 4) (hE : EA E0 D κ (fun q => s.heap.size ≤ q) s s.heap) (hT : ET s) (k_1 : -2147483648 ≤ (xs 1).toInt ∧ (xs 1).toInt ≤ 2147483647) (k_2 : -2147483648 ≤ (xs 2).toInt ∧ (xs 2).toInt ≤ 2147483647) (k_3 : -2147483648 ≤ (xs 3).toInt ∧ (xs 3).toInt ≤ 2147483647) (H : Heap) (locs : List Loc) (hG : BW D κ ((xw κ a ++ [(o, .inl (κ.2.1, 1, .inr (.inl (fun _ => 0))))]) ++ mw κ b E0 0) (fun q => s.heap.size ≤ q) s H locs) (ls : Array Slot) (hl : lv_has ls 9 [(4, .int 0), (3, .ref o), (2, .ref (b 0)), (1, .ref (a 0)), (0, .ref sb)]) : W p l e room_1 s m #[Value.ref sb] below meth c H locs 100 6000 (lw_Z below #[Value.ref sb] s) (F0 m 1294 ls []) := by
  have hx := hC.1
  have hb := hC.2.1
  refine lv_aload_n hx hb dL_law_1294 rfl (lv_at hl 3 rfl) ?_
  refine lv_aload_n hx hb dL_law_1295 rfl (lv_at hl 4 rfl) ?_
  refine lv_iload hx hb dL_law_1296 (lv_at hl 0 rfl) ?_
  refine lv_iconst (v := 1) hx hb dL_law_1298 (by decide) ?_
  refine lv_iadd hx hb dL_law_1299 ?_
  refine W.eq (g2 := F0 m 1300 ls [.int 1, .ref sb, .ref (a 0)]) rfl ?_
  refine va_sld hx hb hX hbl (Nat.not_le_of_lt hbl) hG.2.2.2.1 (vp_box (by decide) (by rw [hL4]; decide)) dL_law_1300 ?_
  refine W.eq (g2 := F0 m 1301 ls [.int (xs 1), .ref (a 0)]) rfl ?_
  refine lv_aload_n hx hb dL_law_1301 rfl (lv_at hl 4 rfl) ?_
  refine lv_iload hx hb dL_law_1302 (lv_at hl 0 rfl) ?_
  refine lv_iconst (v := 2) hx hb dL_law_1304 (by decide) ?_
  refine lv_iadd hx hb dL_law_1305 ?_
  refine W.eq (g2 := F0 m 1306 ls [.int 2, .ref sb, .int (xs 1), .ref (a 0)]) rfl ?_
  refine va_sld hx hb hX hbl (Nat.not_le_of_lt hbl) hG.2.2.2.1 (vp_box (by decide) (by rw [hL4]; decide)) dL_law_1306 ?_
  refine W.eq (g2 := F0 m 1307 ls [.int (xs 2), .int (xs 1), .ref (a 0)]) rfl ?_
  refine lv_aload_n hx hb dL_law_1307 rfl (lv_at hl 1 rfl) ?_
  have cut1308 : Cut ((xw κ a ++ [(o, .inl (κ.2.1, 1, .inr (.inl (fun _ => 0))))]) ++ mw κ b E0 0) ([(a 0, .inr (7, [.ref (a 1), .ref (a 7), .ref (a 12), .ref (a 23), .ref (a 28), .ref (a 33), .ref (a 37), .ref (a 41), .int (-1), .int 0])), (a 1, .inr (0, [.ref (a 2), .ref (a 3), .ref (a 4), .ref (a 5), .ref (a 6), .int 0])), (a 2, .inl (κ.1, 4, .inl (fun _ => 1000))), (a 3, .inl (κ.1, 10, .inl (fun _ => 0))), (a 4, .inl (κ.1, 10, .inl (fun _ => 0))), (a 5, .inl (κ.1, 10, .inl (fun _ => 0))), (a 6, .inl (κ.2.2.1, 10, .inl (fun _ => 0))), (a 7, .inr (1, [.ref (a 8), .int 0, .int 0, .int 0])), (a 8, .inr (4, [.ref (a 9), .ref (a 10), .ref (a 11), .int 0])), (a 9, .inl (κ.1, 10, .inl (fun _ => 0))), (a 10, .inl (κ.2.1, 10, .inr (.inl (fun _ => 0)))), (a 11, .inl (κ.2.1, 10, .inr (.inl (fun _ => 0)))), (a 12, .inr (3, [.ref (a 13), .ref (a 14), .ref (a 15), .ref (a 16), .ref (a 17), .ref (a 18), .int 0, .ref (a 19), .ref (a 20), .ref (a 21), .ref (a 22), .int 0])), (a 13, .inl (κ.1, 60, .inl (fun _ => 0))), (a 14, .inl (κ.1, 60, .inl (fun _ => 0))), (a 15, .inl (κ.1, 60, .inl (fun _ => 0))), (a 16, .inl (κ.1, 60, .inl (fun _ => 0))), (a 17, .inl (κ.2.2.1, 60, .inl (fun _ => 0))), (a 18, .inl (κ.2.2.1, 60, .inl (fun _ => 0))), (a 19, .inl (κ.1, 600, .inl (fun _ => 0))), (a 20, .inl (κ.1, 600, .inl (fun _ => 0))), (a 21, .inl (κ.2.1, 600, .inr (.inl (fun _ => 0)))), (a 22, .inl (κ.2.1, 600, .inr (.inl (fun _ => 0)))), (a 23, .inr (2, [.ref (a 24), .ref (a 25), .ref (a 26), .ref (a 27), .int 0])), (a 24, .inl (κ.1, 20, .inl (fun _ => 0))), (a 25, .inl (κ.1, 20, .inl (fun _ => 0))), (a 26, .inl (κ.1, 20, .inl (fun _ => 0))), (a 27, .inl (κ.2.2.1, 20, .inl (fun _ => 0))), (a 28, .inr (5, [.ref (a 29), .ref (a 30), .ref (a 31), .ref (a 32), .int 0])), (a 29, .inl (κ.1, 40, .inl (fun _ => 0))), (a 30, .inl (κ.1, 40, .inl (fun _ => 0))), (a 31, .inl (κ.1, 40, .inl (fun _ => 0))), (a 32, .inl (κ.1, 40, .inl (fun _ => 0))), (a 33, .inr (6, [.ref (a 12), .ref (a 28), .ref (a 34), .ref (a 35), .ref (a 36)])), (a 34, .inl (κ.1, 600, .inl (fun _ => (-1)))), (a 35, .inl (κ.1, 40, .inl (fun _ => (-1)))), (a 36, .inl (κ.1, 40, .inl (fun _ => (-1)))), (a 37, .inr (6, [.ref (a 12), .ref (a 28), .ref (a 38), .ref (a 39), .ref (a 40)])), (a 38, .inl (κ.1, 600, .inl (fun _ => (-1)))), (a 39, .inl (κ.1, 40, .inl (fun _ => (-1)))), (a 40, .inl (κ.1, 40, .inl (fun _ => (-1)))), (a 41, .inr (4, [.ref (a 42), .ref (a 43), .ref (a 44), .int 0])), (a 42, .inl (κ.1, 10, .inl (fun _ => 0))), (a 43, .inl (κ.2.1, 10, .inr (.inl (fun _ => 0)))), (a 44, .inl (κ.2.1, 10, .inr (.inl (fun _ => 0)))), (o, .inl (κ.2.1, 1, .inr (.inl (fun _ => 0))))]) ([(b 0, .inr (9, [.int 0, .ref (b 1), .ref (b 2), .ref (b 3), .ref (b 4), .ref (b 5), .ref (b 6), .ref (b 7), .null, .int 0, .int (-1), .int 0, .int 0, .int 0, .ref (b 8)])), (b 1, .inl (κ.1, 4, .inl (fun _ => 1000))), (b 2, .inr (10, [.int 0, .ref E0, .int 0])), (b 3, .inr (10, [.int 0, .ref E0, .int 0])), (b 4, .inr (10, [.int 0, .ref E0, .int 0])), (b 5, .inr (10, [.int 0, .ref E0, .int 0])), (b 6, .inr (10, [.int 0, .ref E0, .int 0])), (b 7, .inr (10, [.int 0, .ref E0, .int 0])), (b 8, .inr (10, [.int 0, .ref E0, .int 0]))]) := (Cut.idx [0, 1, 2, 3, 4, 5, 6, 7, 8, 9, 10, 11, 12, 13, 14, 15, 16, 17, 18, 19, 20, 21, 22, 23, 24, 25, 26, 27, 28, 29, 30, 31, 32, 33, 34, 35, 36, 37, 38, 39, 40, 41, 42, 43, 44, 45] [46, 47, 48, 49, 50, 51, 52, 53, 54] rfl rfl (by decide) (by decide) (by decide))
  refine zc_i hG cut1308 (zr_H (n := 4) (As := [.ref (a 0), .int (xs 1), .int (xs 2), .ref o]) (rest := []) hC hG hE hT cut1308 (z_103_match l hst D κ E0 H.size a (xs 1) (xs 2) o ⟨by omega, by omega⟩ ⟨by omega, by omega⟩) w887 w143 w889 w888 (by decide +kernel) ⟨Nat.le_of_ble_eq_true rfl, Nat.le_of_ble_eq_true rfl⟩ rfl hl.1 rfl (Nat.le_of_ble_eq_true rfl) dL_law_1308 ⟨Nat.le_of_ble_eq_true rfl, Nat.le_of_ble_eq_true rfl⟩) (fun z1 H locs hG => ?_)
  have hG : BW D κ (([(b 0, .inr (9, [.int 0, .ref (b 1), .ref (b 2), .ref (b 3), .ref (b 4), .ref (b 5), .ref (b 6), .ref (b 7), .null, .int 0, .int (-1), .int 0, .int 0, .int 0, .ref (b 8)])), (b 1, .inl (κ.1, 4, .inl (fun _ => 1000))), (b 2, .inr (10, [.int 0, .ref E0, .int 0])), (b 3, .inr (10, [.int 0, .ref E0, .int 0])), (b 4, .inr (10, [.int 0, .ref E0, .int 0])), (b 5, .inr (10, [.int 0, .ref E0, .int 0])), (b 6, .inr (10, [.int 0, .ref E0, .int 0])), (b 7, .inr (10, [.int 0, .ref E0, .int 0])), (b 8, .inr (10, [.int 0, .ref E0, .int 0]))]) ++ ([(o, .inl (κ.2.1, 1, .inr (.inl (fun _ => 0))))])) _ s H locs := hG
  refine lv_istore (lv' := [(5, .int 1), (4, .int 0), (3, .ref o), (2, .ref (b 0)), (1, .ref (a 0)), (0, .ref sb)]) hx hb dL_law_1311 hl (by decide) rfl (fun ls hl => ?_)
  refine lv_aload_n hx hb dL_law_1313 rfl (lv_at hl 3 rfl) ?_
  refine lv_aload_n hx hb dL_law_1314 rfl (lv_at hl 5 rfl) ?_
  refine lv_iload hx hb dL_law_1315 (lv_at hl 1 rfl) ?_
  refine lv_iconst (v := 1) hx hb dL_law_1317 (by decide) ?_
  refine lv_iadd hx hb dL_law_1318 ?_
  refine W.eq (g2 := F0 m 1319 ls [.int 1, .ref sb, .ref (b 0)]) rfl ?_
  refine va_sld hx hb hX hbl (Nat.not_le_of_lt hbl) hG.2.2.2.1 (vp_box (by decide) (by rw [hL4]; decide)) dL_law_1319 ?_
  refine W.eq (g2 := F0 m 1320 ls [.int (xs 1), .ref (b 0)]) rfl ?_
  refine lv_aload_n hx hb dL_law_1320 rfl (lv_at hl 5 rfl) ?_
  refine lv_iload hx hb dL_law_1321 (lv_at hl 1 rfl) ?_
  refine lv_iconst (v := 2) hx hb dL_law_1323 (by decide) ?_
  refine lv_iadd hx hb dL_law_1324 ?_
  refine W.eq (g2 := F0 m 1325 ls [.int 2, .ref sb, .int (xs 1), .ref (b 0)]) rfl ?_
  refine va_sld hx hb hX hbl (Nat.not_le_of_lt hbl) hG.2.2.2.1 (vp_box (by decide) (by rw [hL4]; decide)) dL_law_1325 ?_
  refine W.eq (g2 := F0 m 1326 ls [.int (xs 2), .int (xs 1), .ref (b 0)]) rfl ?_
  have cut1326 : Cut (([(b 0, .inr (9, [.int 0, .ref (b 1), .ref (b 2), .ref (b 3), .ref (b 4), .ref (b 5), .ref (b 6), .ref (b 7), .null, .int 0, .int (-1), .int 0, .int 0, .int 0, .ref (b 8)])), (b 1, .inl (κ.1, 4, .inl (fun _ => 1000))), (b 2, .inr (10, [.int 0, .ref E0, .int 0])), (b 3, .inr (10, [.int 0, .ref E0, .int 0])), (b 4, .inr (10, [.int 0, .ref E0, .int 0])), (b 5, .inr (10, [.int 0, .ref E0, .int 0])), (b 6, .inr (10, [.int 0, .ref E0, .int 0])), (b 7, .inr (10, [.int 0, .ref E0, .int 0])), (b 8, .inr (10, [.int 0, .ref E0, .int 0]))]) ++ ([(o, .inl (κ.2.1, 1, .inr (.inl (fun _ => 0))))])) (mw κ b E0 0) ([(o, .inl (κ.2.1, 1, .inr (.inl (fun _ => 0))))]) := (Cut.idx [0, 1, 2, 3, 4, 5, 6, 7, 8] [9] rfl rfl (by decide) (by decide) (by decide))
  refine zc_i hG cut1326 (zr_V (k := 0) (ci := 9) (n := 2) (As := [.int (xs 1), .int (xs 2)]) (rest := []) hC hG hE hT cut1326 (z_104_match l hst D κ E0 H.size b (xs 1) (xs 2) ⟨by omega, by omega⟩ ⟨by omega, by omega⟩) rfl rfl w954 w5 w957 w955 w956 (by decide +kernel) ⟨Nat.le_of_ble_eq_true rfl, Nat.le_of_ble_eq_true rfl⟩ rfl hl.1 rfl (Nat.le_of_ble_eq_true rfl) dL_law_1326 ⟨Nat.le_of_ble_eq_true rfl, Nat.le_of_ble_eq_true rfl⟩) (fun z2 H locs hG => ?_)
  have hG : BW D κ (([(o, .inl (κ.2.1, 1, .inr (.inl (fun _ => 0))))]) ++ (mw κ b E0 1)) _ s H locs := hG
  refine lv_istore (lv' := [(6, .int 0), (5, .int 1), (4, .int 0), (3, .ref o), (2, .ref (b 0)), (1, .ref (a 0)), (0, .ref sb)]) hx hb dL_law_1329 hl (by decide) rfl (fun ls hl => ?_)
  refine lv_aload_n hx hb dL_law_1331 rfl (lv_at hl 4 rfl) ?_
  have cut1332 : Cut (([(o, .inl (κ.2.1, 1, .inr (.inl (fun _ => 0))))]) ++ (mw κ b E0 1)) ([(b 0, .inr (9, [.int 1, .ref (b 1), .ref (b 2), .ref (b 3), .ref (b 4), .ref (b 5), .ref (b 6), .ref (b 7), .null, .int 0, .int (-1), .int 0, .int 0, .int 0, .ref (b 8)]))]) ([(o, .inl (κ.2.1, 1, .inr (.inl (fun _ => 0)))), (b 1, .inl (κ.1, 4, .inl (fun _ => 1000))), (b 2, .inr (10, [.int 0, .ref E0, .int 0])), (b 3, .inr (10, [.int 0, .ref E0, .int 0])), (b 4, .inr (10, [.int 0, .ref E0, .int 0])), (b 5, .inr (10, [.int 0, .ref E0, .int 0])), (b 6, .inr (10, [.int 0, .ref E0, .int 0])), (b 7, .inr (10, [.int 0, .ref E0, .int 0])), (b 8, .inr (10, [.int 0, .ref E0, .int 0]))]) := (Cut.idx [1] [0, 2, 3, 4, 5, 6, 7, 8, 9] rfl rfl (by decide) (by decide) (by decide))
  refine zc_i hG cut1332 (zr_V (k := 1) (ci := 9) (n := 0) (As := []) (rest := []) hC hG hE hT cut1332 (z_6_thrown l hst D κ E0 H.size b) rfl rfl w200 w5 w203 w201 w202 (by decide +kernel) ⟨Nat.le_of_ble_eq_true rfl, Nat.le_of_ble_eq_true rfl⟩ rfl hl.1 rfl (Nat.le_of_ble_eq_true rfl) dL_law_1332 ⟨Nat.le_of_ble_eq_true rfl, Nat.le_of_ble_eq_true rfl⟩) (fun z3 H locs hG => ?_)
  have hG : BW D κ (([(o, .inl (κ.2.1, 1, .inr (.inl (fun _ => 0)))), (b 1, .inl (κ.1, 4, .inl (fun _ => 1000))), (b 2, .inr (10, [.int 0, .ref E0, .int 0])), (b 3, .inr (10, [.int 0, .ref E0, .int 0])), (b 4, .inr (10, [.int 0, .ref E0, .int 0])), (b 5, .inr (10, [.int 0, .ref E0, .int 0])), (b 6, .inr (10, [.int 0, .ref E0, .int 0])), (b 7, .inr (10, [.int 0, .ref E0, .int 0])), (b 8, .inr (10, [.int 0, .ref E0, .int 0]))]) ++ ([(b 0, .inr (9, [.int 1, .ref (b 1), .ref (b 2), .ref (b 3), .ref (b 4), .ref (b 5), .ref (b 6), .ref (b 7), .null, .int 0, .int (-1), .int 0, .int 0, .int 0, .ref (b 8)]))])) _ s H locs := hG
  refine lv_iload hx hb dL_law_1335 (lv_at hl 1 rfl) ?_
  refine lv_icmp_eq (tgt := 1342) hx hb dL_law_1337 (by decide) (fun _ => ?_) (fun h1337 => absurd (by decide) h1337)
  refine lv_iload hx hb dL_law_1342 (lv_at hl 1 rfl) ?_
  refine lv_if_ne (tgt := 1359) hx hb dL_law_1344 (by decide) (fun _ => ?_) (fun h1344 => absurd h1344 (by decide))
  refine lv_goto (tgt := 2042) hx hb dL_law_1359 (by decide) ?_
  refine lv_iinc (v := 4) (lv' := [(4, .int 4), (6, .int 0), (5, .int 1), (3, .ref o), (2, .ref (b 0)), (1, .ref (a 0)), (0, .ref sb)]) hx hb dL_law_2042 hl (k := 2) rfl (by decide) (by decide) rfl (fun ls hl => ?_)
  refine lv_goto (tgt := 23) hx hb dL_law_2045 (by decide) ?_
  refine lv_iload hx hb dL_law_23 (lv_at hl 0 rfl) ?_
  refine lv_aload_n hx hb dL_law_25 rfl (lv_at hl 6 rfl) ?_
  refine va_slen hx hb hX hbl (Nat.not_le_of_lt hbl) hG.2.2.2.1 dL_law_26 ?_
  refine W.eq (g2 := F0 m 27 ls [.int 4, .int 4]) (by rw [hL4]; rfl) ?_
  refine lv_iconst (v := 4) hx hb dL_law_27 (by decide) ?_
  refine lv_isub hx hb dL_law_28 ?_
  refine W.eq (g2 := F0 m 29 ls [.int 0, .int 4]) rfl ?_
  refine lv_icmp_gt (tgt := 2048) hx hb dL_law_29 (by decide) (fun _ => ?_) (fun h29 => absurd (by decide) h29)
  refine lv_iconst (v := 1) hx hb dL_law_2048 (by decide) ?_
  refine W.widen (k := 600002) (n := 7302232) (Nat.le_of_ble_eq_true rfl) (Nat.le_of_ble_eq_true rfl) ?_
  refine va_forget (fun q hq => hG.2.2.2.1.2.2 q hq) ?_
  refine W.base ?_
  exact lw_ret (Drawn.sameBut.refl s.drawn lw_cs) hx hb hr hlocks dL_law_2049
theorem dL_law_1362 : decode code 1362 = .ok (.aload_n 1, 1) := by decide +kernel
theorem dL_law_1363 : decode code 1363 = .ok (.aload_n 0, 1) := by decide +kernel
theorem dL_law_1364 : decode code 1364 = .ok (.iload 4, 2) := by decide +kernel
theorem dL_law_1366 : decode code 1366 = .ok (.iconst 1, 1) := by decide +kernel
theorem dL_law_1367 : decode code 1367 = .ok (.iadd, 1) := by decide +kernel
theorem dL_law_1368 : decode code 1368 = .ok (.iaload, 1) := by decide +kernel
theorem dL_law_1369 : decode code 1369 = .ok (.aload_n 0, 1) := by decide +kernel
theorem dL_law_1370 : decode code 1370 = .ok (.iload 4, 2) := by decide +kernel
theorem dL_law_1372 : decode code 1372 = .ok (.iconst 2, 1) := by decide +kernel
theorem dL_law_1373 : decode code 1373 = .ok (.iadd, 1) := by decide +kernel
theorem dL_law_1374 : decode code 1374 = .ok (.iaload, 1) := by decide +kernel
theorem dL_law_1375 : decode code 1375 = .ok (.aload_n 3, 1) := by decide +kernel
theorem dL_law_1376 : decode code 1376 = .ok (.invokestatic 177, 3) := by decide +kernel
theorem dL_law_1379 : decode code 1379 = .ok (.istore 5, 2) := by decide +kernel
theorem dL_law_1381 : decode code 1381 = .ok (.aload_n 2, 1) := by decide +kernel
theorem dL_law_1382 : decode code 1382 = .ok (.aload_n 0, 1) := by decide +kernel
theorem dL_law_1383 : decode code 1383 = .ok (.iload 4, 2) := by decide +kernel
theorem dL_law_1385 : decode code 1385 = .ok (.iconst 1, 1) := by decide +kernel
theorem dL_law_1386 : decode code 1386 = .ok (.iadd, 1) := by decide +kernel
theorem dL_law_1387 : decode code 1387 = .ok (.iaload, 1) := by decide +kernel
theorem dL_law_1388 : decode code 1388 = .ok (.aload_n 0, 1) := by decide +kernel
theorem dL_law_1389 : decode code 1389 = .ok (.iload 4, 2) := by decide +kernel
theorem dL_law_1391 : decode code 1391 = .ok (.iconst 2, 1) := by decide +kernel
theorem dL_law_1392 : decode code 1392 = .ok (.iadd, 1) := by decide +kernel
theorem dL_law_1393 : decode code 1393 = .ok (.iaload, 1) := by decide +kernel
theorem dL_law_1394 : decode code 1394 = .ok (.invokevirtual 179, 3) := by decide +kernel
theorem dL_law_1397 : decode code 1397 = .ok (.lstore 6, 2) := by decide +kernel
theorem dL_law_1399 : decode code 1399 = .ok (.aload_n 2, 1) := by decide +kernel
theorem dL_law_1400 : decode code 1400 = .ok (.invokevirtual 116, 3) := by decide +kernel
theorem dL_law_1403 : decode code 1403 = .ok (.iload 5, 2) := by decide +kernel
theorem dL_law_1405 : decode code 1405 = .ok (.if_icmp .eq 5, 3) := by decide +kernel
theorem dL_law_1410 : decode code 1410 = .ok (.iload 5, 2) := by decide +kernel
theorem dL_law_1412 : decode code 1412 = .ok (.ifCond .ne 14, 3) := by decide +kernel
theorem dL_law_1426 : decode code 1426 = .ok (.goto 616, 3) := by decide +kernel
set_option maxHeartbeats 4000000 in
set_option maxRecDepth 100000 in
theorem leaf_22 {p : Program} {e : Env} {s : State} {m : MethodId} {below : List Frame} {meth : Method} {c : Code} (l : Launch) (hst : l.stackTraces = false) {D : va_G} {κ : K4} {E0 : Nat} {a b : Nat → Nat} {o sb L : Nat} {xs : Nat → Int32} (hC : CallFix p m c code 9 s #[Value.ref sb] WALL RL) (hr : meth.sig.returnType = ret) (hlocks : meth.locks = false) (hX : va_X sb L xs s s.heap) (hbl : sb < s.heap.size) (hL4 : L = 4) (hE : EA E0 D κ (fun q => s.heap.size ≤ q) s s.heap) (hT : ET s) (k_1 : -2147483648 ≤ (xs 1).toInt ∧ (xs 1).toInt ≤ 2147483647) (k_2 : -2147483648 ≤ (xs 2).toInt ∧ (xs 2).toInt ≤ 2147483647) (k_3 : -2147483648 ≤ (xs 3).toInt ∧ (xs 3).toInt ≤ 2147483647) (H : Heap) (locs : List Loc) (hG : BW D κ ((xw κ a ++ [(o, .inl (κ.2.1, 1, .inr (.inl (fun _ => 0))))]) ++ mw κ b E0 0) (fun q => s.heap.size ≤ q) s H locs) (ls : Array Slot) (hl : lv_has ls 9 [(4, .int 0), (3, .ref o), (2, .ref (b 0)), (1, .ref (a 0)), (0, .ref sb)]) : W p l e room_1 s m #[Value.ref sb] below meth c H locs 100 6000 (lw_Z below #[Value.ref sb] s) (F0 m 1362 ls []) := by
  have hx := hC.1
  have hb := hC.2.1
  refine lv_aload_n hx hb dL_law_1362 rfl (lv_at hl 3 rfl) ?_
  refine lv_aload_n hx hb dL_law_1363 rfl (lv_at hl 4 rfl) ?_
  refine lv_iload hx hb dL_law_1364 (lv_at hl 0 rfl) ?_
  refine lv_iconst (v := 1) hx hb dL_law_1366 (by decide) ?_
  refine lv_iadd hx hb dL_law_1367 ?_
  refine W.eq (g2 := F0 m 1368 ls [.int 1, .ref sb, .ref (a 0)]) rfl ?_
  refine va_sld hx hb hX hbl (Nat.not_le_of_lt hbl) hG.2.2.2.1 (vp_box (by decide) (by rw [hL4]; decide)) dL_law_1368 ?_
  refine W.eq (g2 := F0 m 1369 ls [.int (xs 1), .ref (a 0)]) rfl ?_
  refine lv_aload_n hx hb dL_law_1369 rfl (lv_at hl 4 rfl) ?_
  refine lv_iload hx hb dL_law_1370 (lv_at hl 0 rfl) ?_
  refine lv_iconst (v := 2) hx hb dL_law_1372 (by decide) ?_
  refine lv_iadd hx hb dL_law_1373 ?_
  refine W.eq (g2 := F0 m 1374 ls [.int 2, .ref sb, .int (xs 1), .ref (a 0)]) rfl ?_
  refine va_sld hx hb hX hbl (Nat.not_le_of_lt hbl) hG.2.2.2.1 (vp_box (by decide) (by rw [hL4]; decide)) dL_law_1374 ?_
  refine W.eq (g2 := F0 m 1375 ls [.int (xs 2), .int (xs 1), .ref (a 0)]) rfl ?_
  refine lv_aload_n hx hb dL_law_1375 rfl (lv_at hl 1 rfl) ?_
  have cut1376 : Cut ((xw κ a ++ [(o, .inl (κ.2.1, 1, .inr (.inl (fun _ => 0))))]) ++ mw κ b E0 0) ([(a 0, .inr (7, [.ref (a 1), .ref (a 7), .ref (a 12), .ref (a 23), .ref (a 28), .ref (a 33), .ref (a 37), .ref (a 41), .int (-1), .int 0])), (a 1, .inr (0, [.ref (a 2), .ref (a 3), .ref (a 4), .ref (a 5), .ref (a 6), .int 0])), (a 2, .inl (κ.1, 4, .inl (fun _ => 1000))), (a 3, .inl (κ.1, 10, .inl (fun _ => 0))), (a 4, .inl (κ.1, 10, .inl (fun _ => 0))), (a 5, .inl (κ.1, 10, .inl (fun _ => 0))), (a 6, .inl (κ.2.2.1, 10, .inl (fun _ => 0))), (a 7, .inr (1, [.ref (a 8), .int 0, .int 0, .int 0])), (a 8, .inr (4, [.ref (a 9), .ref (a 10), .ref (a 11), .int 0])), (a 9, .inl (κ.1, 10, .inl (fun _ => 0))), (a 10, .inl (κ.2.1, 10, .inr (.inl (fun _ => 0)))), (a 11, .inl (κ.2.1, 10, .inr (.inl (fun _ => 0)))), (a 12, .inr (3, [.ref (a 13), .ref (a 14), .ref (a 15), .ref (a 16), .ref (a 17), .ref (a 18), .int 0, .ref (a 19), .ref (a 20), .ref (a 21), .ref (a 22), .int 0])), (a 13, .inl (κ.1, 60, .inl (fun _ => 0))), (a 14, .inl (κ.1, 60, .inl (fun _ => 0))), (a 15, .inl (κ.1, 60, .inl (fun _ => 0))), (a 16, .inl (κ.1, 60, .inl (fun _ => 0))), (a 17, .inl (κ.2.2.1, 60, .inl (fun _ => 0))), (a 18, .inl (κ.2.2.1, 60, .inl (fun _ => 0))), (a 19, .inl (κ.1, 600, .inl (fun _ => 0))), (a 20, .inl (κ.1, 600, .inl (fun _ => 0))), (a 21, .inl (κ.2.1, 600, .inr (.inl (fun _ => 0)))), (a 22, .inl (κ.2.1, 600, .inr (.inl (fun _ => 0)))), (a 23, .inr (2, [.ref (a 24), .ref (a 25), .ref (a 26), .ref (a 27), .int 0])), (a 24, .inl (κ.1, 20, .inl (fun _ => 0))), (a 25, .inl (κ.1, 20, .inl (fun _ => 0))), (a 26, .inl (κ.1, 20, .inl (fun _ => 0))), (a 27, .inl (κ.2.2.1, 20, .inl (fun _ => 0))), (a 28, .inr (5, [.ref (a 29), .ref (a 30), .ref (a 31), .ref (a 32), .int 0])), (a 29, .inl (κ.1, 40, .inl (fun _ => 0))), (a 30, .inl (κ.1, 40, .inl (fun _ => 0))), (a 31, .inl (κ.1, 40, .inl (fun _ => 0))), (a 32, .inl (κ.1, 40, .inl (fun _ => 0))), (a 33, .inr (6, [.ref (a 12), .ref (a 28), .ref (a 34), .ref (a 35), .ref (a 36)])), (a 34, .inl (κ.1, 600, .inl (fun _ => (-1)))), (a 35, .inl (κ.1, 40, .inl (fun _ => (-1)))), (a 36, .inl (κ.1, 40, .inl (fun _ => (-1)))), (a 37, .inr (6, [.ref (a 12), .ref (a 28), .ref (a 38), .ref (a 39), .ref (a 40)])), (a 38, .inl (κ.1, 600, .inl (fun _ => (-1)))), (a 39, .inl (κ.1, 40, .inl (fun _ => (-1)))), (a 40, .inl (κ.1, 40, .inl (fun _ => (-1)))), (a 41, .inr (4, [.ref (a 42), .ref (a 43), .ref (a 44), .int 0])), (a 42, .inl (κ.1, 10, .inl (fun _ => 0))), (a 43, .inl (κ.2.1, 10, .inr (.inl (fun _ => 0)))), (a 44, .inl (κ.2.1, 10, .inr (.inl (fun _ => 0)))), (o, .inl (κ.2.1, 1, .inr (.inl (fun _ => 0))))]) ([(b 0, .inr (9, [.int 0, .ref (b 1), .ref (b 2), .ref (b 3), .ref (b 4), .ref (b 5), .ref (b 6), .ref (b 7), .null, .int 0, .int (-1), .int 0, .int 0, .int 0, .ref (b 8)])), (b 1, .inl (κ.1, 4, .inl (fun _ => 1000))), (b 2, .inr (10, [.int 0, .ref E0, .int 0])), (b 3, .inr (10, [.int 0, .ref E0, .int 0])), (b 4, .inr (10, [.int 0, .ref E0, .int 0])), (b 5, .inr (10, [.int 0, .ref E0, .int 0])), (b 6, .inr (10, [.int 0, .ref E0, .int 0])), (b 7, .inr (10, [.int 0, .ref E0, .int 0])), (b 8, .inr (10, [.int 0, .ref E0, .int 0]))]) := (Cut.idx [0, 1, 2, 3, 4, 5, 6, 7, 8, 9, 10, 11, 12, 13, 14, 15, 16, 17, 18, 19, 20, 21, 22, 23, 24, 25, 26, 27, 28, 29, 30, 31, 32, 33, 34, 35, 36, 37, 38, 39, 40, 41, 42, 43, 44, 45] [46, 47, 48, 49, 50, 51, 52, 53, 54] rfl rfl (by decide) (by decide) (by decide))
  refine zc_i hG cut1376 (zr_H (n := 4) (As := [.ref (a 0), .int (xs 1), .int (xs 2), .ref o]) (rest := []) hC hG hE hT cut1376 (z_106_left l hst D κ E0 H.size a (xs 1) (xs 2) o ⟨by omega, by omega⟩ ⟨by omega, by omega⟩) w1004 w143 w1006 w1005 (by decide +kernel) ⟨Nat.le_of_ble_eq_true rfl, Nat.le_of_ble_eq_true rfl⟩ rfl hl.1 rfl (Nat.le_of_ble_eq_true rfl) dL_law_1376 ⟨Nat.le_of_ble_eq_true rfl, Nat.le_of_ble_eq_true rfl⟩) (fun z1 H locs hG => ?_)
  have hG : BW D κ (([(b 0, .inr (9, [.int 0, .ref (b 1), .ref (b 2), .ref (b 3), .ref (b 4), .ref (b 5), .ref (b 6), .ref (b 7), .null, .int 0, .int (-1), .int 0, .int 0, .int 0, .ref (b 8)])), (b 1, .inl (κ.1, 4, .inl (fun _ => 1000))), (b 2, .inr (10, [.int 0, .ref E0, .int 0])), (b 3, .inr (10, [.int 0, .ref E0, .int 0])), (b 4, .inr (10, [.int 0, .ref E0, .int 0])), (b 5, .inr (10, [.int 0, .ref E0, .int 0])), (b 6, .inr (10, [.int 0, .ref E0, .int 0])), (b 7, .inr (10, [.int 0, .ref E0, .int 0])), (b 8, .inr (10, [.int 0, .ref E0, .int 0]))]) ++ ([(o, .inl (κ.2.1, 1, .inr (.inl (fun _ => 0))))])) _ s H locs := hG
  refine lv_istore (lv' := [(5, .int 1), (4, .int 0), (3, .ref o), (2, .ref (b 0)), (1, .ref (a 0)), (0, .ref sb)]) hx hb dL_law_1379 hl (by decide) rfl (fun ls hl => ?_)
  refine lv_aload_n hx hb dL_law_1381 rfl (lv_at hl 3 rfl) ?_
  refine lv_aload_n hx hb dL_law_1382 rfl (lv_at hl 5 rfl) ?_
  refine lv_iload hx hb dL_law_1383 (lv_at hl 1 rfl) ?_
  refine lv_iconst (v := 1) hx hb dL_law_1385 (by decide) ?_
  refine lv_iadd hx hb dL_law_1386 ?_
  refine W.eq (g2 := F0 m 1387 ls [.int 1, .ref sb, .ref (b 0)]) rfl ?_
  refine va_sld hx hb hX hbl (Nat.not_le_of_lt hbl) hG.2.2.2.1 (vp_box (by decide) (by rw [hL4]; decide)) dL_law_1387 ?_
  refine W.eq (g2 := F0 m 1388 ls [.int (xs 1), .ref (b 0)]) rfl ?_
  refine lv_aload_n hx hb dL_law_1388 rfl (lv_at hl 5 rfl) ?_
  refine lv_iload hx hb dL_law_1389 (lv_at hl 1 rfl) ?_
  refine lv_iconst (v := 2) hx hb dL_law_1391 (by decide) ?_
  refine lv_iadd hx hb dL_law_1392 ?_
  refine W.eq (g2 := F0 m 1393 ls [.int 2, .ref sb, .int (xs 1), .ref (b 0)]) rfl ?_
  refine va_sld hx hb hX hbl (Nat.not_le_of_lt hbl) hG.2.2.2.1 (vp_box (by decide) (by rw [hL4]; decide)) dL_law_1393 ?_
  refine W.eq (g2 := F0 m 1394 ls [.int (xs 2), .int (xs 1), .ref (b 0)]) rfl ?_
  have cut1394 : Cut (([(b 0, .inr (9, [.int 0, .ref (b 1), .ref (b 2), .ref (b 3), .ref (b 4), .ref (b 5), .ref (b 6), .ref (b 7), .null, .int 0, .int (-1), .int 0, .int 0, .int 0, .ref (b 8)])), (b 1, .inl (κ.1, 4, .inl (fun _ => 1000))), (b 2, .inr (10, [.int 0, .ref E0, .int 0])), (b 3, .inr (10, [.int 0, .ref E0, .int 0])), (b 4, .inr (10, [.int 0, .ref E0, .int 0])), (b 5, .inr (10, [.int 0, .ref E0, .int 0])), (b 6, .inr (10, [.int 0, .ref E0, .int 0])), (b 7, .inr (10, [.int 0, .ref E0, .int 0])), (b 8, .inr (10, [.int 0, .ref E0, .int 0]))]) ++ ([(o, .inl (κ.2.1, 1, .inr (.inl (fun _ => 0))))])) (mw κ b E0 0) ([(o, .inl (κ.2.1, 1, .inr (.inl (fun _ => 0))))]) := (Cut.idx [0, 1, 2, 3, 4, 5, 6, 7, 8] [9] rfl rfl (by decide) (by decide) (by decide))
  refine zc_l hG cut1394 (zr_V (k := 0) (ci := 9) (n := 2) (As := [.int (xs 1), .int (xs 2)]) (rest := []) hC hG hE hT cut1394 (z_107_left l hst D κ E0 H.size b (xs 1) (xs 2) ⟨by omega, by omega⟩ ⟨by omega, by omega⟩) rfl rfl w1025 w5 w1028 w1026 w1027 (by decide +kernel) ⟨Nat.le_of_ble_eq_true rfl, Nat.le_of_ble_eq_true rfl⟩ rfl hl.1 rfl (Nat.le_of_ble_eq_true rfl) dL_law_1394 ⟨Nat.le_of_ble_eq_true rfl, Nat.le_of_ble_eq_true rfl⟩) (fun z2 H locs hG => ?_)
  have hG : BW D κ (([(o, .inl (κ.2.1, 1, .inr (.inl (fun _ => 0))))]) ++ (mw κ b E0 1)) _ s H locs := hG
  refine lv_lstore (lv' := [(6, .long 0), (5, .int 1), (4, .int 0), (3, .ref o), (2, .ref (b 0)), (1, .ref (a 0)), (0, .ref sb)]) hx hb dL_law_1397 hl (by decide) rfl (fun ls hl => ?_)
  refine lv_aload_n hx hb dL_law_1399 rfl (lv_at hl 4 rfl) ?_
  have cut1400 : Cut (([(o, .inl (κ.2.1, 1, .inr (.inl (fun _ => 0))))]) ++ (mw κ b E0 1)) ([(b 0, .inr (9, [.int 1, .ref (b 1), .ref (b 2), .ref (b 3), .ref (b 4), .ref (b 5), .ref (b 6), .ref (b 7), .null, .int 0, .int (-1), .int 0, .int 0, .int 0, .ref (b 8)]))]) ([(o, .inl (κ.2.1, 1, .inr (.inl (fun _ => 0)))), (b 1, .inl (κ.1, 4, .inl (fun _ => 1000))), (b 2, .inr (10, [.int 0, .ref E0, .int 0])), (b 3, .inr (10, [.int 0, .ref E0, .int 0])), (b 4, .inr (10, [.int 0, .ref E0, .int 0])), (b 5, .inr (10, [.int 0, .ref E0, .int 0])), (b 6, .inr (10, [.int 0, .ref E0, .int 0])), (b 7, .inr (10, [.int 0, .ref E0, .int 0])), (b 8, .inr (10, [.int 0, .ref E0, .int 0]))]) := (Cut.idx [1] [0, 2, 3, 4, 5, 6, 7, 8, 9] rfl rfl (by decide) (by decide) (by decide))
  refine zc_i hG cut1400 (zr_V (k := 1) (ci := 9) (n := 0) (As := []) (rest := []) hC hG hE hT cut1400 (z_6_thrown l hst D κ E0 H.size b) rfl rfl w200 w5 w203 w201 w202 (by decide +kernel) ⟨Nat.le_of_ble_eq_true rfl, Nat.le_of_ble_eq_true rfl⟩ rfl hl.1 rfl (Nat.le_of_ble_eq_true rfl) dL_law_1400 ⟨Nat.le_of_ble_eq_true rfl, Nat.le_of_ble_eq_true rfl⟩) (fun z3 H locs hG => ?_)
  have hG : BW D κ (([(o, .inl (κ.2.1, 1, .inr (.inl (fun _ => 0)))), (b 1, .inl (κ.1, 4, .inl (fun _ => 1000))), (b 2, .inr (10, [.int 0, .ref E0, .int 0])), (b 3, .inr (10, [.int 0, .ref E0, .int 0])), (b 4, .inr (10, [.int 0, .ref E0, .int 0])), (b 5, .inr (10, [.int 0, .ref E0, .int 0])), (b 6, .inr (10, [.int 0, .ref E0, .int 0])), (b 7, .inr (10, [.int 0, .ref E0, .int 0])), (b 8, .inr (10, [.int 0, .ref E0, .int 0]))]) ++ ([(b 0, .inr (9, [.int 1, .ref (b 1), .ref (b 2), .ref (b 3), .ref (b 4), .ref (b 5), .ref (b 6), .ref (b 7), .null, .int 0, .int (-1), .int 0, .int 0, .int 0, .ref (b 8)]))])) _ s H locs := hG
  refine lv_iload hx hb dL_law_1403 (lv_at hl 1 rfl) ?_
  refine lv_icmp_eq (tgt := 1410) hx hb dL_law_1405 (by decide) (fun _ => ?_) (fun h1405 => absurd (by decide) h1405)
  refine lv_iload hx hb dL_law_1410 (lv_at hl 1 rfl) ?_
  refine lv_if_ne (tgt := 1426) hx hb dL_law_1412 (by decide) (fun _ => ?_) (fun h1412 => absurd h1412 (by decide))
  refine lv_goto (tgt := 2042) hx hb dL_law_1426 (by decide) ?_
  refine lv_iinc (v := 4) (lv' := [(4, .int 4), (6, .long 0), (5, .int 1), (3, .ref o), (2, .ref (b 0)), (1, .ref (a 0)), (0, .ref sb)]) hx hb dL_law_2042 hl (k := 2) rfl (by decide) (by decide) rfl (fun ls hl => ?_)
  refine lv_goto (tgt := 23) hx hb dL_law_2045 (by decide) ?_
  refine lv_iload hx hb dL_law_23 (lv_at hl 0 rfl) ?_
  refine lv_aload_n hx hb dL_law_25 rfl (lv_at hl 6 rfl) ?_
  refine va_slen hx hb hX hbl (Nat.not_le_of_lt hbl) hG.2.2.2.1 dL_law_26 ?_
  refine W.eq (g2 := F0 m 27 ls [.int 4, .int 4]) (by rw [hL4]; rfl) ?_
  refine lv_iconst (v := 4) hx hb dL_law_27 (by decide) ?_
  refine lv_isub hx hb dL_law_28 ?_
  refine W.eq (g2 := F0 m 29 ls [.int 0, .int 4]) rfl ?_
  refine lv_icmp_gt (tgt := 2048) hx hb dL_law_29 (by decide) (fun _ => ?_) (fun h29 => absurd (by decide) h29)
  refine lv_iconst (v := 1) hx hb dL_law_2048 (by decide) ?_
  refine W.widen (k := 600002) (n := 7302232) (Nat.le_of_ble_eq_true rfl) (Nat.le_of_ble_eq_true rfl) ?_
  refine va_forget (fun q hq => hG.2.2.2.1.2.2 q hq) ?_
  refine W.base ?_
  exact lw_ret (Drawn.sameBut.refl s.drawn lw_cs) hx hb hr hlocks dL_law_2049
theorem dL_law_1429 : decode code 1429 = .ok (.aload_n 1, 1) := by decide +kernel
theorem dL_law_1430 : decode code 1430 = .ok (.aload_n 0, 1) := by decide +kernel
theorem dL_law_1431 : decode code 1431 = .ok (.iload 4, 2) := by decide +kernel
theorem dL_law_1433 : decode code 1433 = .ok (.iconst 1, 1) := by decide +kernel
theorem dL_law_1434 : decode code 1434 = .ok (.iadd, 1) := by decide +kernel
theorem dL_law_1435 : decode code 1435 = .ok (.iaload, 1) := by decide +kernel
theorem dL_law_1436 : decode code 1436 = .ok (.aload_n 3, 1) := by decide +kernel
theorem dL_law_1437 : decode code 1437 = .ok (.invokestatic 180, 3) := by decide +kernel
theorem dL_law_1440 : decode code 1440 = .ok (.istore 5, 2) := by decide +kernel
theorem dL_law_1442 : decode code 1442 = .ok (.aload_n 2, 1) := by decide +kernel
theorem dL_law_1443 : decode code 1443 = .ok (.aload_n 0, 1) := by decide +kernel
theorem dL_law_1444 : decode code 1444 = .ok (.iload 4, 2) := by decide +kernel
theorem dL_law_1446 : decode code 1446 = .ok (.iconst 1, 1) := by decide +kernel
theorem dL_law_1447 : decode code 1447 = .ok (.iadd, 1) := by decide +kernel
theorem dL_law_1448 : decode code 1448 = .ok (.iaload, 1) := by decide +kernel
theorem dL_law_1449 : decode code 1449 = .ok (.invokevirtual 182, 3) := by decide +kernel
theorem dL_law_1452 : decode code 1452 = .ok (.istore 6, 2) := by decide +kernel
theorem dL_law_1454 : decode code 1454 = .ok (.aload_n 2, 1) := by decide +kernel
theorem dL_law_1455 : decode code 1455 = .ok (.invokevirtual 116, 3) := by decide +kernel
theorem dL_law_1458 : decode code 1458 = .ok (.iload 5, 2) := by decide +kernel
theorem dL_law_1460 : decode code 1460 = .ok (.if_icmp .eq 5, 3) := by decide +kernel
theorem dL_law_1465 : decode code 1465 = .ok (.iload 5, 2) := by decide +kernel
theorem dL_law_1467 : decode code 1467 = .ok (.ifCond .ne 15, 3) := by decide +kernel
theorem dL_law_1482 : decode code 1482 = .ok (.goto 560, 3) := by decide +kernel
set_option maxHeartbeats 4000000 in
set_option maxRecDepth 100000 in
theorem leaf_23 {p : Program} {e : Env} {s : State} {m : MethodId} {below : List Frame} {meth : Method} {c : Code} (l : Launch) (hst : l.stackTraces = false) {D : va_G} {κ : K4} {E0 : Nat} {a b : Nat → Nat} {o sb L : Nat} {xs : Nat → Int32} (hC : CallFix p m c code 9 s #[Value.ref sb] WALL RL) (hr : meth.sig.returnType = ret) (hlocks : meth.locks = false) (hX : va_X sb L xs s s.heap) (hbl : sb < s.heap.size) (hL4 : L = 4) (hE : EA E0 D κ (fun q => s.heap.size ≤ q) s s.heap) (hT : ET s) (k_1 : -2147483648 ≤ (xs 1).toInt ∧ (xs 1).toInt ≤ 2147483647) (k_2 : -2147483648 ≤ (xs 2).toInt ∧ (xs 2).toInt ≤ 2147483647) (k_3 : -2147483648 ≤ (xs 3).toInt ∧ (xs 3).toInt ≤ 2147483647) (H : Heap) (locs : List Loc) (hG : BW D κ ((xw κ a ++ [(o, .inl (κ.2.1, 1, .inr (.inl (fun _ => 0))))]) ++ mw κ b E0 0) (fun q => s.heap.size ≤ q) s H locs) (ls : Array Slot) (hl : lv_has ls 9 [(4, .int 0), (3, .ref o), (2, .ref (b 0)), (1, .ref (a 0)), (0, .ref sb)]) : W p l e room_1 s m #[Value.ref sb] below meth c H locs 100 6000 (lw_Z below #[Value.ref sb] s) (F0 m 1429 ls []) := by
  have hx := hC.1
  have hb := hC.2.1
  refine lv_aload_n hx hb dL_law_1429 rfl (lv_at hl 3 rfl) ?_
  refine lv_aload_n hx hb dL_law_1430 rfl (lv_at hl 4 rfl) ?_
  refine lv_iload hx hb dL_law_1431 (lv_at hl 0 rfl) ?_
  refine lv_iconst (v := 1) hx hb dL_law_1433 (by decide) ?_
  refine lv_iadd hx hb dL_law_1434 ?_
  refine W.eq (g2 := F0 m 1435 ls [.int 1, .ref sb, .ref (a 0)]) rfl ?_
  refine va_sld hx hb hX hbl (Nat.not_le_of_lt hbl) hG.2.2.2.1 (vp_box (by decide) (by rw [hL4]; decide)) dL_law_1435 ?_
  refine W.eq (g2 := F0 m 1436 ls [.int (xs 1), .ref (a 0)]) rfl ?_
  refine lv_aload_n hx hb dL_law_1436 rfl (lv_at hl 1 rfl) ?_
  have cut1437 : Cut ((xw κ a ++ [(o, .inl (κ.2.1, 1, .inr (.inl (fun _ => 0))))]) ++ mw κ b E0 0) ([(a 0, .inr (7, [.ref (a 1), .ref (a 7), .ref (a 12), .ref (a 23), .ref (a 28), .ref (a 33), .ref (a 37), .ref (a 41), .int (-1), .int 0])), (a 1, .inr (0, [.ref (a 2), .ref (a 3), .ref (a 4), .ref (a 5), .ref (a 6), .int 0])), (a 2, .inl (κ.1, 4, .inl (fun _ => 1000))), (a 3, .inl (κ.1, 10, .inl (fun _ => 0))), (a 4, .inl (κ.1, 10, .inl (fun _ => 0))), (a 5, .inl (κ.1, 10, .inl (fun _ => 0))), (a 6, .inl (κ.2.2.1, 10, .inl (fun _ => 0))), (a 7, .inr (1, [.ref (a 8), .int 0, .int 0, .int 0])), (a 8, .inr (4, [.ref (a 9), .ref (a 10), .ref (a 11), .int 0])), (a 9, .inl (κ.1, 10, .inl (fun _ => 0))), (a 10, .inl (κ.2.1, 10, .inr (.inl (fun _ => 0)))), (a 11, .inl (κ.2.1, 10, .inr (.inl (fun _ => 0)))), (a 12, .inr (3, [.ref (a 13), .ref (a 14), .ref (a 15), .ref (a 16), .ref (a 17), .ref (a 18), .int 0, .ref (a 19), .ref (a 20), .ref (a 21), .ref (a 22), .int 0])), (a 13, .inl (κ.1, 60, .inl (fun _ => 0))), (a 14, .inl (κ.1, 60, .inl (fun _ => 0))), (a 15, .inl (κ.1, 60, .inl (fun _ => 0))), (a 16, .inl (κ.1, 60, .inl (fun _ => 0))), (a 17, .inl (κ.2.2.1, 60, .inl (fun _ => 0))), (a 18, .inl (κ.2.2.1, 60, .inl (fun _ => 0))), (a 19, .inl (κ.1, 600, .inl (fun _ => 0))), (a 20, .inl (κ.1, 600, .inl (fun _ => 0))), (a 21, .inl (κ.2.1, 600, .inr (.inl (fun _ => 0)))), (a 22, .inl (κ.2.1, 600, .inr (.inl (fun _ => 0)))), (a 23, .inr (2, [.ref (a 24), .ref (a 25), .ref (a 26), .ref (a 27), .int 0])), (a 24, .inl (κ.1, 20, .inl (fun _ => 0))), (a 25, .inl (κ.1, 20, .inl (fun _ => 0))), (a 26, .inl (κ.1, 20, .inl (fun _ => 0))), (a 27, .inl (κ.2.2.1, 20, .inl (fun _ => 0))), (a 28, .inr (5, [.ref (a 29), .ref (a 30), .ref (a 31), .ref (a 32), .int 0])), (a 29, .inl (κ.1, 40, .inl (fun _ => 0))), (a 30, .inl (κ.1, 40, .inl (fun _ => 0))), (a 31, .inl (κ.1, 40, .inl (fun _ => 0))), (a 32, .inl (κ.1, 40, .inl (fun _ => 0))), (a 33, .inr (6, [.ref (a 12), .ref (a 28), .ref (a 34), .ref (a 35), .ref (a 36)])), (a 34, .inl (κ.1, 600, .inl (fun _ => (-1)))), (a 35, .inl (κ.1, 40, .inl (fun _ => (-1)))), (a 36, .inl (κ.1, 40, .inl (fun _ => (-1)))), (a 37, .inr (6, [.ref (a 12), .ref (a 28), .ref (a 38), .ref (a 39), .ref (a 40)])), (a 38, .inl (κ.1, 600, .inl (fun _ => (-1)))), (a 39, .inl (κ.1, 40, .inl (fun _ => (-1)))), (a 40, .inl (κ.1, 40, .inl (fun _ => (-1)))), (a 41, .inr (4, [.ref (a 42), .ref (a 43), .ref (a 44), .int 0])), (a 42, .inl (κ.1, 10, .inl (fun _ => 0))), (a 43, .inl (κ.2.1, 10, .inr (.inl (fun _ => 0)))), (a 44, .inl (κ.2.1, 10, .inr (.inl (fun _ => 0)))), (o, .inl (κ.2.1, 1, .inr (.inl (fun _ => 0))))]) ([(b 0, .inr (9, [.int 0, .ref (b 1), .ref (b 2), .ref (b 3), .ref (b 4), .ref (b 5), .ref (b 6), .ref (b 7), .null, .int 0, .int (-1), .int 0, .int 0, .int 0, .ref (b 8)])), (b 1, .inl (κ.1, 4, .inl (fun _ => 1000))), (b 2, .inr (10, [.int 0, .ref E0, .int 0])), (b 3, .inr (10, [.int 0, .ref E0, .int 0])), (b 4, .inr (10, [.int 0, .ref E0, .int 0])), (b 5, .inr (10, [.int 0, .ref E0, .int 0])), (b 6, .inr (10, [.int 0, .ref E0, .int 0])), (b 7, .inr (10, [.int 0, .ref E0, .int 0])), (b 8, .inr (10, [.int 0, .ref E0, .int 0]))]) := (Cut.idx [0, 1, 2, 3, 4, 5, 6, 7, 8, 9, 10, 11, 12, 13, 14, 15, 16, 17, 18, 19, 20, 21, 22, 23, 24, 25, 26, 27, 28, 29, 30, 31, 32, 33, 34, 35, 36, 37, 38, 39, 40, 41, 42, 43, 44, 45] [46, 47, 48, 49, 50, 51, 52, 53, 54] rfl rfl (by decide) (by decide) (by decide))
  refine zc_i hG cut1437 (zr_H (n := 3) (As := [.ref (a 0), .int (xs 1), .ref o]) (rest := []) hC hG hE hT cut1437 (z_109_matched l hst D κ E0 H.size a (xs 1) o ⟨by omega, by omega⟩) w1037 w143 w1039 w1038 (by decide +kernel) ⟨Nat.le_of_ble_eq_true rfl, Nat.le_of_ble_eq_true rfl⟩ rfl hl.1 rfl (Nat.le_of_ble_eq_true rfl) dL_law_1437 ⟨Nat.le_of_ble_eq_true rfl, Nat.le_of_ble_eq_true rfl⟩) (fun z1 H locs hG => ?_)
  have hG : BW D κ (([(b 0, .inr (9, [.int 0, .ref (b 1), .ref (b 2), .ref (b 3), .ref (b 4), .ref (b 5), .ref (b 6), .ref (b 7), .null, .int 0, .int (-1), .int 0, .int 0, .int 0, .ref (b 8)])), (b 1, .inl (κ.1, 4, .inl (fun _ => 1000))), (b 2, .inr (10, [.int 0, .ref E0, .int 0])), (b 3, .inr (10, [.int 0, .ref E0, .int 0])), (b 4, .inr (10, [.int 0, .ref E0, .int 0])), (b 5, .inr (10, [.int 0, .ref E0, .int 0])), (b 6, .inr (10, [.int 0, .ref E0, .int 0])), (b 7, .inr (10, [.int 0, .ref E0, .int 0])), (b 8, .inr (10, [.int 0, .ref E0, .int 0]))]) ++ ([(o, .inl (κ.2.1, 1, .inr (.inl (fun _ => 0))))])) _ s H locs := hG
  refine lv_istore (lv' := [(5, .int 1), (4, .int 0), (3, .ref o), (2, .ref (b 0)), (1, .ref (a 0)), (0, .ref sb)]) hx hb dL_law_1440 hl (by decide) rfl (fun ls hl => ?_)
  refine lv_aload_n hx hb dL_law_1442 rfl (lv_at hl 3 rfl) ?_
  refine lv_aload_n hx hb dL_law_1443 rfl (lv_at hl 5 rfl) ?_
  refine lv_iload hx hb dL_law_1444 (lv_at hl 1 rfl) ?_
  refine lv_iconst (v := 1) hx hb dL_law_1446 (by decide) ?_
  refine lv_iadd hx hb dL_law_1447 ?_
  refine W.eq (g2 := F0 m 1448 ls [.int 1, .ref sb, .ref (b 0)]) rfl ?_
  refine va_sld hx hb hX hbl (Nat.not_le_of_lt hbl) hG.2.2.2.1 (vp_box (by decide) (by rw [hL4]; decide)) dL_law_1448 ?_
  refine W.eq (g2 := F0 m 1449 ls [.int (xs 1), .ref (b 0)]) rfl ?_
  have cut1449 : Cut (([(b 0, .inr (9, [.int 0, .ref (b 1), .ref (b 2), .ref (b 3), .ref (b 4), .ref (b 5), .ref (b 6), .ref (b 7), .null, .int 0, .int (-1), .int 0, .int 0, .int 0, .ref (b 8)])), (b 1, .inl (κ.1, 4, .inl (fun _ => 1000))), (b 2, .inr (10, [.int 0, .ref E0, .int 0])), (b 3, .inr (10, [.int 0, .ref E0, .int 0])), (b 4, .inr (10, [.int 0, .ref E0, .int 0])), (b 5, .inr (10, [.int 0, .ref E0, .int 0])), (b 6, .inr (10, [.int 0, .ref E0, .int 0])), (b 7, .inr (10, [.int 0, .ref E0, .int 0])), (b 8, .inr (10, [.int 0, .ref E0, .int 0]))]) ++ ([(o, .inl (κ.2.1, 1, .inr (.inl (fun _ => 0))))])) (mw κ b E0 0) ([(o, .inl (κ.2.1, 1, .inr (.inl (fun _ => 0))))]) := (Cut.idx [0, 1, 2, 3, 4, 5, 6, 7, 8] [9] rfl rfl (by decide) (by decide) (by decide))
  refine zc_i hG cut1449 (zr_V (k := 0) (ci := 9) (n := 1) (As := [.int (xs 1)]) (rest := []) hC hG hE hT cut1449 (z_111_matched l hst D κ E0 H.size b (xs 1) ⟨by omega, by omega⟩) rfl rfl w1046 w5 w1049 w1047 w1048 (by decide +kernel) ⟨Nat.le_of_ble_eq_true rfl, Nat.le_of_ble_eq_true rfl⟩ rfl hl.1 rfl (Nat.le_of_ble_eq_true rfl) dL_law_1449 ⟨Nat.le_of_ble_eq_true rfl, Nat.le_of_ble_eq_true rfl⟩) (fun z2 H locs hG => ?_)
  have hG : BW D κ (([(o, .inl (κ.2.1, 1, .inr (.inl (fun _ => 0))))]) ++ (mw κ b E0 1)) _ s H locs := hG
  refine lv_istore (lv' := [(6, .int 0), (5, .int 1), (4, .int 0), (3, .ref o), (2, .ref (b 0)), (1, .ref (a 0)), (0, .ref sb)]) hx hb dL_law_1452 hl (by decide) rfl (fun ls hl => ?_)
  refine lv_aload_n hx hb dL_law_1454 rfl (lv_at hl 4 rfl) ?_
  have cut1455 : Cut (([(o, .inl (κ.2.1, 1, .inr (.inl (fun _ => 0))))]) ++ (mw κ b E0 1)) ([(b 0, .inr (9, [.int 1, .ref (b 1), .ref (b 2), .ref (b 3), .ref (b 4), .ref (b 5), .ref (b 6), .ref (b 7), .null, .int 0, .int (-1), .int 0, .int 0, .int 0, .ref (b 8)]))]) ([(o, .inl (κ.2.1, 1, .inr (.inl (fun _ => 0)))), (b 1, .inl (κ.1, 4, .inl (fun _ => 1000))), (b 2, .inr (10, [.int 0, .ref E0, .int 0])), (b 3, .inr (10, [.int 0, .ref E0, .int 0])), (b 4, .inr (10, [.int 0, .ref E0, .int 0])), (b 5, .inr (10, [.int 0, .ref E0, .int 0])), (b 6, .inr (10, [.int 0, .ref E0, .int 0])), (b 7, .inr (10, [.int 0, .ref E0, .int 0])), (b 8, .inr (10, [.int 0, .ref E0, .int 0]))]) := (Cut.idx [1] [0, 2, 3, 4, 5, 6, 7, 8, 9] rfl rfl (by decide) (by decide) (by decide))
  refine zc_i hG cut1455 (zr_V (k := 1) (ci := 9) (n := 0) (As := []) (rest := []) hC hG hE hT cut1455 (z_6_thrown l hst D κ E0 H.size b) rfl rfl w200 w5 w203 w201 w202 (by decide +kernel) ⟨Nat.le_of_ble_eq_true rfl, Nat.le_of_ble_eq_true rfl⟩ rfl hl.1 rfl (Nat.le_of_ble_eq_true rfl) dL_law_1455 ⟨Nat.le_of_ble_eq_true rfl, Nat.le_of_ble_eq_true rfl⟩) (fun z3 H locs hG => ?_)
  have hG : BW D κ (([(o, .inl (κ.2.1, 1, .inr (.inl (fun _ => 0)))), (b 1, .inl (κ.1, 4, .inl (fun _ => 1000))), (b 2, .inr (10, [.int 0, .ref E0, .int 0])), (b 3, .inr (10, [.int 0, .ref E0, .int 0])), (b 4, .inr (10, [.int 0, .ref E0, .int 0])), (b 5, .inr (10, [.int 0, .ref E0, .int 0])), (b 6, .inr (10, [.int 0, .ref E0, .int 0])), (b 7, .inr (10, [.int 0, .ref E0, .int 0])), (b 8, .inr (10, [.int 0, .ref E0, .int 0]))]) ++ ([(b 0, .inr (9, [.int 1, .ref (b 1), .ref (b 2), .ref (b 3), .ref (b 4), .ref (b 5), .ref (b 6), .ref (b 7), .null, .int 0, .int (-1), .int 0, .int 0, .int 0, .ref (b 8)]))])) _ s H locs := hG
  refine lv_iload hx hb dL_law_1458 (lv_at hl 1 rfl) ?_
  refine lv_icmp_eq (tgt := 1465) hx hb dL_law_1460 (by decide) (fun _ => ?_) (fun h1460 => absurd (by decide) h1460)
  refine lv_iload hx hb dL_law_1465 (lv_at hl 1 rfl) ?_
  refine lv_if_ne (tgt := 1482) hx hb dL_law_1467 (by decide) (fun _ => ?_) (fun h1467 => absurd h1467 (by decide))
  refine lv_goto (tgt := 2042) hx hb dL_law_1482 (by decide) ?_
  refine lv_iinc (v := 4) (lv' := [(4, .int 4), (6, .int 0), (5, .int 1), (3, .ref o), (2, .ref (b 0)), (1, .ref (a 0)), (0, .ref sb)]) hx hb dL_law_2042 hl (k := 2) rfl (by decide) (by decide) rfl (fun ls hl => ?_)
  refine lv_goto (tgt := 23) hx hb dL_law_2045 (by decide) ?_
  refine lv_iload hx hb dL_law_23 (lv_at hl 0 rfl) ?_
  refine lv_aload_n hx hb dL_law_25 rfl (lv_at hl 6 rfl) ?_
  refine va_slen hx hb hX hbl (Nat.not_le_of_lt hbl) hG.2.2.2.1 dL_law_26 ?_
  refine W.eq (g2 := F0 m 27 ls [.int 4, .int 4]) (by rw [hL4]; rfl) ?_
  refine lv_iconst (v := 4) hx hb dL_law_27 (by decide) ?_
  refine lv_isub hx hb dL_law_28 ?_
  refine W.eq (g2 := F0 m 29 ls [.int 0, .int 4]) rfl ?_
  refine lv_icmp_gt (tgt := 2048) hx hb dL_law_29 (by decide) (fun _ => ?_) (fun h29 => absurd (by decide) h29)
  refine lv_iconst (v := 1) hx hb dL_law_2048 (by decide) ?_
  refine W.widen (k := 600002) (n := 7302232) (Nat.le_of_ble_eq_true rfl) (Nat.le_of_ble_eq_true rfl) ?_
  refine va_forget (fun q hq => hG.2.2.2.1.2.2 q hq) ?_
  refine W.base ?_
  exact lw_ret (Drawn.sameBut.refl s.drawn lw_cs) hx hb hr hlocks dL_law_2049
theorem dL_law_1541 : decode code 1541 = .ok (.aload_n 1, 1) := by decide +kernel
theorem dL_law_1542 : decode code 1542 = .ok (.aload_n 0, 1) := by decide +kernel
theorem dL_law_1543 : decode code 1543 = .ok (.iload 4, 2) := by decide +kernel
theorem dL_law_1545 : decode code 1545 = .ok (.iconst 1, 1) := by decide +kernel
theorem dL_law_1546 : decode code 1546 = .ok (.iadd, 1) := by decide +kernel
theorem dL_law_1547 : decode code 1547 = .ok (.iaload, 1) := by decide +kernel
theorem dL_law_1548 : decode code 1548 = .ok (.aload_n 0, 1) := by decide +kernel
theorem dL_law_1549 : decode code 1549 = .ok (.iload 4, 2) := by decide +kernel
theorem dL_law_1551 : decode code 1551 = .ok (.iconst 2, 1) := by decide +kernel
theorem dL_law_1552 : decode code 1552 = .ok (.iadd, 1) := by decide +kernel
theorem dL_law_1553 : decode code 1553 = .ok (.iaload, 1) := by decide +kernel
theorem dL_law_1554 : decode code 1554 = .ok (.aload_n 3, 1) := by decide +kernel
theorem dL_law_1555 : decode code 1555 = .ok (.invokestatic 186, 3) := by decide +kernel
theorem dL_law_1558 : decode code 1558 = .ok (.istore 5, 2) := by decide +kernel
theorem dL_law_1560 : decode code 1560 = .ok (.aload_n 2, 1) := by decide +kernel
theorem dL_law_1561 : decode code 1561 = .ok (.aload_n 0, 1) := by decide +kernel
theorem dL_law_1562 : decode code 1562 = .ok (.iload 4, 2) := by decide +kernel
theorem dL_law_1564 : decode code 1564 = .ok (.iconst 1, 1) := by decide +kernel
theorem dL_law_1565 : decode code 1565 = .ok (.iadd, 1) := by decide +kernel
theorem dL_law_1566 : decode code 1566 = .ok (.iaload, 1) := by decide +kernel
theorem dL_law_1567 : decode code 1567 = .ok (.aload_n 0, 1) := by decide +kernel
theorem dL_law_1568 : decode code 1568 = .ok (.iload 4, 2) := by decide +kernel
theorem dL_law_1570 : decode code 1570 = .ok (.iconst 2, 1) := by decide +kernel
theorem dL_law_1571 : decode code 1571 = .ok (.iadd, 1) := by decide +kernel
theorem dL_law_1572 : decode code 1572 = .ok (.iaload, 1) := by decide +kernel
theorem dL_law_1573 : decode code 1573 = .ok (.invokevirtual 188, 3) := by decide +kernel
theorem dL_law_1576 : decode code 1576 = .ok (.lstore 6, 2) := by decide +kernel
theorem dL_law_1578 : decode code 1578 = .ok (.aload_n 2, 1) := by decide +kernel
theorem dL_law_1579 : decode code 1579 = .ok (.invokevirtual 116, 3) := by decide +kernel
theorem dL_law_1582 : decode code 1582 = .ok (.iload 5, 2) := by decide +kernel
theorem dL_law_1584 : decode code 1584 = .ok (.if_icmp .eq 5, 3) := by decide +kernel
theorem dL_law_1589 : decode code 1589 = .ok (.iload 5, 2) := by decide +kernel
theorem dL_law_1591 : decode code 1591 = .ok (.ifCond .ne 14, 3) := by decide +kernel
theorem dL_law_1605 : decode code 1605 = .ok (.goto 437, 3) := by decide +kernel
set_option maxHeartbeats 4000000 in
set_option maxRecDepth 100000 in
theorem leaf_24 {p : Program} {e : Env} {s : State} {m : MethodId} {below : List Frame} {meth : Method} {c : Code} (l : Launch) (hst : l.stackTraces = false) {D : va_G} {κ : K4} {E0 : Nat} {a b : Nat → Nat} {o sb L : Nat} {xs : Nat → Int32} (hC : CallFix p m c code 9 s #[Value.ref sb] WALL RL) (hr : meth.sig.returnType = ret) (hlocks : meth.locks = false) (hX : va_X sb L xs s s.heap) (hbl : sb < s.heap.size) (hL4 : L = 4) (hE : EA E0 D κ (fun q => s.heap.size ≤ q) s s.heap) (hT : ET s) (k_1 : -2147483648 ≤ (xs 1).toInt ∧ (xs 1).toInt ≤ 2147483647) (k_2 : -2147483648 ≤ (xs 2).toInt ∧ (xs 2).toInt ≤ 2147483647) (k_3 : -2147483648 ≤ (xs 3).toInt ∧ (xs 3).toInt ≤ 2147483647) (H : Heap) (locs : List Loc) (hG : BW D κ ((xw κ a ++ [(o, .inl (κ.2.1, 1, .inr (.inl (fun _ => 0))))]) ++ mw κ b E0 0) (fun q => s.heap.size ≤ q) s H locs) (ls : Array Slot) (hl : lv_has ls 9 [(4, .int 0), (3, .ref o), (2, .ref (b 0)), (1, .ref (a 0)), (0, .ref sb)]) : W p l e room_1 s m #[Value.ref sb] below meth c H locs 100 6000 (lw_Z below #[Value.ref sb] s) (F0 m 1541 ls []) := by
  have hx := hC.1
  have hb := hC.2.1
  refine lv_aload_n hx hb dL_law_1541 rfl (lv_at hl 3 rfl) ?_
  refine lv_aload_n hx hb dL_law_1542 rfl (lv_at hl 4 rfl) ?_
  refine lv_iload hx hb dL_law_1543 (lv_at hl 0 rfl) ?_
  refine lv_iconst (v := 1) hx hb dL_law_1545 (by decide) ?_
  refine lv_iadd hx hb dL_law_1546 ?_
  refine W.eq (g2 := F0 m 1547 ls [.int 1, .ref sb, .ref (a 0)]) rfl ?_
  refine va_sld hx hb hX hbl (Nat.not_le_of_lt hbl) hG.2.2.2.1 (vp_box (by decide) (by rw [hL4]; decide)) dL_law_1547 ?_
  refine W.eq (g2 := F0 m 1548 ls [.int (xs 1), .ref (a 0)]) rfl ?_
  refine lv_aload_n hx hb dL_law_1548 rfl (lv_at hl 4 rfl) ?_
  refine lv_iload hx hb dL_law_1549 (lv_at hl 0 rfl) ?_
  refine lv_iconst (v := 2) hx hb dL_law_1551 (by decide) ?_
  refine lv_iadd hx hb dL_law_1552 ?_
  refine W.eq (g2 := F0 m 1553 ls [.int 2, .ref sb, .int (xs 1), .ref (a 0)]) rfl ?_
  refine va_sld hx hb hX hbl (Nat.not_le_of_lt hbl) hG.2.2.2.1 (vp_box (by decide) (by rw [hL4]; decide)) dL_law_1553 ?_
  refine W.eq (g2 := F0 m 1554 ls [.int (xs 2), .int (xs 1), .ref (a 0)]) rfl ?_
  refine lv_aload_n hx hb dL_law_1554 rfl (lv_at hl 1 rfl) ?_
  have cut1555 : Cut ((xw κ a ++ [(o, .inl (κ.2.1, 1, .inr (.inl (fun _ => 0))))]) ++ mw κ b E0 0) ([(a 0, .inr (7, [.ref (a 1), .ref (a 7), .ref (a 12), .ref (a 23), .ref (a 28), .ref (a 33), .ref (a 37), .ref (a 41), .int (-1), .int 0])), (a 1, .inr (0, [.ref (a 2), .ref (a 3), .ref (a 4), .ref (a 5), .ref (a 6), .int 0])), (a 2, .inl (κ.1, 4, .inl (fun _ => 1000))), (a 3, .inl (κ.1, 10, .inl (fun _ => 0))), (a 4, .inl (κ.1, 10, .inl (fun _ => 0))), (a 5, .inl (κ.1, 10, .inl (fun _ => 0))), (a 6, .inl (κ.2.2.1, 10, .inl (fun _ => 0))), (a 7, .inr (1, [.ref (a 8), .int 0, .int 0, .int 0])), (a 8, .inr (4, [.ref (a 9), .ref (a 10), .ref (a 11), .int 0])), (a 9, .inl (κ.1, 10, .inl (fun _ => 0))), (a 10, .inl (κ.2.1, 10, .inr (.inl (fun _ => 0)))), (a 11, .inl (κ.2.1, 10, .inr (.inl (fun _ => 0)))), (a 12, .inr (3, [.ref (a 13), .ref (a 14), .ref (a 15), .ref (a 16), .ref (a 17), .ref (a 18), .int 0, .ref (a 19), .ref (a 20), .ref (a 21), .ref (a 22), .int 0])), (a 13, .inl (κ.1, 60, .inl (fun _ => 0))), (a 14, .inl (κ.1, 60, .inl (fun _ => 0))), (a 15, .inl (κ.1, 60, .inl (fun _ => 0))), (a 16, .inl (κ.1, 60, .inl (fun _ => 0))), (a 17, .inl (κ.2.2.1, 60, .inl (fun _ => 0))), (a 18, .inl (κ.2.2.1, 60, .inl (fun _ => 0))), (a 19, .inl (κ.1, 600, .inl (fun _ => 0))), (a 20, .inl (κ.1, 600, .inl (fun _ => 0))), (a 21, .inl (κ.2.1, 600, .inr (.inl (fun _ => 0)))), (a 22, .inl (κ.2.1, 600, .inr (.inl (fun _ => 0)))), (a 23, .inr (2, [.ref (a 24), .ref (a 25), .ref (a 26), .ref (a 27), .int 0])), (a 24, .inl (κ.1, 20, .inl (fun _ => 0))), (a 25, .inl (κ.1, 20, .inl (fun _ => 0))), (a 26, .inl (κ.1, 20, .inl (fun _ => 0))), (a 27, .inl (κ.2.2.1, 20, .inl (fun _ => 0))), (a 28, .inr (5, [.ref (a 29), .ref (a 30), .ref (a 31), .ref (a 32), .int 0])), (a 29, .inl (κ.1, 40, .inl (fun _ => 0))), (a 30, .inl (κ.1, 40, .inl (fun _ => 0))), (a 31, .inl (κ.1, 40, .inl (fun _ => 0))), (a 32, .inl (κ.1, 40, .inl (fun _ => 0))), (a 33, .inr (6, [.ref (a 12), .ref (a 28), .ref (a 34), .ref (a 35), .ref (a 36)])), (a 34, .inl (κ.1, 600, .inl (fun _ => (-1)))), (a 35, .inl (κ.1, 40, .inl (fun _ => (-1)))), (a 36, .inl (κ.1, 40, .inl (fun _ => (-1)))), (a 37, .inr (6, [.ref (a 12), .ref (a 28), .ref (a 38), .ref (a 39), .ref (a 40)])), (a 38, .inl (κ.1, 600, .inl (fun _ => (-1)))), (a 39, .inl (κ.1, 40, .inl (fun _ => (-1)))), (a 40, .inl (κ.1, 40, .inl (fun _ => (-1)))), (a 41, .inr (4, [.ref (a 42), .ref (a 43), .ref (a 44), .int 0])), (a 42, .inl (κ.1, 10, .inl (fun _ => 0))), (a 43, .inl (κ.2.1, 10, .inr (.inl (fun _ => 0)))), (a 44, .inl (κ.2.1, 10, .inr (.inl (fun _ => 0)))), (o, .inl (κ.2.1, 1, .inr (.inl (fun _ => 0))))]) ([(b 0, .inr (9, [.int 0, .ref (b 1), .ref (b 2), .ref (b 3), .ref (b 4), .ref (b 5), .ref (b 6), .ref (b 7), .null, .int 0, .int (-1), .int 0, .int 0, .int 0, .ref (b 8)])), (b 1, .inl (κ.1, 4, .inl (fun _ => 1000))), (b 2, .inr (10, [.int 0, .ref E0, .int 0])), (b 3, .inr (10, [.int 0, .ref E0, .int 0])), (b 4, .inr (10, [.int 0, .ref E0, .int 0])), (b 5, .inr (10, [.int 0, .ref E0, .int 0])), (b 6, .inr (10, [.int 0, .ref E0, .int 0])), (b 7, .inr (10, [.int 0, .ref E0, .int 0])), (b 8, .inr (10, [.int 0, .ref E0, .int 0]))]) := (Cut.idx [0, 1, 2, 3, 4, 5, 6, 7, 8, 9, 10, 11, 12, 13, 14, 15, 16, 17, 18, 19, 20, 21, 22, 23, 24, 25, 26, 27, 28, 29, 30, 31, 32, 33, 34, 35, 36, 37, 38, 39, 40, 41, 42, 43, 44, 45] [46, 47, 48, 49, 50, 51, 52, 53, 54] rfl rfl (by decide) (by decide) (by decide))
  refine zc_i hG cut1555 (zr_H (n := 4) (As := [.ref (a 0), .int (xs 1), .int (xs 2), .ref o]) (rest := []) hC hG hE hT cut1555 (z_113_told l hst D κ E0 H.size a (xs 1) (xs 2) o ⟨by omega, by omega⟩ ⟨by omega, by omega⟩) w1078 w143 w1080 w1079 (by decide +kernel) ⟨Nat.le_of_ble_eq_true rfl, Nat.le_of_ble_eq_true rfl⟩ rfl hl.1 rfl (Nat.le_of_ble_eq_true rfl) dL_law_1555 ⟨Nat.le_of_ble_eq_true rfl, Nat.le_of_ble_eq_true rfl⟩) (fun z1 H locs hG => ?_)
  have hG : BW D κ (([(b 0, .inr (9, [.int 0, .ref (b 1), .ref (b 2), .ref (b 3), .ref (b 4), .ref (b 5), .ref (b 6), .ref (b 7), .null, .int 0, .int (-1), .int 0, .int 0, .int 0, .ref (b 8)])), (b 1, .inl (κ.1, 4, .inl (fun _ => 1000))), (b 2, .inr (10, [.int 0, .ref E0, .int 0])), (b 3, .inr (10, [.int 0, .ref E0, .int 0])), (b 4, .inr (10, [.int 0, .ref E0, .int 0])), (b 5, .inr (10, [.int 0, .ref E0, .int 0])), (b 6, .inr (10, [.int 0, .ref E0, .int 0])), (b 7, .inr (10, [.int 0, .ref E0, .int 0])), (b 8, .inr (10, [.int 0, .ref E0, .int 0]))]) ++ ([(o, .inl (κ.2.1, 1, .inr (.inl (fun _ => 0))))])) _ s H locs := hG
  refine lv_istore (lv' := [(5, .int 1), (4, .int 0), (3, .ref o), (2, .ref (b 0)), (1, .ref (a 0)), (0, .ref sb)]) hx hb dL_law_1558 hl (by decide) rfl (fun ls hl => ?_)
  refine lv_aload_n hx hb dL_law_1560 rfl (lv_at hl 3 rfl) ?_
  refine lv_aload_n hx hb dL_law_1561 rfl (lv_at hl 5 rfl) ?_
  refine lv_iload hx hb dL_law_1562 (lv_at hl 1 rfl) ?_
  refine lv_iconst (v := 1) hx hb dL_law_1564 (by decide) ?_
  refine lv_iadd hx hb dL_law_1565 ?_
  refine W.eq (g2 := F0 m 1566 ls [.int 1, .ref sb, .ref (b 0)]) rfl ?_
  refine va_sld hx hb hX hbl (Nat.not_le_of_lt hbl) hG.2.2.2.1 (vp_box (by decide) (by rw [hL4]; decide)) dL_law_1566 ?_
  refine W.eq (g2 := F0 m 1567 ls [.int (xs 1), .ref (b 0)]) rfl ?_
  refine lv_aload_n hx hb dL_law_1567 rfl (lv_at hl 5 rfl) ?_
  refine lv_iload hx hb dL_law_1568 (lv_at hl 1 rfl) ?_
  refine lv_iconst (v := 2) hx hb dL_law_1570 (by decide) ?_
  refine lv_iadd hx hb dL_law_1571 ?_
  refine W.eq (g2 := F0 m 1572 ls [.int 2, .ref sb, .int (xs 1), .ref (b 0)]) rfl ?_
  refine va_sld hx hb hX hbl (Nat.not_le_of_lt hbl) hG.2.2.2.1 (vp_box (by decide) (by rw [hL4]; decide)) dL_law_1572 ?_
  refine W.eq (g2 := F0 m 1573 ls [.int (xs 2), .int (xs 1), .ref (b 0)]) rfl ?_
  have cut1573 : Cut (([(b 0, .inr (9, [.int 0, .ref (b 1), .ref (b 2), .ref (b 3), .ref (b 4), .ref (b 5), .ref (b 6), .ref (b 7), .null, .int 0, .int (-1), .int 0, .int 0, .int 0, .ref (b 8)])), (b 1, .inl (κ.1, 4, .inl (fun _ => 1000))), (b 2, .inr (10, [.int 0, .ref E0, .int 0])), (b 3, .inr (10, [.int 0, .ref E0, .int 0])), (b 4, .inr (10, [.int 0, .ref E0, .int 0])), (b 5, .inr (10, [.int 0, .ref E0, .int 0])), (b 6, .inr (10, [.int 0, .ref E0, .int 0])), (b 7, .inr (10, [.int 0, .ref E0, .int 0])), (b 8, .inr (10, [.int 0, .ref E0, .int 0]))]) ++ ([(o, .inl (κ.2.1, 1, .inr (.inl (fun _ => 0))))])) (mw κ b E0 0) ([(o, .inl (κ.2.1, 1, .inr (.inl (fun _ => 0))))]) := (Cut.idx [0, 1, 2, 3, 4, 5, 6, 7, 8] [9] rfl rfl (by decide) (by decide) (by decide))
  refine zc_l hG cut1573 (zr_V (k := 0) (ci := 9) (n := 2) (As := [.int (xs 1), .int (xs 2)]) (rest := []) hC hG hE hT cut1573 (z_114_told l hst D κ E0 H.size b (xs 1) (xs 2) ⟨by omega, by omega⟩ ⟨by omega, by omega⟩) rfl rfl w1089 w5 w1092 w1090 w1091 (by decide +kernel) ⟨Nat.le_of_ble_eq_true rfl, Nat.le_of_ble_eq_true rfl⟩ rfl hl.1 rfl (Nat.le_of_ble_eq_true rfl) dL_law_1573 ⟨Nat.le_of_ble_eq_true rfl, Nat.le_of_ble_eq_true rfl⟩) (fun z2 H locs hG => ?_)
  have hG : BW D κ (([(o, .inl (κ.2.1, 1, .inr (.inl (fun _ => 0))))]) ++ (mw κ b E0 1)) _ s H locs := hG
  refine lv_lstore (lv' := [(6, .long 0), (5, .int 1), (4, .int 0), (3, .ref o), (2, .ref (b 0)), (1, .ref (a 0)), (0, .ref sb)]) hx hb dL_law_1576 hl (by decide) rfl (fun ls hl => ?_)
  refine lv_aload_n hx hb dL_law_1578 rfl (lv_at hl 4 rfl) ?_
  have cut1579 : Cut (([(o, .inl (κ.2.1, 1, .inr (.inl (fun _ => 0))))]) ++ (mw κ b E0 1)) ([(b 0, .inr (9, [.int 1, .ref (b 1), .ref (b 2), .ref (b 3), .ref (b 4), .ref (b 5), .ref (b 6), .ref (b 7), .null, .int 0, .int (-1), .int 0, .int 0, .int 0, .ref (b 8)]))]) ([(o, .inl (κ.2.1, 1, .inr (.inl (fun _ => 0)))), (b 1, .inl (κ.1, 4, .inl (fun _ => 1000))), (b 2, .inr (10, [.int 0, .ref E0, .int 0])), (b 3, .inr (10, [.int 0, .ref E0, .int 0])), (b 4, .inr (10, [.int 0, .ref E0, .int 0])), (b 5, .inr (10, [.int 0, .ref E0, .int 0])), (b 6, .inr (10, [.int 0, .ref E0, .int 0])), (b 7, .inr (10, [.int 0, .ref E0, .int 0])), (b 8, .inr (10, [.int 0, .ref E0, .int 0]))]) := (Cut.idx [1] [0, 2, 3, 4, 5, 6, 7, 8, 9] rfl rfl (by decide) (by decide) (by decide))
  refine zc_i hG cut1579 (zr_V (k := 1) (ci := 9) (n := 0) (As := []) (rest := []) hC hG hE hT cut1579 (z_6_thrown l hst D κ E0 H.size b) rfl rfl w200 w5 w203 w201 w202 (by decide +kernel) ⟨Nat.le_of_ble_eq_true rfl, Nat.le_of_ble_eq_true rfl⟩ rfl hl.1 rfl (Nat.le_of_ble_eq_true rfl) dL_law_1579 ⟨Nat.le_of_ble_eq_true rfl, Nat.le_of_ble_eq_true rfl⟩) (fun z3 H locs hG => ?_)
  have hG : BW D κ (([(o, .inl (κ.2.1, 1, .inr (.inl (fun _ => 0)))), (b 1, .inl (κ.1, 4, .inl (fun _ => 1000))), (b 2, .inr (10, [.int 0, .ref E0, .int 0])), (b 3, .inr (10, [.int 0, .ref E0, .int 0])), (b 4, .inr (10, [.int 0, .ref E0, .int 0])), (b 5, .inr (10, [.int 0, .ref E0, .int 0])), (b 6, .inr (10, [.int 0, .ref E0, .int 0])), (b 7, .inr (10, [.int 0, .ref E0, .int 0])), (b 8, .inr (10, [.int 0, .ref E0, .int 0]))]) ++ ([(b 0, .inr (9, [.int 1, .ref (b 1), .ref (b 2), .ref (b 3), .ref (b 4), .ref (b 5), .ref (b 6), .ref (b 7), .null, .int 0, .int (-1), .int 0, .int 0, .int 0, .ref (b 8)]))])) _ s H locs := hG
  refine lv_iload hx hb dL_law_1582 (lv_at hl 1 rfl) ?_
  refine lv_icmp_eq (tgt := 1589) hx hb dL_law_1584 (by decide) (fun _ => ?_) (fun h1584 => absurd (by decide) h1584)
  refine lv_iload hx hb dL_law_1589 (lv_at hl 1 rfl) ?_
  refine lv_if_ne (tgt := 1605) hx hb dL_law_1591 (by decide) (fun _ => ?_) (fun h1591 => absurd h1591 (by decide))
  refine lv_goto (tgt := 2042) hx hb dL_law_1605 (by decide) ?_
  refine lv_iinc (v := 4) (lv' := [(4, .int 4), (6, .long 0), (5, .int 1), (3, .ref o), (2, .ref (b 0)), (1, .ref (a 0)), (0, .ref sb)]) hx hb dL_law_2042 hl (k := 2) rfl (by decide) (by decide) rfl (fun ls hl => ?_)
  refine lv_goto (tgt := 23) hx hb dL_law_2045 (by decide) ?_
  refine lv_iload hx hb dL_law_23 (lv_at hl 0 rfl) ?_
  refine lv_aload_n hx hb dL_law_25 rfl (lv_at hl 6 rfl) ?_
  refine va_slen hx hb hX hbl (Nat.not_le_of_lt hbl) hG.2.2.2.1 dL_law_26 ?_
  refine W.eq (g2 := F0 m 27 ls [.int 4, .int 4]) (by rw [hL4]; rfl) ?_
  refine lv_iconst (v := 4) hx hb dL_law_27 (by decide) ?_
  refine lv_isub hx hb dL_law_28 ?_
  refine W.eq (g2 := F0 m 29 ls [.int 0, .int 4]) rfl ?_
  refine lv_icmp_gt (tgt := 2048) hx hb dL_law_29 (by decide) (fun _ => ?_) (fun h29 => absurd (by decide) h29)
  refine lv_iconst (v := 1) hx hb dL_law_2048 (by decide) ?_
  refine W.widen (k := 600002) (n := 7302232) (Nat.le_of_ble_eq_true rfl) (Nat.le_of_ble_eq_true rfl) ?_
  refine va_forget (fun q hq => hG.2.2.2.1.2.2 q hq) ?_
  refine W.base ?_
  exact lw_ret (Drawn.sameBut.refl s.drawn lw_cs) hx hb hr hlocks dL_law_2049
theorem dL_law_1608 : decode code 1608 = .ok (.aload_n 1, 1) := by decide +kernel
theorem dL_law_1609 : decode code 1609 = .ok (.aload_n 0, 1) := by decide +kernel
theorem dL_law_1610 : decode code 1610 = .ok (.iload 4, 2) := by decide +kernel
theorem dL_law_1612 : decode code 1612 = .ok (.iconst 1, 1) := by decide +kernel
theorem dL_law_1613 : decode code 1613 = .ok (.iadd, 1) := by decide +kernel
theorem dL_law_1614 : decode code 1614 = .ok (.iaload, 1) := by decide +kernel
theorem dL_law_1615 : decode code 1615 = .ok (.aload_n 0, 1) := by decide +kernel
theorem dL_law_1616 : decode code 1616 = .ok (.iload 4, 2) := by decide +kernel
theorem dL_law_1618 : decode code 1618 = .ok (.iconst 2, 1) := by decide +kernel
theorem dL_law_1619 : decode code 1619 = .ok (.iadd, 1) := by decide +kernel
theorem dL_law_1620 : decode code 1620 = .ok (.iaload, 1) := by decide +kernel
theorem dL_law_1621 : decode code 1621 = .ok (.aload_n 3, 1) := by decide +kernel
theorem dL_law_1622 : decode code 1622 = .ok (.invokestatic 189, 3) := by decide +kernel
theorem dL_law_1625 : decode code 1625 = .ok (.istore 5, 2) := by decide +kernel
theorem dL_law_1627 : decode code 1627 = .ok (.aload_n 2, 1) := by decide +kernel
theorem dL_law_1628 : decode code 1628 = .ok (.aload_n 0, 1) := by decide +kernel
theorem dL_law_1629 : decode code 1629 = .ok (.iload 4, 2) := by decide +kernel
theorem dL_law_1631 : decode code 1631 = .ok (.iconst 1, 1) := by decide +kernel
theorem dL_law_1632 : decode code 1632 = .ok (.iadd, 1) := by decide +kernel
theorem dL_law_1633 : decode code 1633 = .ok (.iaload, 1) := by decide +kernel
theorem dL_law_1634 : decode code 1634 = .ok (.aload_n 0, 1) := by decide +kernel
theorem dL_law_1635 : decode code 1635 = .ok (.iload 4, 2) := by decide +kernel
theorem dL_law_1637 : decode code 1637 = .ok (.iconst 2, 1) := by decide +kernel
theorem dL_law_1638 : decode code 1638 = .ok (.iadd, 1) := by decide +kernel
theorem dL_law_1639 : decode code 1639 = .ok (.iaload, 1) := by decide +kernel
theorem dL_law_1640 : decode code 1640 = .ok (.invokevirtual 191, 3) := by decide +kernel
theorem dL_law_1643 : decode code 1643 = .ok (.lstore 6, 2) := by decide +kernel
theorem dL_law_1645 : decode code 1645 = .ok (.aload_n 2, 1) := by decide +kernel
theorem dL_law_1646 : decode code 1646 = .ok (.invokevirtual 116, 3) := by decide +kernel
theorem dL_law_1649 : decode code 1649 = .ok (.iload 5, 2) := by decide +kernel
theorem dL_law_1651 : decode code 1651 = .ok (.if_icmp .eq 5, 3) := by decide +kernel
theorem dL_law_1656 : decode code 1656 = .ok (.iload 5, 2) := by decide +kernel
theorem dL_law_1658 : decode code 1658 = .ok (.ifCond .ne 14, 3) := by decide +kernel
theorem dL_law_1672 : decode code 1672 = .ok (.goto 370, 3) := by decide +kernel
set_option maxHeartbeats 4000000 in
set_option maxRecDepth 100000 in
theorem leaf_25 {p : Program} {e : Env} {s : State} {m : MethodId} {below : List Frame} {meth : Method} {c : Code} (l : Launch) (hst : l.stackTraces = false) {D : va_G} {κ : K4} {E0 : Nat} {a b : Nat → Nat} {o sb L : Nat} {xs : Nat → Int32} (hC : CallFix p m c code 9 s #[Value.ref sb] WALL RL) (hr : meth.sig.returnType = ret) (hlocks : meth.locks = false) (hX : va_X sb L xs s s.heap) (hbl : sb < s.heap.size) (hL4 : L = 4) (hE : EA E0 D κ (fun q => s.heap.size ≤ q) s s.heap) (hT : ET s) (k_1 : -2147483648 ≤ (xs 1).toInt ∧ (xs 1).toInt ≤ 2147483647) (k_2 : -2147483648 ≤ (xs 2).toInt ∧ (xs 2).toInt ≤ 2147483647) (k_3 : -2147483648 ≤ (xs 3).toInt ∧ (xs 3).toInt ≤ 2147483647) (H : Heap) (locs : List Loc) (hG : BW D κ ((xw κ a ++ [(o, .inl (κ.2.1, 1, .inr (.inl (fun _ => 0))))]) ++ mw κ b E0 0) (fun q => s.heap.size ≤ q) s H locs) (ls : Array Slot) (hl : lv_has ls 9 [(4, .int 0), (3, .ref o), (2, .ref (b 0)), (1, .ref (a 0)), (0, .ref sb)]) : W p l e room_1 s m #[Value.ref sb] below meth c H locs 100 6000 (lw_Z below #[Value.ref sb] s) (F0 m 1608 ls []) := by
  have hx := hC.1
  have hb := hC.2.1
  refine lv_aload_n hx hb dL_law_1608 rfl (lv_at hl 3 rfl) ?_
  refine lv_aload_n hx hb dL_law_1609 rfl (lv_at hl 4 rfl) ?_
  refine lv_iload hx hb dL_law_1610 (lv_at hl 0 rfl) ?_
  refine lv_iconst (v := 1) hx hb dL_law_1612 (by decide) ?_
  refine lv_iadd hx hb dL_law_1613 ?_
  refine W.eq (g2 := F0 m 1614 ls [.int 1, .ref sb, .ref (a 0)]) rfl ?_
  refine va_sld hx hb hX hbl (Nat.not_le_of_lt hbl) hG.2.2.2.1 (vp_box (by decide) (by rw [hL4]; decide)) dL_law_1614 ?_
  refine W.eq (g2 := F0 m 1615 ls [.int (xs 1), .ref (a 0)]) rfl ?_
  refine lv_aload_n hx hb dL_law_1615 rfl (lv_at hl 4 rfl) ?_
  refine lv_iload hx hb dL_law_1616 (lv_at hl 0 rfl) ?_
  refine lv_iconst (v := 2) hx hb dL_law_1618 (by decide) ?_
  refine lv_iadd hx hb dL_law_1619 ?_
  refine W.eq (g2 := F0 m 1620 ls [.int 2, .ref sb, .int (xs 1), .ref (a 0)]) rfl ?_
  refine va_sld hx hb hX hbl (Nat.not_le_of_lt hbl) hG.2.2.2.1 (vp_box (by decide) (by rw [hL4]; decide)) dL_law_1620 ?_
  refine W.eq (g2 := F0 m 1621 ls [.int (xs 2), .int (xs 1), .ref (a 0)]) rfl ?_
  refine lv_aload_n hx hb dL_law_1621 rfl (lv_at hl 1 rfl) ?_
  have cut1622 : Cut ((xw κ a ++ [(o, .inl (κ.2.1, 1, .inr (.inl (fun _ => 0))))]) ++ mw κ b E0 0) ([(a 0, .inr (7, [.ref (a 1), .ref (a 7), .ref (a 12), .ref (a 23), .ref (a 28), .ref (a 33), .ref (a 37), .ref (a 41), .int (-1), .int 0])), (a 1, .inr (0, [.ref (a 2), .ref (a 3), .ref (a 4), .ref (a 5), .ref (a 6), .int 0])), (a 2, .inl (κ.1, 4, .inl (fun _ => 1000))), (a 3, .inl (κ.1, 10, .inl (fun _ => 0))), (a 4, .inl (κ.1, 10, .inl (fun _ => 0))), (a 5, .inl (κ.1, 10, .inl (fun _ => 0))), (a 6, .inl (κ.2.2.1, 10, .inl (fun _ => 0))), (a 7, .inr (1, [.ref (a 8), .int 0, .int 0, .int 0])), (a 8, .inr (4, [.ref (a 9), .ref (a 10), .ref (a 11), .int 0])), (a 9, .inl (κ.1, 10, .inl (fun _ => 0))), (a 10, .inl (κ.2.1, 10, .inr (.inl (fun _ => 0)))), (a 11, .inl (κ.2.1, 10, .inr (.inl (fun _ => 0)))), (a 12, .inr (3, [.ref (a 13), .ref (a 14), .ref (a 15), .ref (a 16), .ref (a 17), .ref (a 18), .int 0, .ref (a 19), .ref (a 20), .ref (a 21), .ref (a 22), .int 0])), (a 13, .inl (κ.1, 60, .inl (fun _ => 0))), (a 14, .inl (κ.1, 60, .inl (fun _ => 0))), (a 15, .inl (κ.1, 60, .inl (fun _ => 0))), (a 16, .inl (κ.1, 60, .inl (fun _ => 0))), (a 17, .inl (κ.2.2.1, 60, .inl (fun _ => 0))), (a 18, .inl (κ.2.2.1, 60, .inl (fun _ => 0))), (a 19, .inl (κ.1, 600, .inl (fun _ => 0))), (a 20, .inl (κ.1, 600, .inl (fun _ => 0))), (a 21, .inl (κ.2.1, 600, .inr (.inl (fun _ => 0)))), (a 22, .inl (κ.2.1, 600, .inr (.inl (fun _ => 0)))), (a 23, .inr (2, [.ref (a 24), .ref (a 25), .ref (a 26), .ref (a 27), .int 0])), (a 24, .inl (κ.1, 20, .inl (fun _ => 0))), (a 25, .inl (κ.1, 20, .inl (fun _ => 0))), (a 26, .inl (κ.1, 20, .inl (fun _ => 0))), (a 27, .inl (κ.2.2.1, 20, .inl (fun _ => 0))), (a 28, .inr (5, [.ref (a 29), .ref (a 30), .ref (a 31), .ref (a 32), .int 0])), (a 29, .inl (κ.1, 40, .inl (fun _ => 0))), (a 30, .inl (κ.1, 40, .inl (fun _ => 0))), (a 31, .inl (κ.1, 40, .inl (fun _ => 0))), (a 32, .inl (κ.1, 40, .inl (fun _ => 0))), (a 33, .inr (6, [.ref (a 12), .ref (a 28), .ref (a 34), .ref (a 35), .ref (a 36)])), (a 34, .inl (κ.1, 600, .inl (fun _ => (-1)))), (a 35, .inl (κ.1, 40, .inl (fun _ => (-1)))), (a 36, .inl (κ.1, 40, .inl (fun _ => (-1)))), (a 37, .inr (6, [.ref (a 12), .ref (a 28), .ref (a 38), .ref (a 39), .ref (a 40)])), (a 38, .inl (κ.1, 600, .inl (fun _ => (-1)))), (a 39, .inl (κ.1, 40, .inl (fun _ => (-1)))), (a 40, .inl (κ.1, 40, .inl (fun _ => (-1)))), (a 41, .inr (4, [.ref (a 42), .ref (a 43), .ref (a 44), .int 0])), (a 42, .inl (κ.1, 10, .inl (fun _ => 0))), (a 43, .inl (κ.2.1, 10, .inr (.inl (fun _ => 0)))), (a 44, .inl (κ.2.1, 10, .inr (.inl (fun _ => 0)))), (o, .inl (κ.2.1, 1, .inr (.inl (fun _ => 0))))]) ([(b 0, .inr (9, [.int 0, .ref (b 1), .ref (b 2), .ref (b 3), .ref (b 4), .ref (b 5), .ref (b 6), .ref (b 7), .null, .int 0, .int (-1), .int 0, .int 0, .int 0, .ref (b 8)])), (b 1, .inl (κ.1, 4, .inl (fun _ => 1000))), (b 2, .inr (10, [.int 0, .ref E0, .int 0])), (b 3, .inr (10, [.int 0, .ref E0, .int 0])), (b 4, .inr (10, [.int 0, .ref E0, .int 0])), (b 5, .inr (10, [.int 0, .ref E0, .int 0])), (b 6, .inr (10, [.int 0, .ref E0, .int 0])), (b 7, .inr (10, [.int 0, .ref E0, .int 0])), (b 8, .inr (10, [.int 0, .ref E0, .int 0]))]) := (Cut.idx [0, 1, 2, 3, 4, 5, 6, 7, 8, 9, 10, 11, 12, 13, 14, 15, 16, 17, 18, 19, 20, 21, 22, 23, 24, 25, 26, 27, 28, 29, 30, 31, 32, 33, 34, 35, 36, 37, 38, 39, 40, 41, 42, 43, 44, 45] [46, 47, 48, 49, 50, 51, 52, 53, 54] rfl rfl (by decide) (by decide) (by decide))
  refine zc_i hG cut1622 (zr_H (n := 4) (As := [.ref (a 0), .int (xs 1), .int (xs 2), .ref o]) (rest := []) hC hG hE hT cut1622 (z_116_at l hst D κ E0 H.size a (xs 1) (xs 2) o ⟨by omega, by omega⟩ ⟨by omega, by omega⟩) w1101 w143 w1103 w1102 (by decide +kernel) ⟨Nat.le_of_ble_eq_true rfl, Nat.le_of_ble_eq_true rfl⟩ rfl hl.1 rfl (Nat.le_of_ble_eq_true rfl) dL_law_1622 ⟨Nat.le_of_ble_eq_true rfl, Nat.le_of_ble_eq_true rfl⟩) (fun z1 H locs hG => ?_)
  have hG : BW D κ (([(b 0, .inr (9, [.int 0, .ref (b 1), .ref (b 2), .ref (b 3), .ref (b 4), .ref (b 5), .ref (b 6), .ref (b 7), .null, .int 0, .int (-1), .int 0, .int 0, .int 0, .ref (b 8)])), (b 1, .inl (κ.1, 4, .inl (fun _ => 1000))), (b 2, .inr (10, [.int 0, .ref E0, .int 0])), (b 3, .inr (10, [.int 0, .ref E0, .int 0])), (b 4, .inr (10, [.int 0, .ref E0, .int 0])), (b 5, .inr (10, [.int 0, .ref E0, .int 0])), (b 6, .inr (10, [.int 0, .ref E0, .int 0])), (b 7, .inr (10, [.int 0, .ref E0, .int 0])), (b 8, .inr (10, [.int 0, .ref E0, .int 0]))]) ++ ([(o, .inl (κ.2.1, 1, .inr (.inl (fun _ => 0))))])) _ s H locs := hG
  refine lv_istore (lv' := [(5, .int 1), (4, .int 0), (3, .ref o), (2, .ref (b 0)), (1, .ref (a 0)), (0, .ref sb)]) hx hb dL_law_1625 hl (by decide) rfl (fun ls hl => ?_)
  refine lv_aload_n hx hb dL_law_1627 rfl (lv_at hl 3 rfl) ?_
  refine lv_aload_n hx hb dL_law_1628 rfl (lv_at hl 5 rfl) ?_
  refine lv_iload hx hb dL_law_1629 (lv_at hl 1 rfl) ?_
  refine lv_iconst (v := 1) hx hb dL_law_1631 (by decide) ?_
  refine lv_iadd hx hb dL_law_1632 ?_
  refine W.eq (g2 := F0 m 1633 ls [.int 1, .ref sb, .ref (b 0)]) rfl ?_
  refine va_sld hx hb hX hbl (Nat.not_le_of_lt hbl) hG.2.2.2.1 (vp_box (by decide) (by rw [hL4]; decide)) dL_law_1633 ?_
  refine W.eq (g2 := F0 m 1634 ls [.int (xs 1), .ref (b 0)]) rfl ?_
  refine lv_aload_n hx hb dL_law_1634 rfl (lv_at hl 5 rfl) ?_
  refine lv_iload hx hb dL_law_1635 (lv_at hl 1 rfl) ?_
  refine lv_iconst (v := 2) hx hb dL_law_1637 (by decide) ?_
  refine lv_iadd hx hb dL_law_1638 ?_
  refine W.eq (g2 := F0 m 1639 ls [.int 2, .ref sb, .int (xs 1), .ref (b 0)]) rfl ?_
  refine va_sld hx hb hX hbl (Nat.not_le_of_lt hbl) hG.2.2.2.1 (vp_box (by decide) (by rw [hL4]; decide)) dL_law_1639 ?_
  refine W.eq (g2 := F0 m 1640 ls [.int (xs 2), .int (xs 1), .ref (b 0)]) rfl ?_
  have cut1640 : Cut (([(b 0, .inr (9, [.int 0, .ref (b 1), .ref (b 2), .ref (b 3), .ref (b 4), .ref (b 5), .ref (b 6), .ref (b 7), .null, .int 0, .int (-1), .int 0, .int 0, .int 0, .ref (b 8)])), (b 1, .inl (κ.1, 4, .inl (fun _ => 1000))), (b 2, .inr (10, [.int 0, .ref E0, .int 0])), (b 3, .inr (10, [.int 0, .ref E0, .int 0])), (b 4, .inr (10, [.int 0, .ref E0, .int 0])), (b 5, .inr (10, [.int 0, .ref E0, .int 0])), (b 6, .inr (10, [.int 0, .ref E0, .int 0])), (b 7, .inr (10, [.int 0, .ref E0, .int 0])), (b 8, .inr (10, [.int 0, .ref E0, .int 0]))]) ++ ([(o, .inl (κ.2.1, 1, .inr (.inl (fun _ => 0))))])) (mw κ b E0 0) ([(o, .inl (κ.2.1, 1, .inr (.inl (fun _ => 0))))]) := (Cut.idx [0, 1, 2, 3, 4, 5, 6, 7, 8] [9] rfl rfl (by decide) (by decide) (by decide))
  refine zc_l hG cut1640 (zr_V (k := 0) (ci := 9) (n := 2) (As := [.int (xs 1), .int (xs 2)]) (rest := []) hC hG hE hT cut1640 (z_117_at l hst D κ E0 H.size b (xs 1) (xs 2) ⟨by omega, by omega⟩ ⟨by omega, by omega⟩) rfl rfl w1108 w5 w1111 w1109 w1110 (by decide +kernel) ⟨Nat.le_of_ble_eq_true rfl, Nat.le_of_ble_eq_true rfl⟩ rfl hl.1 rfl (Nat.le_of_ble_eq_true rfl) dL_law_1640 ⟨Nat.le_of_ble_eq_true rfl, Nat.le_of_ble_eq_true rfl⟩) (fun z2 H locs hG => ?_)
  have hG : BW D κ (([(o, .inl (κ.2.1, 1, .inr (.inl (fun _ => 0))))]) ++ (mw κ b E0 1)) _ s H locs := hG
  refine lv_lstore (lv' := [(6, .long 0), (5, .int 1), (4, .int 0), (3, .ref o), (2, .ref (b 0)), (1, .ref (a 0)), (0, .ref sb)]) hx hb dL_law_1643 hl (by decide) rfl (fun ls hl => ?_)
  refine lv_aload_n hx hb dL_law_1645 rfl (lv_at hl 4 rfl) ?_
  have cut1646 : Cut (([(o, .inl (κ.2.1, 1, .inr (.inl (fun _ => 0))))]) ++ (mw κ b E0 1)) ([(b 0, .inr (9, [.int 1, .ref (b 1), .ref (b 2), .ref (b 3), .ref (b 4), .ref (b 5), .ref (b 6), .ref (b 7), .null, .int 0, .int (-1), .int 0, .int 0, .int 0, .ref (b 8)]))]) ([(o, .inl (κ.2.1, 1, .inr (.inl (fun _ => 0)))), (b 1, .inl (κ.1, 4, .inl (fun _ => 1000))), (b 2, .inr (10, [.int 0, .ref E0, .int 0])), (b 3, .inr (10, [.int 0, .ref E0, .int 0])), (b 4, .inr (10, [.int 0, .ref E0, .int 0])), (b 5, .inr (10, [.int 0, .ref E0, .int 0])), (b 6, .inr (10, [.int 0, .ref E0, .int 0])), (b 7, .inr (10, [.int 0, .ref E0, .int 0])), (b 8, .inr (10, [.int 0, .ref E0, .int 0]))]) := (Cut.idx [1] [0, 2, 3, 4, 5, 6, 7, 8, 9] rfl rfl (by decide) (by decide) (by decide))
  refine zc_i hG cut1646 (zr_V (k := 1) (ci := 9) (n := 0) (As := []) (rest := []) hC hG hE hT cut1646 (z_6_thrown l hst D κ E0 H.size b) rfl rfl w200 w5 w203 w201 w202 (by decide +kernel) ⟨Nat.le_of_ble_eq_true rfl, Nat.le_of_ble_eq_true rfl⟩ rfl hl.1 rfl (Nat.le_of_ble_eq_true rfl) dL_law_1646 ⟨Nat.le_of_ble_eq_true rfl, Nat.le_of_ble_eq_true rfl⟩) (fun z3 H locs hG => ?_)
  have hG : BW D κ (([(o, .inl (κ.2.1, 1, .inr (.inl (fun _ => 0)))), (b 1, .inl (κ.1, 4, .inl (fun _ => 1000))), (b 2, .inr (10, [.int 0, .ref E0, .int 0])), (b 3, .inr (10, [.int 0, .ref E0, .int 0])), (b 4, .inr (10, [.int 0, .ref E0, .int 0])), (b 5, .inr (10, [.int 0, .ref E0, .int 0])), (b 6, .inr (10, [.int 0, .ref E0, .int 0])), (b 7, .inr (10, [.int 0, .ref E0, .int 0])), (b 8, .inr (10, [.int 0, .ref E0, .int 0]))]) ++ ([(b 0, .inr (9, [.int 1, .ref (b 1), .ref (b 2), .ref (b 3), .ref (b 4), .ref (b 5), .ref (b 6), .ref (b 7), .null, .int 0, .int (-1), .int 0, .int 0, .int 0, .ref (b 8)]))])) _ s H locs := hG
  refine lv_iload hx hb dL_law_1649 (lv_at hl 1 rfl) ?_
  refine lv_icmp_eq (tgt := 1656) hx hb dL_law_1651 (by decide) (fun _ => ?_) (fun h1651 => absurd (by decide) h1651)
  refine lv_iload hx hb dL_law_1656 (lv_at hl 1 rfl) ?_
  refine lv_if_ne (tgt := 1672) hx hb dL_law_1658 (by decide) (fun _ => ?_) (fun h1658 => absurd h1658 (by decide))
  refine lv_goto (tgt := 2042) hx hb dL_law_1672 (by decide) ?_
  refine lv_iinc (v := 4) (lv' := [(4, .int 4), (6, .long 0), (5, .int 1), (3, .ref o), (2, .ref (b 0)), (1, .ref (a 0)), (0, .ref sb)]) hx hb dL_law_2042 hl (k := 2) rfl (by decide) (by decide) rfl (fun ls hl => ?_)
  refine lv_goto (tgt := 23) hx hb dL_law_2045 (by decide) ?_
  refine lv_iload hx hb dL_law_23 (lv_at hl 0 rfl) ?_
  refine lv_aload_n hx hb dL_law_25 rfl (lv_at hl 6 rfl) ?_
  refine va_slen hx hb hX hbl (Nat.not_le_of_lt hbl) hG.2.2.2.1 dL_law_26 ?_
  refine W.eq (g2 := F0 m 27 ls [.int 4, .int 4]) (by rw [hL4]; rfl) ?_
  refine lv_iconst (v := 4) hx hb dL_law_27 (by decide) ?_
  refine lv_isub hx hb dL_law_28 ?_
  refine W.eq (g2 := F0 m 29 ls [.int 0, .int 4]) rfl ?_
  refine lv_icmp_gt (tgt := 2048) hx hb dL_law_29 (by decide) (fun _ => ?_) (fun h29 => absurd (by decide) h29)
  refine lv_iconst (v := 1) hx hb dL_law_2048 (by decide) ?_
  refine W.widen (k := 600002) (n := 7302232) (Nat.le_of_ble_eq_true rfl) (Nat.le_of_ble_eq_true rfl) ?_
  refine va_forget (fun q hq => hG.2.2.2.1.2.2 q hq) ?_
  refine W.base ?_
  exact lw_ret (Drawn.sameBut.refl s.drawn lw_cs) hx hb hr hlocks dL_law_2049
theorem dL_law_1797 : decode code 1797 = .ok (.aload_n 1, 1) := by decide +kernel
theorem dL_law_1798 : decode code 1798 = .ok (.aload_n 0, 1) := by decide +kernel
theorem dL_law_1799 : decode code 1799 = .ok (.iload 4, 2) := by decide +kernel
theorem dL_law_1801 : decode code 1801 = .ok (.iconst 1, 1) := by decide +kernel
theorem dL_law_1802 : decode code 1802 = .ok (.iadd, 1) := by decide +kernel
theorem dL_law_1803 : decode code 1803 = .ok (.iaload, 1) := by decide +kernel
theorem dL_law_1804 : decode code 1804 = .ok (.aload_n 0, 1) := by decide +kernel
theorem dL_law_1805 : decode code 1805 = .ok (.iload 4, 2) := by decide +kernel
theorem dL_law_1807 : decode code 1807 = .ok (.iconst 2, 1) := by decide +kernel
theorem dL_law_1808 : decode code 1808 = .ok (.iadd, 1) := by decide +kernel
theorem dL_law_1809 : decode code 1809 = .ok (.iaload, 1) := by decide +kernel
theorem dL_law_1810 : decode code 1810 = .ok (.aload_n 3, 1) := by decide +kernel
theorem dL_law_1811 : decode code 1811 = .ok (.invokestatic 198, 3) := by decide +kernel
theorem dL_law_1814 : decode code 1814 = .ok (.istore 5, 2) := by decide +kernel
theorem dL_law_1816 : decode code 1816 = .ok (.aload_n 2, 1) := by decide +kernel
theorem dL_law_1817 : decode code 1817 = .ok (.aload_n 0, 1) := by decide +kernel
theorem dL_law_1818 : decode code 1818 = .ok (.iload 4, 2) := by decide +kernel
theorem dL_law_1820 : decode code 1820 = .ok (.iconst 1, 1) := by decide +kernel
theorem dL_law_1821 : decode code 1821 = .ok (.iadd, 1) := by decide +kernel
theorem dL_law_1822 : decode code 1822 = .ok (.iaload, 1) := by decide +kernel
theorem dL_law_1823 : decode code 1823 = .ok (.aload_n 0, 1) := by decide +kernel
theorem dL_law_1824 : decode code 1824 = .ok (.iload 4, 2) := by decide +kernel
theorem dL_law_1826 : decode code 1826 = .ok (.iconst 2, 1) := by decide +kernel
theorem dL_law_1827 : decode code 1827 = .ok (.iadd, 1) := by decide +kernel
theorem dL_law_1828 : decode code 1828 = .ok (.iaload, 1) := by decide +kernel
theorem dL_law_1829 : decode code 1829 = .ok (.invokevirtual 200, 3) := by decide +kernel
theorem dL_law_1832 : decode code 1832 = .ok (.lstore 6, 2) := by decide +kernel
theorem dL_law_1834 : decode code 1834 = .ok (.aload_n 2, 1) := by decide +kernel
theorem dL_law_1835 : decode code 1835 = .ok (.invokevirtual 116, 3) := by decide +kernel
theorem dL_law_1838 : decode code 1838 = .ok (.iload 5, 2) := by decide +kernel
theorem dL_law_1840 : decode code 1840 = .ok (.if_icmp .eq 5, 3) := by decide +kernel
theorem dL_law_1845 : decode code 1845 = .ok (.iload 5, 2) := by decide +kernel
theorem dL_law_1847 : decode code 1847 = .ok (.ifCond .ne 14, 3) := by decide +kernel
theorem dL_law_1861 : decode code 1861 = .ok (.goto 181, 3) := by decide +kernel
set_option maxHeartbeats 4000000 in
set_option maxRecDepth 100000 in
theorem leaf_26 {p : Program} {e : Env} {s : State} {m : MethodId} {below : List Frame} {meth : Method} {c : Code} (l : Launch) (hst : l.stackTraces = false) {D : va_G} {κ : K4} {E0 : Nat} {a b : Nat → Nat} {o sb L : Nat} {xs : Nat → Int32} (hC : CallFix p m c code 9 s #[Value.ref sb] WALL RL) (hr : meth.sig.returnType = ret) (hlocks : meth.locks = false) (hX : va_X sb L xs s s.heap) (hbl : sb < s.heap.size) (hL4 : L = 4) (hE : EA E0 D κ (fun q => s.heap.size ≤ q) s s.heap) (hT : ET s) (k_1 : -2147483648 ≤ (xs 1).toInt ∧ (xs 1).toInt ≤ 2147483647) (k_2 : -2147483648 ≤ (xs 2).toInt ∧ (xs 2).toInt ≤ 2147483647) (k_3 : -2147483648 ≤ (xs 3).toInt ∧ (xs 3).toInt ≤ 2147483647) (H : Heap) (locs : List Loc) (hG : BW D κ ((xw κ a ++ [(o, .inl (κ.2.1, 1, .inr (.inl (fun _ => 0))))]) ++ mw κ b E0 0) (fun q => s.heap.size ≤ q) s H locs) (ls : Array Slot) (hl : lv_has ls 9 [(4, .int 0), (3, .ref o), (2, .ref (b 0)), (1, .ref (a 0)), (0, .ref sb)]) : W p l e room_1 s m #[Value.ref sb] below meth c H locs 100 6000 (lw_Z below #[Value.ref sb] s) (F0 m 1797 ls []) := by
  have hx := hC.1
  have hb := hC.2.1
  refine lv_aload_n hx hb dL_law_1797 rfl (lv_at hl 3 rfl) ?_
  refine lv_aload_n hx hb dL_law_1798 rfl (lv_at hl 4 rfl) ?_
  refine lv_iload hx hb dL_law_1799 (lv_at hl 0 rfl) ?_
  refine lv_iconst (v := 1) hx hb dL_law_1801 (by decide) ?_
  refine lv_iadd hx hb dL_law_1802 ?_
  refine W.eq (g2 := F0 m 1803 ls [.int 1, .ref sb, .ref (a 0)]) rfl ?_
  refine va_sld hx hb hX hbl (Nat.not_le_of_lt hbl) hG.2.2.2.1 (vp_box (by decide) (by rw [hL4]; decide)) dL_law_1803 ?_
  refine W.eq (g2 := F0 m 1804 ls [.int (xs 1), .ref (a 0)]) rfl ?_
  refine lv_aload_n hx hb dL_law_1804 rfl (lv_at hl 4 rfl) ?_
  refine lv_iload hx hb dL_law_1805 (lv_at hl 0 rfl) ?_
  refine lv_iconst (v := 2) hx hb dL_law_1807 (by decide) ?_
  refine lv_iadd hx hb dL_law_1808 ?_
  refine W.eq (g2 := F0 m 1809 ls [.int 2, .ref sb, .int (xs 1), .ref (a 0)]) rfl ?_
  refine va_sld hx hb hX hbl (Nat.not_le_of_lt hbl) hG.2.2.2.1 (vp_box (by decide) (by rw [hL4]; decide)) dL_law_1809 ?_
  refine W.eq (g2 := F0 m 1810 ls [.int (xs 2), .int (xs 1), .ref (a 0)]) rfl ?_
  refine lv_aload_n hx hb dL_law_1810 rfl (lv_at hl 1 rfl) ?_
  have cut1811 : Cut ((xw κ a ++ [(o, .inl (κ.2.1, 1, .inr (.inl (fun _ => 0))))]) ++ mw κ b E0 0) ([(a 0, .inr (7, [.ref (a 1), .ref (a 7), .ref (a 12), .ref (a 23), .ref (a 28), .ref (a 33), .ref (a 37), .ref (a 41), .int (-1), .int 0])), (a 1, .inr (0, [.ref (a 2), .ref (a 3), .ref (a 4), .ref (a 5), .ref (a 6), .int 0])), (a 2, .inl (κ.1, 4, .inl (fun _ => 1000))), (a 3, .inl (κ.1, 10, .inl (fun _ => 0))), (a 4, .inl (κ.1, 10, .inl (fun _ => 0))), (a 5, .inl (κ.1, 10, .inl (fun _ => 0))), (a 6, .inl (κ.2.2.1, 10, .inl (fun _ => 0))), (a 7, .inr (1, [.ref (a 8), .int 0, .int 0, .int 0])), (a 8, .inr (4, [.ref (a 9), .ref (a 10), .ref (a 11), .int 0])), (a 9, .inl (κ.1, 10, .inl (fun _ => 0))), (a 10, .inl (κ.2.1, 10, .inr (.inl (fun _ => 0)))), (a 11, .inl (κ.2.1, 10, .inr (.inl (fun _ => 0)))), (a 12, .inr (3, [.ref (a 13), .ref (a 14), .ref (a 15), .ref (a 16), .ref (a 17), .ref (a 18), .int 0, .ref (a 19), .ref (a 20), .ref (a 21), .ref (a 22), .int 0])), (a 13, .inl (κ.1, 60, .inl (fun _ => 0))), (a 14, .inl (κ.1, 60, .inl (fun _ => 0))), (a 15, .inl (κ.1, 60, .inl (fun _ => 0))), (a 16, .inl (κ.1, 60, .inl (fun _ => 0))), (a 17, .inl (κ.2.2.1, 60, .inl (fun _ => 0))), (a 18, .inl (κ.2.2.1, 60, .inl (fun _ => 0))), (a 19, .inl (κ.1, 600, .inl (fun _ => 0))), (a 20, .inl (κ.1, 600, .inl (fun _ => 0))), (a 21, .inl (κ.2.1, 600, .inr (.inl (fun _ => 0)))), (a 22, .inl (κ.2.1, 600, .inr (.inl (fun _ => 0)))), (a 23, .inr (2, [.ref (a 24), .ref (a 25), .ref (a 26), .ref (a 27), .int 0])), (a 24, .inl (κ.1, 20, .inl (fun _ => 0))), (a 25, .inl (κ.1, 20, .inl (fun _ => 0))), (a 26, .inl (κ.1, 20, .inl (fun _ => 0))), (a 27, .inl (κ.2.2.1, 20, .inl (fun _ => 0))), (a 28, .inr (5, [.ref (a 29), .ref (a 30), .ref (a 31), .ref (a 32), .int 0])), (a 29, .inl (κ.1, 40, .inl (fun _ => 0))), (a 30, .inl (κ.1, 40, .inl (fun _ => 0))), (a 31, .inl (κ.1, 40, .inl (fun _ => 0))), (a 32, .inl (κ.1, 40, .inl (fun _ => 0))), (a 33, .inr (6, [.ref (a 12), .ref (a 28), .ref (a 34), .ref (a 35), .ref (a 36)])), (a 34, .inl (κ.1, 600, .inl (fun _ => (-1)))), (a 35, .inl (κ.1, 40, .inl (fun _ => (-1)))), (a 36, .inl (κ.1, 40, .inl (fun _ => (-1)))), (a 37, .inr (6, [.ref (a 12), .ref (a 28), .ref (a 38), .ref (a 39), .ref (a 40)])), (a 38, .inl (κ.1, 600, .inl (fun _ => (-1)))), (a 39, .inl (κ.1, 40, .inl (fun _ => (-1)))), (a 40, .inl (κ.1, 40, .inl (fun _ => (-1)))), (a 41, .inr (4, [.ref (a 42), .ref (a 43), .ref (a 44), .int 0])), (a 42, .inl (κ.1, 10, .inl (fun _ => 0))), (a 43, .inl (κ.2.1, 10, .inr (.inl (fun _ => 0)))), (a 44, .inl (κ.2.1, 10, .inr (.inl (fun _ => 0)))), (o, .inl (κ.2.1, 1, .inr (.inl (fun _ => 0))))]) ([(b 0, .inr (9, [.int 0, .ref (b 1), .ref (b 2), .ref (b 3), .ref (b 4), .ref (b 5), .ref (b 6), .ref (b 7), .null, .int 0, .int (-1), .int 0, .int 0, .int 0, .ref (b 8)])), (b 1, .inl (κ.1, 4, .inl (fun _ => 1000))), (b 2, .inr (10, [.int 0, .ref E0, .int 0])), (b 3, .inr (10, [.int 0, .ref E0, .int 0])), (b 4, .inr (10, [.int 0, .ref E0, .int 0])), (b 5, .inr (10, [.int 0, .ref E0, .int 0])), (b 6, .inr (10, [.int 0, .ref E0, .int 0])), (b 7, .inr (10, [.int 0, .ref E0, .int 0])), (b 8, .inr (10, [.int 0, .ref E0, .int 0]))]) := (Cut.idx [0, 1, 2, 3, 4, 5, 6, 7, 8, 9, 10, 11, 12, 13, 14, 15, 16, 17, 18, 19, 20, 21, 22, 23, 24, 25, 26, 27, 28, 29, 30, 31, 32, 33, 34, 35, 36, 37, 38, 39, 40, 41, 42, 43, 44, 45] [46, 47, 48, 49, 50, 51, 52, 53, 54] rfl rfl (by decide) (by decide) (by decide))
  refine zc_i hG cut1811 (zr_H (n := 4) (As := [.ref (a 0), .int (xs 1), .int (xs 2), .ref o]) (rest := []) hC hG hE hT cut1811 (z_119_hadOn l hst D κ E0 H.size a (xs 1) (xs 2) o ⟨by omega, by omega⟩ ⟨by omega, by omega⟩) w1145 w143 w1147 w1146 (by decide +kernel) ⟨Nat.le_of_ble_eq_true rfl, Nat.le_of_ble_eq_true rfl⟩ rfl hl.1 rfl (Nat.le_of_ble_eq_true rfl) dL_law_1811 ⟨Nat.le_of_ble_eq_true rfl, Nat.le_of_ble_eq_true rfl⟩) (fun z1 H locs hG => ?_)
  have hG : BW D κ (([(b 0, .inr (9, [.int 0, .ref (b 1), .ref (b 2), .ref (b 3), .ref (b 4), .ref (b 5), .ref (b 6), .ref (b 7), .null, .int 0, .int (-1), .int 0, .int 0, .int 0, .ref (b 8)])), (b 1, .inl (κ.1, 4, .inl (fun _ => 1000))), (b 2, .inr (10, [.int 0, .ref E0, .int 0])), (b 3, .inr (10, [.int 0, .ref E0, .int 0])), (b 4, .inr (10, [.int 0, .ref E0, .int 0])), (b 5, .inr (10, [.int 0, .ref E0, .int 0])), (b 6, .inr (10, [.int 0, .ref E0, .int 0])), (b 7, .inr (10, [.int 0, .ref E0, .int 0])), (b 8, .inr (10, [.int 0, .ref E0, .int 0]))]) ++ ([(o, .inl (κ.2.1, 1, .inr (.inl (fun _ => 0))))])) _ s H locs := hG
  refine lv_istore (lv' := [(5, .int 1), (4, .int 0), (3, .ref o), (2, .ref (b 0)), (1, .ref (a 0)), (0, .ref sb)]) hx hb dL_law_1814 hl (by decide) rfl (fun ls hl => ?_)
  refine lv_aload_n hx hb dL_law_1816 rfl (lv_at hl 3 rfl) ?_
  refine lv_aload_n hx hb dL_law_1817 rfl (lv_at hl 5 rfl) ?_
  refine lv_iload hx hb dL_law_1818 (lv_at hl 1 rfl) ?_
  refine lv_iconst (v := 1) hx hb dL_law_1820 (by decide) ?_
  refine lv_iadd hx hb dL_law_1821 ?_
  refine W.eq (g2 := F0 m 1822 ls [.int 1, .ref sb, .ref (b 0)]) rfl ?_
  refine va_sld hx hb hX hbl (Nat.not_le_of_lt hbl) hG.2.2.2.1 (vp_box (by decide) (by rw [hL4]; decide)) dL_law_1822 ?_
  refine W.eq (g2 := F0 m 1823 ls [.int (xs 1), .ref (b 0)]) rfl ?_
  refine lv_aload_n hx hb dL_law_1823 rfl (lv_at hl 5 rfl) ?_
  refine lv_iload hx hb dL_law_1824 (lv_at hl 1 rfl) ?_
  refine lv_iconst (v := 2) hx hb dL_law_1826 (by decide) ?_
  refine lv_iadd hx hb dL_law_1827 ?_
  refine W.eq (g2 := F0 m 1828 ls [.int 2, .ref sb, .int (xs 1), .ref (b 0)]) rfl ?_
  refine va_sld hx hb hX hbl (Nat.not_le_of_lt hbl) hG.2.2.2.1 (vp_box (by decide) (by rw [hL4]; decide)) dL_law_1828 ?_
  refine W.eq (g2 := F0 m 1829 ls [.int (xs 2), .int (xs 1), .ref (b 0)]) rfl ?_
  have cut1829 : Cut (([(b 0, .inr (9, [.int 0, .ref (b 1), .ref (b 2), .ref (b 3), .ref (b 4), .ref (b 5), .ref (b 6), .ref (b 7), .null, .int 0, .int (-1), .int 0, .int 0, .int 0, .ref (b 8)])), (b 1, .inl (κ.1, 4, .inl (fun _ => 1000))), (b 2, .inr (10, [.int 0, .ref E0, .int 0])), (b 3, .inr (10, [.int 0, .ref E0, .int 0])), (b 4, .inr (10, [.int 0, .ref E0, .int 0])), (b 5, .inr (10, [.int 0, .ref E0, .int 0])), (b 6, .inr (10, [.int 0, .ref E0, .int 0])), (b 7, .inr (10, [.int 0, .ref E0, .int 0])), (b 8, .inr (10, [.int 0, .ref E0, .int 0]))]) ++ ([(o, .inl (κ.2.1, 1, .inr (.inl (fun _ => 0))))])) (mw κ b E0 0) ([(o, .inl (κ.2.1, 1, .inr (.inl (fun _ => 0))))]) := (Cut.idx [0, 1, 2, 3, 4, 5, 6, 7, 8] [9] rfl rfl (by decide) (by decide) (by decide))
  refine zc_l hG cut1829 (zr_V (k := 0) (ci := 9) (n := 2) (As := [.int (xs 1), .int (xs 2)]) (rest := []) hC hG hE hT cut1829 (z_120_hadOn l hst D κ E0 H.size b (xs 1) (xs 2) ⟨by omega, by omega⟩ ⟨by omega, by omega⟩) rfl rfl w1152 w5 w1155 w1153 w1154 (by decide +kernel) ⟨Nat.le_of_ble_eq_true rfl, Nat.le_of_ble_eq_true rfl⟩ rfl hl.1 rfl (Nat.le_of_ble_eq_true rfl) dL_law_1829 ⟨Nat.le_of_ble_eq_true rfl, Nat.le_of_ble_eq_true rfl⟩) (fun z2 H locs hG => ?_)
  have hG : BW D κ (([(o, .inl (κ.2.1, 1, .inr (.inl (fun _ => 0))))]) ++ (mw κ b E0 1)) _ s H locs := hG
  refine lv_lstore (lv' := [(6, .long 0), (5, .int 1), (4, .int 0), (3, .ref o), (2, .ref (b 0)), (1, .ref (a 0)), (0, .ref sb)]) hx hb dL_law_1832 hl (by decide) rfl (fun ls hl => ?_)
  refine lv_aload_n hx hb dL_law_1834 rfl (lv_at hl 4 rfl) ?_
  have cut1835 : Cut (([(o, .inl (κ.2.1, 1, .inr (.inl (fun _ => 0))))]) ++ (mw κ b E0 1)) ([(b 0, .inr (9, [.int 1, .ref (b 1), .ref (b 2), .ref (b 3), .ref (b 4), .ref (b 5), .ref (b 6), .ref (b 7), .null, .int 0, .int (-1), .int 0, .int 0, .int 0, .ref (b 8)]))]) ([(o, .inl (κ.2.1, 1, .inr (.inl (fun _ => 0)))), (b 1, .inl (κ.1, 4, .inl (fun _ => 1000))), (b 2, .inr (10, [.int 0, .ref E0, .int 0])), (b 3, .inr (10, [.int 0, .ref E0, .int 0])), (b 4, .inr (10, [.int 0, .ref E0, .int 0])), (b 5, .inr (10, [.int 0, .ref E0, .int 0])), (b 6, .inr (10, [.int 0, .ref E0, .int 0])), (b 7, .inr (10, [.int 0, .ref E0, .int 0])), (b 8, .inr (10, [.int 0, .ref E0, .int 0]))]) := (Cut.idx [1] [0, 2, 3, 4, 5, 6, 7, 8, 9] rfl rfl (by decide) (by decide) (by decide))
  refine zc_i hG cut1835 (zr_V (k := 1) (ci := 9) (n := 0) (As := []) (rest := []) hC hG hE hT cut1835 (z_6_thrown l hst D κ E0 H.size b) rfl rfl w200 w5 w203 w201 w202 (by decide +kernel) ⟨Nat.le_of_ble_eq_true rfl, Nat.le_of_ble_eq_true rfl⟩ rfl hl.1 rfl (Nat.le_of_ble_eq_true rfl) dL_law_1835 ⟨Nat.le_of_ble_eq_true rfl, Nat.le_of_ble_eq_true rfl⟩) (fun z3 H locs hG => ?_)
  have hG : BW D κ (([(o, .inl (κ.2.1, 1, .inr (.inl (fun _ => 0)))), (b 1, .inl (κ.1, 4, .inl (fun _ => 1000))), (b 2, .inr (10, [.int 0, .ref E0, .int 0])), (b 3, .inr (10, [.int 0, .ref E0, .int 0])), (b 4, .inr (10, [.int 0, .ref E0, .int 0])), (b 5, .inr (10, [.int 0, .ref E0, .int 0])), (b 6, .inr (10, [.int 0, .ref E0, .int 0])), (b 7, .inr (10, [.int 0, .ref E0, .int 0])), (b 8, .inr (10, [.int 0, .ref E0, .int 0]))]) ++ ([(b 0, .inr (9, [.int 1, .ref (b 1), .ref (b 2), .ref (b 3), .ref (b 4), .ref (b 5), .ref (b 6), .ref (b 7), .null, .int 0, .int (-1), .int 0, .int 0, .int 0, .ref (b 8)]))])) _ s H locs := hG
  refine lv_iload hx hb dL_law_1838 (lv_at hl 1 rfl) ?_
  refine lv_icmp_eq (tgt := 1845) hx hb dL_law_1840 (by decide) (fun _ => ?_) (fun h1840 => absurd (by decide) h1840)
  refine lv_iload hx hb dL_law_1845 (lv_at hl 1 rfl) ?_
  refine lv_if_ne (tgt := 1861) hx hb dL_law_1847 (by decide) (fun _ => ?_) (fun h1847 => absurd h1847 (by decide))
  refine lv_goto (tgt := 2042) hx hb dL_law_1861 (by decide) ?_
  refine lv_iinc (v := 4) (lv' := [(4, .int 4), (6, .long 0), (5, .int 1), (3, .ref o), (2, .ref (b 0)), (1, .ref (a 0)), (0, .ref sb)]) hx hb dL_law_2042 hl (k := 2) rfl (by decide) (by decide) rfl (fun ls hl => ?_)
  refine lv_goto (tgt := 23) hx hb dL_law_2045 (by decide) ?_
  refine lv_iload hx hb dL_law_23 (lv_at hl 0 rfl) ?_
  refine lv_aload_n hx hb dL_law_25 rfl (lv_at hl 6 rfl) ?_
  refine va_slen hx hb hX hbl (Nat.not_le_of_lt hbl) hG.2.2.2.1 dL_law_26 ?_
  refine W.eq (g2 := F0 m 27 ls [.int 4, .int 4]) (by rw [hL4]; rfl) ?_
  refine lv_iconst (v := 4) hx hb dL_law_27 (by decide) ?_
  refine lv_isub hx hb dL_law_28 ?_
  refine W.eq (g2 := F0 m 29 ls [.int 0, .int 4]) rfl ?_
  refine lv_icmp_gt (tgt := 2048) hx hb dL_law_29 (by decide) (fun _ => ?_) (fun h29 => absurd (by decide) h29)
  refine lv_iconst (v := 1) hx hb dL_law_2048 (by decide) ?_
  refine W.widen (k := 600002) (n := 7302232) (Nat.le_of_ble_eq_true rfl) (Nat.le_of_ble_eq_true rfl) ?_
  refine va_forget (fun q hq => hG.2.2.2.1.2.2 q hq) ?_
  refine W.base ?_
  exact lw_ret (Drawn.sameBut.refl s.drawn lw_cs) hx hb hr hlocks dL_law_2049
theorem dL_law_1864 : decode code 1864 = .ok (.aload_n 1, 1) := by decide +kernel
theorem dL_law_1865 : decode code 1865 = .ok (.aload_n 0, 1) := by decide +kernel
theorem dL_law_1866 : decode code 1866 = .ok (.iload 4, 2) := by decide +kernel
theorem dL_law_1868 : decode code 1868 = .ok (.iconst 1, 1) := by decide +kernel
theorem dL_law_1869 : decode code 1869 = .ok (.iadd, 1) := by decide +kernel
theorem dL_law_1870 : decode code 1870 = .ok (.iaload, 1) := by decide +kernel
theorem dL_law_1871 : decode code 1871 = .ok (.aload_n 0, 1) := by decide +kernel
theorem dL_law_1872 : decode code 1872 = .ok (.iload 4, 2) := by decide +kernel
theorem dL_law_1874 : decode code 1874 = .ok (.iconst 2, 1) := by decide +kernel
theorem dL_law_1875 : decode code 1875 = .ok (.iadd, 1) := by decide +kernel
theorem dL_law_1876 : decode code 1876 = .ok (.iaload, 1) := by decide +kernel
theorem dL_law_1877 : decode code 1877 = .ok (.aload_n 3, 1) := by decide +kernel
theorem dL_law_1878 : decode code 1878 = .ok (.invokestatic 201, 3) := by decide +kernel
theorem dL_law_1881 : decode code 1881 = .ok (.istore 5, 2) := by decide +kernel
theorem dL_law_1883 : decode code 1883 = .ok (.aload_n 2, 1) := by decide +kernel
theorem dL_law_1884 : decode code 1884 = .ok (.aload_n 0, 1) := by decide +kernel
theorem dL_law_1885 : decode code 1885 = .ok (.iload 4, 2) := by decide +kernel
theorem dL_law_1887 : decode code 1887 = .ok (.iconst 1, 1) := by decide +kernel
theorem dL_law_1888 : decode code 1888 = .ok (.iadd, 1) := by decide +kernel
theorem dL_law_1889 : decode code 1889 = .ok (.iaload, 1) := by decide +kernel
theorem dL_law_1890 : decode code 1890 = .ok (.aload_n 0, 1) := by decide +kernel
theorem dL_law_1891 : decode code 1891 = .ok (.iload 4, 2) := by decide +kernel
theorem dL_law_1893 : decode code 1893 = .ok (.iconst 2, 1) := by decide +kernel
theorem dL_law_1894 : decode code 1894 = .ok (.iadd, 1) := by decide +kernel
theorem dL_law_1895 : decode code 1895 = .ok (.iaload, 1) := by decide +kernel
theorem dL_law_1896 : decode code 1896 = .ok (.invokevirtual 203, 3) := by decide +kernel
theorem dL_law_1899 : decode code 1899 = .ok (.istore 6, 2) := by decide +kernel
theorem dL_law_1901 : decode code 1901 = .ok (.aload_n 2, 1) := by decide +kernel
theorem dL_law_1902 : decode code 1902 = .ok (.invokevirtual 116, 3) := by decide +kernel
theorem dL_law_1905 : decode code 1905 = .ok (.iload 5, 2) := by decide +kernel
theorem dL_law_1907 : decode code 1907 = .ok (.if_icmp .eq 5, 3) := by decide +kernel
theorem dL_law_1912 : decode code 1912 = .ok (.iload 5, 2) := by decide +kernel
theorem dL_law_1914 : decode code 1914 = .ok (.ifCond .ne 15, 3) := by decide +kernel
theorem dL_law_1929 : decode code 1929 = .ok (.goto 113, 3) := by decide +kernel
set_option maxHeartbeats 4000000 in
set_option maxRecDepth 100000 in
theorem leaf_27 {p : Program} {e : Env} {s : State} {m : MethodId} {below : List Frame} {meth : Method} {c : Code} (l : Launch) (hst : l.stackTraces = false) {D : va_G} {κ : K4} {E0 : Nat} {a b : Nat → Nat} {o sb L : Nat} {xs : Nat → Int32} (hC : CallFix p m c code 9 s #[Value.ref sb] WALL RL) (hr : meth.sig.returnType = ret) (hlocks : meth.locks = false) (hX : va_X sb L xs s s.heap) (hbl : sb < s.heap.size) (hL4 : L = 4) (hE : EA E0 D κ (fun q => s.heap.size ≤ q) s s.heap) (hT : ET s) (k_1 : -2147483648 ≤ (xs 1).toInt ∧ (xs 1).toInt ≤ 2147483647) (k_2 : -2147483648 ≤ (xs 2).toInt ∧ (xs 2).toInt ≤ 2147483647) (k_3 : -2147483648 ≤ (xs 3).toInt ∧ (xs 3).toInt ≤ 2147483647) (H : Heap) (locs : List Loc) (hG : BW D κ ((xw κ a ++ [(o, .inl (κ.2.1, 1, .inr (.inl (fun _ => 0))))]) ++ mw κ b E0 0) (fun q => s.heap.size ≤ q) s H locs) (ls : Array Slot) (hl : lv_has ls 9 [(4, .int 0), (3, .ref o), (2, .ref (b 0)), (1, .ref (a 0)), (0, .ref sb)]) : W p l e room_1 s m #[Value.ref sb] below meth c H locs 100 6000 (lw_Z below #[Value.ref sb] s) (F0 m 1864 ls []) := by
  have hx := hC.1
  have hb := hC.2.1
  refine lv_aload_n hx hb dL_law_1864 rfl (lv_at hl 3 rfl) ?_
  refine lv_aload_n hx hb dL_law_1865 rfl (lv_at hl 4 rfl) ?_
  refine lv_iload hx hb dL_law_1866 (lv_at hl 0 rfl) ?_
  refine lv_iconst (v := 1) hx hb dL_law_1868 (by decide) ?_
  refine lv_iadd hx hb dL_law_1869 ?_
  refine W.eq (g2 := F0 m 1870 ls [.int 1, .ref sb, .ref (a 0)]) rfl ?_
  refine va_sld hx hb hX hbl (Nat.not_le_of_lt hbl) hG.2.2.2.1 (vp_box (by decide) (by rw [hL4]; decide)) dL_law_1870 ?_
  refine W.eq (g2 := F0 m 1871 ls [.int (xs 1), .ref (a 0)]) rfl ?_
  refine lv_aload_n hx hb dL_law_1871 rfl (lv_at hl 4 rfl) ?_
  refine lv_iload hx hb dL_law_1872 (lv_at hl 0 rfl) ?_
  refine lv_iconst (v := 2) hx hb dL_law_1874 (by decide) ?_
  refine lv_iadd hx hb dL_law_1875 ?_
  refine W.eq (g2 := F0 m 1876 ls [.int 2, .ref sb, .int (xs 1), .ref (a 0)]) rfl ?_
  refine va_sld hx hb hX hbl (Nat.not_le_of_lt hbl) hG.2.2.2.1 (vp_box (by decide) (by rw [hL4]; decide)) dL_law_1876 ?_
  refine W.eq (g2 := F0 m 1877 ls [.int (xs 2), .int (xs 1), .ref (a 0)]) rfl ?_
  refine lv_aload_n hx hb dL_law_1877 rfl (lv_at hl 1 rfl) ?_
  have cut1878 : Cut ((xw κ a ++ [(o, .inl (κ.2.1, 1, .inr (.inl (fun _ => 0))))]) ++ mw κ b E0 0) ([(a 0, .inr (7, [.ref (a 1), .ref (a 7), .ref (a 12), .ref (a 23), .ref (a 28), .ref (a 33), .ref (a 37), .ref (a 41), .int (-1), .int 0])), (a 1, .inr (0, [.ref (a 2), .ref (a 3), .ref (a 4), .ref (a 5), .ref (a 6), .int 0])), (a 2, .inl (κ.1, 4, .inl (fun _ => 1000))), (a 3, .inl (κ.1, 10, .inl (fun _ => 0))), (a 4, .inl (κ.1, 10, .inl (fun _ => 0))), (a 5, .inl (κ.1, 10, .inl (fun _ => 0))), (a 6, .inl (κ.2.2.1, 10, .inl (fun _ => 0))), (a 7, .inr (1, [.ref (a 8), .int 0, .int 0, .int 0])), (a 8, .inr (4, [.ref (a 9), .ref (a 10), .ref (a 11), .int 0])), (a 9, .inl (κ.1, 10, .inl (fun _ => 0))), (a 10, .inl (κ.2.1, 10, .inr (.inl (fun _ => 0)))), (a 11, .inl (κ.2.1, 10, .inr (.inl (fun _ => 0)))), (a 12, .inr (3, [.ref (a 13), .ref (a 14), .ref (a 15), .ref (a 16), .ref (a 17), .ref (a 18), .int 0, .ref (a 19), .ref (a 20), .ref (a 21), .ref (a 22), .int 0])), (a 13, .inl (κ.1, 60, .inl (fun _ => 0))), (a 14, .inl (κ.1, 60, .inl (fun _ => 0))), (a 15, .inl (κ.1, 60, .inl (fun _ => 0))), (a 16, .inl (κ.1, 60, .inl (fun _ => 0))), (a 17, .inl (κ.2.2.1, 60, .inl (fun _ => 0))), (a 18, .inl (κ.2.2.1, 60, .inl (fun _ => 0))), (a 19, .inl (κ.1, 600, .inl (fun _ => 0))), (a 20, .inl (κ.1, 600, .inl (fun _ => 0))), (a 21, .inl (κ.2.1, 600, .inr (.inl (fun _ => 0)))), (a 22, .inl (κ.2.1, 600, .inr (.inl (fun _ => 0)))), (a 23, .inr (2, [.ref (a 24), .ref (a 25), .ref (a 26), .ref (a 27), .int 0])), (a 24, .inl (κ.1, 20, .inl (fun _ => 0))), (a 25, .inl (κ.1, 20, .inl (fun _ => 0))), (a 26, .inl (κ.1, 20, .inl (fun _ => 0))), (a 27, .inl (κ.2.2.1, 20, .inl (fun _ => 0))), (a 28, .inr (5, [.ref (a 29), .ref (a 30), .ref (a 31), .ref (a 32), .int 0])), (a 29, .inl (κ.1, 40, .inl (fun _ => 0))), (a 30, .inl (κ.1, 40, .inl (fun _ => 0))), (a 31, .inl (κ.1, 40, .inl (fun _ => 0))), (a 32, .inl (κ.1, 40, .inl (fun _ => 0))), (a 33, .inr (6, [.ref (a 12), .ref (a 28), .ref (a 34), .ref (a 35), .ref (a 36)])), (a 34, .inl (κ.1, 600, .inl (fun _ => (-1)))), (a 35, .inl (κ.1, 40, .inl (fun _ => (-1)))), (a 36, .inl (κ.1, 40, .inl (fun _ => (-1)))), (a 37, .inr (6, [.ref (a 12), .ref (a 28), .ref (a 38), .ref (a 39), .ref (a 40)])), (a 38, .inl (κ.1, 600, .inl (fun _ => (-1)))), (a 39, .inl (κ.1, 40, .inl (fun _ => (-1)))), (a 40, .inl (κ.1, 40, .inl (fun _ => (-1)))), (a 41, .inr (4, [.ref (a 42), .ref (a 43), .ref (a 44), .int 0])), (a 42, .inl (κ.1, 10, .inl (fun _ => 0))), (a 43, .inl (κ.2.1, 10, .inr (.inl (fun _ => 0)))), (a 44, .inl (κ.2.1, 10, .inr (.inl (fun _ => 0)))), (o, .inl (κ.2.1, 1, .inr (.inl (fun _ => 0))))]) ([(b 0, .inr (9, [.int 0, .ref (b 1), .ref (b 2), .ref (b 3), .ref (b 4), .ref (b 5), .ref (b 6), .ref (b 7), .null, .int 0, .int (-1), .int 0, .int 0, .int 0, .ref (b 8)])), (b 1, .inl (κ.1, 4, .inl (fun _ => 1000))), (b 2, .inr (10, [.int 0, .ref E0, .int 0])), (b 3, .inr (10, [.int 0, .ref E0, .int 0])), (b 4, .inr (10, [.int 0, .ref E0, .int 0])), (b 5, .inr (10, [.int 0, .ref E0, .int 0])), (b 6, .inr (10, [.int 0, .ref E0, .int 0])), (b 7, .inr (10, [.int 0, .ref E0, .int 0])), (b 8, .inr (10, [.int 0, .ref E0, .int 0]))]) := (Cut.idx [0, 1, 2, 3, 4, 5, 6, 7, 8, 9, 10, 11, 12, 13, 14, 15, 16, 17, 18, 19, 20, 21, 22, 23, 24, 25, 26, 27, 28, 29, 30, 31, 32, 33, 34, 35, 36, 37, 38, 39, 40, 41, 42, 43, 44, 45] [46, 47, 48, 49, 50, 51, 52, 53, 54] rfl rfl (by decide) (by decide) (by decide))
  refine zc_i hG cut1878 (zr_H (n := 4) (As := [.ref (a 0), .int (xs 1), .int (xs 2), .ref o]) (rest := []) hC hG hE hT cut1878 (z_122_wouldMatch l hst D κ E0 H.size a (xs 1) (xs 2) o ⟨by omega, by omega⟩ ⟨by omega, by omega⟩) w1156 w143 w1158 w1157 (by decide +kernel) ⟨Nat.le_of_ble_eq_true rfl, Nat.le_of_ble_eq_true rfl⟩ rfl hl.1 rfl (Nat.le_of_ble_eq_true rfl) dL_law_1878 ⟨Nat.le_of_ble_eq_true rfl, Nat.le_of_ble_eq_true rfl⟩) (fun z1 H locs hG => ?_)
  have hG : BW D κ (([(b 0, .inr (9, [.int 0, .ref (b 1), .ref (b 2), .ref (b 3), .ref (b 4), .ref (b 5), .ref (b 6), .ref (b 7), .null, .int 0, .int (-1), .int 0, .int 0, .int 0, .ref (b 8)])), (b 1, .inl (κ.1, 4, .inl (fun _ => 1000))), (b 2, .inr (10, [.int 0, .ref E0, .int 0])), (b 3, .inr (10, [.int 0, .ref E0, .int 0])), (b 4, .inr (10, [.int 0, .ref E0, .int 0])), (b 5, .inr (10, [.int 0, .ref E0, .int 0])), (b 6, .inr (10, [.int 0, .ref E0, .int 0])), (b 7, .inr (10, [.int 0, .ref E0, .int 0])), (b 8, .inr (10, [.int 0, .ref E0, .int 0]))]) ++ ([(o, .inl (κ.2.1, 1, .inr (.inl (fun _ => 0))))])) _ s H locs := hG
  refine lv_istore (lv' := [(5, .int 1), (4, .int 0), (3, .ref o), (2, .ref (b 0)), (1, .ref (a 0)), (0, .ref sb)]) hx hb dL_law_1881 hl (by decide) rfl (fun ls hl => ?_)
  refine lv_aload_n hx hb dL_law_1883 rfl (lv_at hl 3 rfl) ?_
  refine lv_aload_n hx hb dL_law_1884 rfl (lv_at hl 5 rfl) ?_
  refine lv_iload hx hb dL_law_1885 (lv_at hl 1 rfl) ?_
  refine lv_iconst (v := 1) hx hb dL_law_1887 (by decide) ?_
  refine lv_iadd hx hb dL_law_1888 ?_
  refine W.eq (g2 := F0 m 1889 ls [.int 1, .ref sb, .ref (b 0)]) rfl ?_
  refine va_sld hx hb hX hbl (Nat.not_le_of_lt hbl) hG.2.2.2.1 (vp_box (by decide) (by rw [hL4]; decide)) dL_law_1889 ?_
  refine W.eq (g2 := F0 m 1890 ls [.int (xs 1), .ref (b 0)]) rfl ?_
  refine lv_aload_n hx hb dL_law_1890 rfl (lv_at hl 5 rfl) ?_
  refine lv_iload hx hb dL_law_1891 (lv_at hl 1 rfl) ?_
  refine lv_iconst (v := 2) hx hb dL_law_1893 (by decide) ?_
  refine lv_iadd hx hb dL_law_1894 ?_
  refine W.eq (g2 := F0 m 1895 ls [.int 2, .ref sb, .int (xs 1), .ref (b 0)]) rfl ?_
  refine va_sld hx hb hX hbl (Nat.not_le_of_lt hbl) hG.2.2.2.1 (vp_box (by decide) (by rw [hL4]; decide)) dL_law_1895 ?_
  refine W.eq (g2 := F0 m 1896 ls [.int (xs 2), .int (xs 1), .ref (b 0)]) rfl ?_
  have cut1896 : Cut (([(b 0, .inr (9, [.int 0, .ref (b 1), .ref (b 2), .ref (b 3), .ref (b 4), .ref (b 5), .ref (b 6), .ref (b 7), .null, .int 0, .int (-1), .int 0, .int 0, .int 0, .ref (b 8)])), (b 1, .inl (κ.1, 4, .inl (fun _ => 1000))), (b 2, .inr (10, [.int 0, .ref E0, .int 0])), (b 3, .inr (10, [.int 0, .ref E0, .int 0])), (b 4, .inr (10, [.int 0, .ref E0, .int 0])), (b 5, .inr (10, [.int 0, .ref E0, .int 0])), (b 6, .inr (10, [.int 0, .ref E0, .int 0])), (b 7, .inr (10, [.int 0, .ref E0, .int 0])), (b 8, .inr (10, [.int 0, .ref E0, .int 0]))]) ++ ([(o, .inl (κ.2.1, 1, .inr (.inl (fun _ => 0))))])) (mw κ b E0 0) ([(o, .inl (κ.2.1, 1, .inr (.inl (fun _ => 0))))]) := (Cut.idx [0, 1, 2, 3, 4, 5, 6, 7, 8] [9] rfl rfl (by decide) (by decide) (by decide))
  refine zc_i hG cut1896 (zr_V (k := 0) (ci := 9) (n := 2) (As := [.int (xs 1), .int (xs 2)]) (rest := []) hC hG hE hT cut1896 (z_123_wouldMatch l hst D κ E0 H.size b (xs 1) (xs 2) ⟨by omega, by omega⟩ ⟨by omega, by omega⟩) rfl rfl w1163 w5 w1166 w1164 w1165 (by decide +kernel) ⟨Nat.le_of_ble_eq_true rfl, Nat.le_of_ble_eq_true rfl⟩ rfl hl.1 rfl (Nat.le_of_ble_eq_true rfl) dL_law_1896 ⟨Nat.le_of_ble_eq_true rfl, Nat.le_of_ble_eq_true rfl⟩) (fun z2 H locs hG => ?_)
  have hG : BW D κ (([(o, .inl (κ.2.1, 1, .inr (.inl (fun _ => 0))))]) ++ (mw κ b E0 1)) _ s H locs := hG
  refine lv_istore (lv' := [(6, .int 0), (5, .int 1), (4, .int 0), (3, .ref o), (2, .ref (b 0)), (1, .ref (a 0)), (0, .ref sb)]) hx hb dL_law_1899 hl (by decide) rfl (fun ls hl => ?_)
  refine lv_aload_n hx hb dL_law_1901 rfl (lv_at hl 4 rfl) ?_
  have cut1902 : Cut (([(o, .inl (κ.2.1, 1, .inr (.inl (fun _ => 0))))]) ++ (mw κ b E0 1)) ([(b 0, .inr (9, [.int 1, .ref (b 1), .ref (b 2), .ref (b 3), .ref (b 4), .ref (b 5), .ref (b 6), .ref (b 7), .null, .int 0, .int (-1), .int 0, .int 0, .int 0, .ref (b 8)]))]) ([(o, .inl (κ.2.1, 1, .inr (.inl (fun _ => 0)))), (b 1, .inl (κ.1, 4, .inl (fun _ => 1000))), (b 2, .inr (10, [.int 0, .ref E0, .int 0])), (b 3, .inr (10, [.int 0, .ref E0, .int 0])), (b 4, .inr (10, [.int 0, .ref E0, .int 0])), (b 5, .inr (10, [.int 0, .ref E0, .int 0])), (b 6, .inr (10, [.int 0, .ref E0, .int 0])), (b 7, .inr (10, [.int 0, .ref E0, .int 0])), (b 8, .inr (10, [.int 0, .ref E0, .int 0]))]) := (Cut.idx [1] [0, 2, 3, 4, 5, 6, 7, 8, 9] rfl rfl (by decide) (by decide) (by decide))
  refine zc_i hG cut1902 (zr_V (k := 1) (ci := 9) (n := 0) (As := []) (rest := []) hC hG hE hT cut1902 (z_6_thrown l hst D κ E0 H.size b) rfl rfl w200 w5 w203 w201 w202 (by decide +kernel) ⟨Nat.le_of_ble_eq_true rfl, Nat.le_of_ble_eq_true rfl⟩ rfl hl.1 rfl (Nat.le_of_ble_eq_true rfl) dL_law_1902 ⟨Nat.le_of_ble_eq_true rfl, Nat.le_of_ble_eq_true rfl⟩) (fun z3 H locs hG => ?_)
  have hG : BW D κ (([(o, .inl (κ.2.1, 1, .inr (.inl (fun _ => 0)))), (b 1, .inl (κ.1, 4, .inl (fun _ => 1000))), (b 2, .inr (10, [.int 0, .ref E0, .int 0])), (b 3, .inr (10, [.int 0, .ref E0, .int 0])), (b 4, .inr (10, [.int 0, .ref E0, .int 0])), (b 5, .inr (10, [.int 0, .ref E0, .int 0])), (b 6, .inr (10, [.int 0, .ref E0, .int 0])), (b 7, .inr (10, [.int 0, .ref E0, .int 0])), (b 8, .inr (10, [.int 0, .ref E0, .int 0]))]) ++ ([(b 0, .inr (9, [.int 1, .ref (b 1), .ref (b 2), .ref (b 3), .ref (b 4), .ref (b 5), .ref (b 6), .ref (b 7), .null, .int 0, .int (-1), .int 0, .int 0, .int 0, .ref (b 8)]))])) _ s H locs := hG
  refine lv_iload hx hb dL_law_1905 (lv_at hl 1 rfl) ?_
  refine lv_icmp_eq (tgt := 1912) hx hb dL_law_1907 (by decide) (fun _ => ?_) (fun h1907 => absurd (by decide) h1907)
  refine lv_iload hx hb dL_law_1912 (lv_at hl 1 rfl) ?_
  refine lv_if_ne (tgt := 1929) hx hb dL_law_1914 (by decide) (fun _ => ?_) (fun h1914 => absurd h1914 (by decide))
  refine lv_goto (tgt := 2042) hx hb dL_law_1929 (by decide) ?_
  refine lv_iinc (v := 4) (lv' := [(4, .int 4), (6, .int 0), (5, .int 1), (3, .ref o), (2, .ref (b 0)), (1, .ref (a 0)), (0, .ref sb)]) hx hb dL_law_2042 hl (k := 2) rfl (by decide) (by decide) rfl (fun ls hl => ?_)
  refine lv_goto (tgt := 23) hx hb dL_law_2045 (by decide) ?_
  refine lv_iload hx hb dL_law_23 (lv_at hl 0 rfl) ?_
  refine lv_aload_n hx hb dL_law_25 rfl (lv_at hl 6 rfl) ?_
  refine va_slen hx hb hX hbl (Nat.not_le_of_lt hbl) hG.2.2.2.1 dL_law_26 ?_
  refine W.eq (g2 := F0 m 27 ls [.int 4, .int 4]) (by rw [hL4]; rfl) ?_
  refine lv_iconst (v := 4) hx hb dL_law_27 (by decide) ?_
  refine lv_isub hx hb dL_law_28 ?_
  refine W.eq (g2 := F0 m 29 ls [.int 0, .int 4]) rfl ?_
  refine lv_icmp_gt (tgt := 2048) hx hb dL_law_29 (by decide) (fun _ => ?_) (fun h29 => absurd (by decide) h29)
  refine lv_iconst (v := 1) hx hb dL_law_2048 (by decide) ?_
  refine W.widen (k := 600002) (n := 7302232) (Nat.le_of_ble_eq_true rfl) (Nat.le_of_ble_eq_true rfl) ?_
  refine va_forget (fun q hq => hG.2.2.2.1.2.2 q hq) ?_
  refine W.base ?_
  exact lw_ret (Drawn.sameBut.refl s.drawn lw_cs) hx hb hr hlocks dL_law_2049
theorem dL_law_435 : decode code 435 = .ok (.aload_n 1, 1) := by decide +kernel
theorem dL_law_436 : decode code 436 = .ok (.aload_n 0, 1) := by decide +kernel
theorem dL_law_437 : decode code 437 = .ok (.iload 4, 2) := by decide +kernel
theorem dL_law_439 : decode code 439 = .ok (.iconst 1, 1) := by decide +kernel
theorem dL_law_440 : decode code 440 = .ok (.iadd, 1) := by decide +kernel
theorem dL_law_441 : decode code 441 = .ok (.iaload, 1) := by decide +kernel
theorem dL_law_442 : decode code 442 = .ok (.aload_n 3, 1) := by decide +kernel
theorem dL_law_443 : decode code 443 = .ok (.invokestatic 129, 3) := by decide +kernel
theorem dL_law_446 : decode code 446 = .ok (.istore 5, 2) := by decide +kernel
theorem dL_law_448 : decode code 448 = .ok (.aload_n 2, 1) := by decide +kernel
theorem dL_law_449 : decode code 449 = .ok (.aload_n 0, 1) := by decide +kernel
theorem dL_law_450 : decode code 450 = .ok (.iload 4, 2) := by decide +kernel
theorem dL_law_452 : decode code 452 = .ok (.iconst 1, 1) := by decide +kernel
theorem dL_law_453 : decode code 453 = .ok (.iadd, 1) := by decide +kernel
theorem dL_law_454 : decode code 454 = .ok (.iaload, 1) := by decide +kernel
theorem dL_law_455 : decode code 455 = .ok (.invokevirtual 131, 3) := by decide +kernel
theorem dL_law_458 : decode code 458 = .ok (.istore 6, 2) := by decide +kernel
theorem dL_law_460 : decode code 460 = .ok (.aload_n 2, 1) := by decide +kernel
theorem dL_law_461 : decode code 461 = .ok (.invokevirtual 116, 3) := by decide +kernel
theorem dL_law_464 : decode code 464 = .ok (.iload 5, 2) := by decide +kernel
theorem dL_law_466 : decode code 466 = .ok (.if_icmp .eq 5, 3) := by decide +kernel
theorem dL_law_471 : decode code 471 = .ok (.iload 5, 2) := by decide +kernel
theorem dL_law_473 : decode code 473 = .ok (.ifCond .ne 15, 3) := by decide +kernel
theorem dL_law_488 : decode code 488 = .ok (.goto 1554, 3) := by decide +kernel
set_option maxHeartbeats 4000000 in
set_option maxRecDepth 100000 in
theorem leaf_28 {p : Program} {e : Env} {s : State} {m : MethodId} {below : List Frame} {meth : Method} {c : Code} (l : Launch) (hst : l.stackTraces = false) {D : va_G} {κ : K4} {E0 : Nat} {a b : Nat → Nat} {o sb L : Nat} {xs : Nat → Int32} (hC : CallFix p m c code 9 s #[Value.ref sb] WALL RL) (hr : meth.sig.returnType = ret) (hlocks : meth.locks = false) (hX : va_X sb L xs s s.heap) (hbl : sb < s.heap.size) (hL4 : L = 4) (hE : EA E0 D κ (fun q => s.heap.size ≤ q) s s.heap) (hT : ET s) (k_1 : -2147483648 ≤ (xs 1).toInt ∧ (xs 1).toInt ≤ -1) (H : Heap) (locs : List Loc) (hG : BW D κ ((xw κ a ++ [(o, .inl (κ.2.1, 1, .inr (.inl (fun _ => 0))))]) ++ mw κ b E0 0) (fun q => s.heap.size ≤ q) s H locs) (ls : Array Slot) (hl : lv_has ls 9 [(4, .int 0), (3, .ref o), (2, .ref (b 0)), (1, .ref (a 0)), (0, .ref sb)]) : W p l e room_1 s m #[Value.ref sb] below meth c H locs 100 6000 (lw_Z below #[Value.ref sb] s) (F0 m 435 ls []) := by
  have hx := hC.1
  have hb := hC.2.1
  refine lv_aload_n hx hb dL_law_435 rfl (lv_at hl 3 rfl) ?_
  refine lv_aload_n hx hb dL_law_436 rfl (lv_at hl 4 rfl) ?_
  refine lv_iload hx hb dL_law_437 (lv_at hl 0 rfl) ?_
  refine lv_iconst (v := 1) hx hb dL_law_439 (by decide) ?_
  refine lv_iadd hx hb dL_law_440 ?_
  refine W.eq (g2 := F0 m 441 ls [.int 1, .ref sb, .ref (a 0)]) rfl ?_
  refine va_sld hx hb hX hbl (Nat.not_le_of_lt hbl) hG.2.2.2.1 (vp_box (by decide) (by rw [hL4]; decide)) dL_law_441 ?_
  refine W.eq (g2 := F0 m 442 ls [.int (xs 1), .ref (a 0)]) rfl ?_
  refine lv_aload_n hx hb dL_law_442 rfl (lv_at hl 1 rfl) ?_
  have cut443 : Cut ((xw κ a ++ [(o, .inl (κ.2.1, 1, .inr (.inl (fun _ => 0))))]) ++ mw κ b E0 0) ([(a 0, .inr (7, [.ref (a 1), .ref (a 7), .ref (a 12), .ref (a 23), .ref (a 28), .ref (a 33), .ref (a 37), .ref (a 41), .int (-1), .int 0])), (a 1, .inr (0, [.ref (a 2), .ref (a 3), .ref (a 4), .ref (a 5), .ref (a 6), .int 0])), (a 2, .inl (κ.1, 4, .inl (fun _ => 1000))), (a 3, .inl (κ.1, 10, .inl (fun _ => 0))), (a 4, .inl (κ.1, 10, .inl (fun _ => 0))), (a 5, .inl (κ.1, 10, .inl (fun _ => 0))), (a 6, .inl (κ.2.2.1, 10, .inl (fun _ => 0))), (a 7, .inr (1, [.ref (a 8), .int 0, .int 0, .int 0])), (a 8, .inr (4, [.ref (a 9), .ref (a 10), .ref (a 11), .int 0])), (a 9, .inl (κ.1, 10, .inl (fun _ => 0))), (a 10, .inl (κ.2.1, 10, .inr (.inl (fun _ => 0)))), (a 11, .inl (κ.2.1, 10, .inr (.inl (fun _ => 0)))), (a 12, .inr (3, [.ref (a 13), .ref (a 14), .ref (a 15), .ref (a 16), .ref (a 17), .ref (a 18), .int 0, .ref (a 19), .ref (a 20), .ref (a 21), .ref (a 22), .int 0])), (a 13, .inl (κ.1, 60, .inl (fun _ => 0))), (a 14, .inl (κ.1, 60, .inl (fun _ => 0))), (a 15, .inl (κ.1, 60, .inl (fun _ => 0))), (a 16, .inl (κ.1, 60, .inl (fun _ => 0))), (a 17, .inl (κ.2.2.1, 60, .inl (fun _ => 0))), (a 18, .inl (κ.2.2.1, 60, .inl (fun _ => 0))), (a 19, .inl (κ.1, 600, .inl (fun _ => 0))), (a 20, .inl (κ.1, 600, .inl (fun _ => 0))), (a 21, .inl (κ.2.1, 600, .inr (.inl (fun _ => 0)))), (a 22, .inl (κ.2.1, 600, .inr (.inl (fun _ => 0)))), (a 23, .inr (2, [.ref (a 24), .ref (a 25), .ref (a 26), .ref (a 27), .int 0])), (a 24, .inl (κ.1, 20, .inl (fun _ => 0))), (a 25, .inl (κ.1, 20, .inl (fun _ => 0))), (a 26, .inl (κ.1, 20, .inl (fun _ => 0))), (a 27, .inl (κ.2.2.1, 20, .inl (fun _ => 0))), (a 28, .inr (5, [.ref (a 29), .ref (a 30), .ref (a 31), .ref (a 32), .int 0])), (a 29, .inl (κ.1, 40, .inl (fun _ => 0))), (a 30, .inl (κ.1, 40, .inl (fun _ => 0))), (a 31, .inl (κ.1, 40, .inl (fun _ => 0))), (a 32, .inl (κ.1, 40, .inl (fun _ => 0))), (a 33, .inr (6, [.ref (a 12), .ref (a 28), .ref (a 34), .ref (a 35), .ref (a 36)])), (a 34, .inl (κ.1, 600, .inl (fun _ => (-1)))), (a 35, .inl (κ.1, 40, .inl (fun _ => (-1)))), (a 36, .inl (κ.1, 40, .inl (fun _ => (-1)))), (a 37, .inr (6, [.ref (a 12), .ref (a 28), .ref (a 38), .ref (a 39), .ref (a 40)])), (a 38, .inl (κ.1, 600, .inl (fun _ => (-1)))), (a 39, .inl (κ.1, 40, .inl (fun _ => (-1)))), (a 40, .inl (κ.1, 40, .inl (fun _ => (-1)))), (a 41, .inr (4, [.ref (a 42), .ref (a 43), .ref (a 44), .int 0])), (a 42, .inl (κ.1, 10, .inl (fun _ => 0))), (a 43, .inl (κ.2.1, 10, .inr (.inl (fun _ => 0)))), (a 44, .inl (κ.2.1, 10, .inr (.inl (fun _ => 0)))), (o, .inl (κ.2.1, 1, .inr (.inl (fun _ => 0))))]) ([(b 0, .inr (9, [.int 0, .ref (b 1), .ref (b 2), .ref (b 3), .ref (b 4), .ref (b 5), .ref (b 6), .ref (b 7), .null, .int 0, .int (-1), .int 0, .int 0, .int 0, .ref (b 8)])), (b 1, .inl (κ.1, 4, .inl (fun _ => 1000))), (b 2, .inr (10, [.int 0, .ref E0, .int 0])), (b 3, .inr (10, [.int 0, .ref E0, .int 0])), (b 4, .inr (10, [.int 0, .ref E0, .int 0])), (b 5, .inr (10, [.int 0, .ref E0, .int 0])), (b 6, .inr (10, [.int 0, .ref E0, .int 0])), (b 7, .inr (10, [.int 0, .ref E0, .int 0])), (b 8, .inr (10, [.int 0, .ref E0, .int 0]))]) := (Cut.idx [0, 1, 2, 3, 4, 5, 6, 7, 8, 9, 10, 11, 12, 13, 14, 15, 16, 17, 18, 19, 20, 21, 22, 23, 24, 25, 26, 27, 28, 29, 30, 31, 32, 33, 34, 35, 36, 37, 38, 39, 40, 41, 42, 43, 44, 45] [46, 47, 48, 49, 50, 51, 52, 53, 54] rfl rfl (by decide) (by decide) (by decide))
  refine zc_i hG cut443 (zr_H (n := 3) (As := [.ref (a 0), .int (xs 1), .ref o]) (rest := []) hC hG hE hT cut443 (z_125_pass l hst D κ E0 H.size a (xs 1) o ⟨by omega, by omega⟩) w393 w143 w395 w394 (by decide +kernel) ⟨Nat.le_of_ble_eq_true rfl, Nat.le_of_ble_eq_true rfl⟩ rfl hl.1 rfl (Nat.le_of_ble_eq_true rfl) dL_law_443 ⟨Nat.le_of_ble_eq_true rfl, Nat.le_of_ble_eq_true rfl⟩) (fun z1 H locs hG => ?_)
  have hG : BW D κ (([(b 0, .inr (9, [.int 0, .ref (b 1), .ref (b 2), .ref (b 3), .ref (b 4), .ref (b 5), .ref (b 6), .ref (b 7), .null, .int 0, .int (-1), .int 0, .int 0, .int 0, .ref (b 8)])), (b 1, .inl (κ.1, 4, .inl (fun _ => 1000))), (b 2, .inr (10, [.int 0, .ref E0, .int 0])), (b 3, .inr (10, [.int 0, .ref E0, .int 0])), (b 4, .inr (10, [.int 0, .ref E0, .int 0])), (b 5, .inr (10, [.int 0, .ref E0, .int 0])), (b 6, .inr (10, [.int 0, .ref E0, .int 0])), (b 7, .inr (10, [.int 0, .ref E0, .int 0])), (b 8, .inr (10, [.int 0, .ref E0, .int 0]))]) ++ ([(o, .inl (κ.2.1, 1, .inr (.inl (fun _ => 0))))])) _ s H locs := hG
  refine lv_istore (lv' := [(5, .int 1), (4, .int 0), (3, .ref o), (2, .ref (b 0)), (1, .ref (a 0)), (0, .ref sb)]) hx hb dL_law_446 hl (by decide) rfl (fun ls hl => ?_)
  refine lv_aload_n hx hb dL_law_448 rfl (lv_at hl 3 rfl) ?_
  refine lv_aload_n hx hb dL_law_449 rfl (lv_at hl 5 rfl) ?_
  refine lv_iload hx hb dL_law_450 (lv_at hl 1 rfl) ?_
  refine lv_iconst (v := 1) hx hb dL_law_452 (by decide) ?_
  refine lv_iadd hx hb dL_law_453 ?_
  refine W.eq (g2 := F0 m 454 ls [.int 1, .ref sb, .ref (b 0)]) rfl ?_
  refine va_sld hx hb hX hbl (Nat.not_le_of_lt hbl) hG.2.2.2.1 (vp_box (by decide) (by rw [hL4]; decide)) dL_law_454 ?_
  refine W.eq (g2 := F0 m 455 ls [.int (xs 1), .ref (b 0)]) rfl ?_
  have cut455 : Cut (([(b 0, .inr (9, [.int 0, .ref (b 1), .ref (b 2), .ref (b 3), .ref (b 4), .ref (b 5), .ref (b 6), .ref (b 7), .null, .int 0, .int (-1), .int 0, .int 0, .int 0, .ref (b 8)])), (b 1, .inl (κ.1, 4, .inl (fun _ => 1000))), (b 2, .inr (10, [.int 0, .ref E0, .int 0])), (b 3, .inr (10, [.int 0, .ref E0, .int 0])), (b 4, .inr (10, [.int 0, .ref E0, .int 0])), (b 5, .inr (10, [.int 0, .ref E0, .int 0])), (b 6, .inr (10, [.int 0, .ref E0, .int 0])), (b 7, .inr (10, [.int 0, .ref E0, .int 0])), (b 8, .inr (10, [.int 0, .ref E0, .int 0]))]) ++ ([(o, .inl (κ.2.1, 1, .inr (.inl (fun _ => 0))))])) (mw κ b E0 0) ([(o, .inl (κ.2.1, 1, .inr (.inl (fun _ => 0))))]) := (Cut.idx [0, 1, 2, 3, 4, 5, 6, 7, 8] [9] rfl rfl (by decide) (by decide) (by decide))
  refine zc_i hG cut455 (zr_V (k := 0) (ci := 9) (n := 1) (As := [.int (xs 1)]) (rest := []) hC hG hE hT cut455 (z_127_pass l hst D κ E0 H.size b (xs 1) ⟨by omega, by omega⟩) rfl rfl w400 w5 w403 w401 w402 (by decide +kernel) ⟨Nat.le_of_ble_eq_true rfl, Nat.le_of_ble_eq_true rfl⟩ rfl hl.1 rfl (Nat.le_of_ble_eq_true rfl) dL_law_455 ⟨Nat.le_of_ble_eq_true rfl, Nat.le_of_ble_eq_true rfl⟩) (fun z2 H locs hG => ?_)
  have hG : BW D κ (([(o, .inl (κ.2.1, 1, .inr (.inl (fun _ => 0))))]) ++ (mw κ b E0 1)) _ s H locs := hG
  refine lv_istore (lv' := [(6, .int 0), (5, .int 1), (4, .int 0), (3, .ref o), (2, .ref (b 0)), (1, .ref (a 0)), (0, .ref sb)]) hx hb dL_law_458 hl (by decide) rfl (fun ls hl => ?_)
  refine lv_aload_n hx hb dL_law_460 rfl (lv_at hl 4 rfl) ?_
  have cut461 : Cut (([(o, .inl (κ.2.1, 1, .inr (.inl (fun _ => 0))))]) ++ (mw κ b E0 1)) ([(b 0, .inr (9, [.int 1, .ref (b 1), .ref (b 2), .ref (b 3), .ref (b 4), .ref (b 5), .ref (b 6), .ref (b 7), .null, .int 0, .int (-1), .int 0, .int 0, .int 0, .ref (b 8)]))]) ([(o, .inl (κ.2.1, 1, .inr (.inl (fun _ => 0)))), (b 1, .inl (κ.1, 4, .inl (fun _ => 1000))), (b 2, .inr (10, [.int 0, .ref E0, .int 0])), (b 3, .inr (10, [.int 0, .ref E0, .int 0])), (b 4, .inr (10, [.int 0, .ref E0, .int 0])), (b 5, .inr (10, [.int 0, .ref E0, .int 0])), (b 6, .inr (10, [.int 0, .ref E0, .int 0])), (b 7, .inr (10, [.int 0, .ref E0, .int 0])), (b 8, .inr (10, [.int 0, .ref E0, .int 0]))]) := (Cut.idx [1] [0, 2, 3, 4, 5, 6, 7, 8, 9] rfl rfl (by decide) (by decide) (by decide))
  refine zc_i hG cut461 (zr_V (k := 1) (ci := 9) (n := 0) (As := []) (rest := []) hC hG hE hT cut461 (z_6_thrown l hst D κ E0 H.size b) rfl rfl w200 w5 w203 w201 w202 (by decide +kernel) ⟨Nat.le_of_ble_eq_true rfl, Nat.le_of_ble_eq_true rfl⟩ rfl hl.1 rfl (Nat.le_of_ble_eq_true rfl) dL_law_461 ⟨Nat.le_of_ble_eq_true rfl, Nat.le_of_ble_eq_true rfl⟩) (fun z3 H locs hG => ?_)
  have hG : BW D κ (([(o, .inl (κ.2.1, 1, .inr (.inl (fun _ => 0)))), (b 1, .inl (κ.1, 4, .inl (fun _ => 1000))), (b 2, .inr (10, [.int 0, .ref E0, .int 0])), (b 3, .inr (10, [.int 0, .ref E0, .int 0])), (b 4, .inr (10, [.int 0, .ref E0, .int 0])), (b 5, .inr (10, [.int 0, .ref E0, .int 0])), (b 6, .inr (10, [.int 0, .ref E0, .int 0])), (b 7, .inr (10, [.int 0, .ref E0, .int 0])), (b 8, .inr (10, [.int 0, .ref E0, .int 0]))]) ++ ([(b 0, .inr (9, [.int 1, .ref (b 1), .ref (b 2), .ref (b 3), .ref (b 4), .ref (b 5), .ref (b 6), .ref (b 7), .null, .int 0, .int (-1), .int 0, .int 0, .int 0, .ref (b 8)]))])) _ s H locs := hG
  refine lv_iload hx hb dL_law_464 (lv_at hl 1 rfl) ?_
  refine lv_icmp_eq (tgt := 471) hx hb dL_law_466 (by decide) (fun _ => ?_) (fun h466 => absurd (by decide) h466)
  refine lv_iload hx hb dL_law_471 (lv_at hl 1 rfl) ?_
  refine lv_if_ne (tgt := 488) hx hb dL_law_473 (by decide) (fun _ => ?_) (fun h473 => absurd h473 (by decide))
  refine lv_goto (tgt := 2042) hx hb dL_law_488 (by decide) ?_
  refine lv_iinc (v := 4) (lv' := [(4, .int 4), (6, .int 0), (5, .int 1), (3, .ref o), (2, .ref (b 0)), (1, .ref (a 0)), (0, .ref sb)]) hx hb dL_law_2042 hl (k := 2) rfl (by decide) (by decide) rfl (fun ls hl => ?_)
  refine lv_goto (tgt := 23) hx hb dL_law_2045 (by decide) ?_
  refine lv_iload hx hb dL_law_23 (lv_at hl 0 rfl) ?_
  refine lv_aload_n hx hb dL_law_25 rfl (lv_at hl 6 rfl) ?_
  refine va_slen hx hb hX hbl (Nat.not_le_of_lt hbl) hG.2.2.2.1 dL_law_26 ?_
  refine W.eq (g2 := F0 m 27 ls [.int 4, .int 4]) (by rw [hL4]; rfl) ?_
  refine lv_iconst (v := 4) hx hb dL_law_27 (by decide) ?_
  refine lv_isub hx hb dL_law_28 ?_
  refine W.eq (g2 := F0 m 29 ls [.int 0, .int 4]) rfl ?_
  refine lv_icmp_gt (tgt := 2048) hx hb dL_law_29 (by decide) (fun _ => ?_) (fun h29 => absurd (by decide) h29)
  refine lv_iconst (v := 1) hx hb dL_law_2048 (by decide) ?_
  refine W.widen (k := 600002) (n := 7302232) (Nat.le_of_ble_eq_true rfl) (Nat.le_of_ble_eq_true rfl) ?_
  refine va_forget (fun q hq => hG.2.2.2.1.2.2 q hq) ?_
  refine W.base ?_
  exact lw_ret (Drawn.sameBut.refl s.drawn lw_cs) hx hb hr hlocks dL_law_2049
set_option maxHeartbeats 4000000 in
set_option maxRecDepth 100000 in
theorem leaf_29 {p : Program} {e : Env} {s : State} {m : MethodId} {below : List Frame} {meth : Method} {c : Code} (l : Launch) (hst : l.stackTraces = false) {D : va_G} {κ : K4} {E0 : Nat} {a b : Nat → Nat} {o sb L : Nat} {xs : Nat → Int32} (hC : CallFix p m c code 9 s #[Value.ref sb] WALL RL) (hr : meth.sig.returnType = ret) (hlocks : meth.locks = false) (hX : va_X sb L xs s s.heap) (hbl : sb < s.heap.size) (hL4 : L = 4) (hE : EA E0 D κ (fun q => s.heap.size ≤ q) s s.heap) (hT : ET s) (k_1 : 365 ≤ (xs 1).toInt ∧ (xs 1).toInt ≤ 2147483647) (H : Heap) (locs : List Loc) (hG : BW D κ ((xw κ a ++ [(o, .inl (κ.2.1, 1, .inr (.inl (fun _ => 0))))]) ++ mw κ b E0 0) (fun q => s.heap.size ≤ q) s H locs) (ls : Array Slot) (hl : lv_has ls 9 [(4, .int 0), (3, .ref o), (2, .ref (b 0)), (1, .ref (a 0)), (0, .ref sb)]) : W p l e room_1 s m #[Value.ref sb] below meth c H locs 100 6000 (lw_Z below #[Value.ref sb] s) (F0 m 435 ls []) := by
  have hx := hC.1
  have hb := hC.2.1
  refine lv_aload_n hx hb dL_law_435 rfl (lv_at hl 3 rfl) ?_
  refine lv_aload_n hx hb dL_law_436 rfl (lv_at hl 4 rfl) ?_
  refine lv_iload hx hb dL_law_437 (lv_at hl 0 rfl) ?_
  refine lv_iconst (v := 1) hx hb dL_law_439 (by decide) ?_
  refine lv_iadd hx hb dL_law_440 ?_
  refine W.eq (g2 := F0 m 441 ls [.int 1, .ref sb, .ref (a 0)]) rfl ?_
  refine va_sld hx hb hX hbl (Nat.not_le_of_lt hbl) hG.2.2.2.1 (vp_box (by decide) (by rw [hL4]; decide)) dL_law_441 ?_
  refine W.eq (g2 := F0 m 442 ls [.int (xs 1), .ref (a 0)]) rfl ?_
  refine lv_aload_n hx hb dL_law_442 rfl (lv_at hl 1 rfl) ?_
  have cut443 : Cut ((xw κ a ++ [(o, .inl (κ.2.1, 1, .inr (.inl (fun _ => 0))))]) ++ mw κ b E0 0) ([(a 0, .inr (7, [.ref (a 1), .ref (a 7), .ref (a 12), .ref (a 23), .ref (a 28), .ref (a 33), .ref (a 37), .ref (a 41), .int (-1), .int 0])), (a 1, .inr (0, [.ref (a 2), .ref (a 3), .ref (a 4), .ref (a 5), .ref (a 6), .int 0])), (a 2, .inl (κ.1, 4, .inl (fun _ => 1000))), (a 3, .inl (κ.1, 10, .inl (fun _ => 0))), (a 4, .inl (κ.1, 10, .inl (fun _ => 0))), (a 5, .inl (κ.1, 10, .inl (fun _ => 0))), (a 6, .inl (κ.2.2.1, 10, .inl (fun _ => 0))), (a 7, .inr (1, [.ref (a 8), .int 0, .int 0, .int 0])), (a 8, .inr (4, [.ref (a 9), .ref (a 10), .ref (a 11), .int 0])), (a 9, .inl (κ.1, 10, .inl (fun _ => 0))), (a 10, .inl (κ.2.1, 10, .inr (.inl (fun _ => 0)))), (a 11, .inl (κ.2.1, 10, .inr (.inl (fun _ => 0)))), (a 12, .inr (3, [.ref (a 13), .ref (a 14), .ref (a 15), .ref (a 16), .ref (a 17), .ref (a 18), .int 0, .ref (a 19), .ref (a 20), .ref (a 21), .ref (a 22), .int 0])), (a 13, .inl (κ.1, 60, .inl (fun _ => 0))), (a 14, .inl (κ.1, 60, .inl (fun _ => 0))), (a 15, .inl (κ.1, 60, .inl (fun _ => 0))), (a 16, .inl (κ.1, 60, .inl (fun _ => 0))), (a 17, .inl (κ.2.2.1, 60, .inl (fun _ => 0))), (a 18, .inl (κ.2.2.1, 60, .inl (fun _ => 0))), (a 19, .inl (κ.1, 600, .inl (fun _ => 0))), (a 20, .inl (κ.1, 600, .inl (fun _ => 0))), (a 21, .inl (κ.2.1, 600, .inr (.inl (fun _ => 0)))), (a 22, .inl (κ.2.1, 600, .inr (.inl (fun _ => 0)))), (a 23, .inr (2, [.ref (a 24), .ref (a 25), .ref (a 26), .ref (a 27), .int 0])), (a 24, .inl (κ.1, 20, .inl (fun _ => 0))), (a 25, .inl (κ.1, 20, .inl (fun _ => 0))), (a 26, .inl (κ.1, 20, .inl (fun _ => 0))), (a 27, .inl (κ.2.2.1, 20, .inl (fun _ => 0))), (a 28, .inr (5, [.ref (a 29), .ref (a 30), .ref (a 31), .ref (a 32), .int 0])), (a 29, .inl (κ.1, 40, .inl (fun _ => 0))), (a 30, .inl (κ.1, 40, .inl (fun _ => 0))), (a 31, .inl (κ.1, 40, .inl (fun _ => 0))), (a 32, .inl (κ.1, 40, .inl (fun _ => 0))), (a 33, .inr (6, [.ref (a 12), .ref (a 28), .ref (a 34), .ref (a 35), .ref (a 36)])), (a 34, .inl (κ.1, 600, .inl (fun _ => (-1)))), (a 35, .inl (κ.1, 40, .inl (fun _ => (-1)))), (a 36, .inl (κ.1, 40, .inl (fun _ => (-1)))), (a 37, .inr (6, [.ref (a 12), .ref (a 28), .ref (a 38), .ref (a 39), .ref (a 40)])), (a 38, .inl (κ.1, 600, .inl (fun _ => (-1)))), (a 39, .inl (κ.1, 40, .inl (fun _ => (-1)))), (a 40, .inl (κ.1, 40, .inl (fun _ => (-1)))), (a 41, .inr (4, [.ref (a 42), .ref (a 43), .ref (a 44), .int 0])), (a 42, .inl (κ.1, 10, .inl (fun _ => 0))), (a 43, .inl (κ.2.1, 10, .inr (.inl (fun _ => 0)))), (a 44, .inl (κ.2.1, 10, .inr (.inl (fun _ => 0)))), (o, .inl (κ.2.1, 1, .inr (.inl (fun _ => 0))))]) ([(b 0, .inr (9, [.int 0, .ref (b 1), .ref (b 2), .ref (b 3), .ref (b 4), .ref (b 5), .ref (b 6), .ref (b 7), .null, .int 0, .int (-1), .int 0, .int 0, .int 0, .ref (b 8)])), (b 1, .inl (κ.1, 4, .inl (fun _ => 1000))), (b 2, .inr (10, [.int 0, .ref E0, .int 0])), (b 3, .inr (10, [.int 0, .ref E0, .int 0])), (b 4, .inr (10, [.int 0, .ref E0, .int 0])), (b 5, .inr (10, [.int 0, .ref E0, .int 0])), (b 6, .inr (10, [.int 0, .ref E0, .int 0])), (b 7, .inr (10, [.int 0, .ref E0, .int 0])), (b 8, .inr (10, [.int 0, .ref E0, .int 0]))]) := (Cut.idx [0, 1, 2, 3, 4, 5, 6, 7, 8, 9, 10, 11, 12, 13, 14, 15, 16, 17, 18, 19, 20, 21, 22, 23, 24, 25, 26, 27, 28, 29, 30, 31, 32, 33, 34, 35, 36, 37, 38, 39, 40, 41, 42, 43, 44, 45] [46, 47, 48, 49, 50, 51, 52, 53, 54] rfl rfl (by decide) (by decide) (by decide))
  refine zc_i hG cut443 (zr_H (n := 3) (As := [.ref (a 0), .int (xs 1), .ref o]) (rest := []) hC hG hE hT cut443 (z_129_pass l hst D κ E0 H.size a (xs 1) o ⟨by omega, by omega⟩) w393 w143 w395 w394 (by decide +kernel) ⟨Nat.le_of_ble_eq_true rfl, Nat.le_of_ble_eq_true rfl⟩ rfl hl.1 rfl (Nat.le_of_ble_eq_true rfl) dL_law_443 ⟨Nat.le_of_ble_eq_true rfl, Nat.le_of_ble_eq_true rfl⟩) (fun z1 H locs hG => ?_)
  have hG : BW D κ (([(b 0, .inr (9, [.int 0, .ref (b 1), .ref (b 2), .ref (b 3), .ref (b 4), .ref (b 5), .ref (b 6), .ref (b 7), .null, .int 0, .int (-1), .int 0, .int 0, .int 0, .ref (b 8)])), (b 1, .inl (κ.1, 4, .inl (fun _ => 1000))), (b 2, .inr (10, [.int 0, .ref E0, .int 0])), (b 3, .inr (10, [.int 0, .ref E0, .int 0])), (b 4, .inr (10, [.int 0, .ref E0, .int 0])), (b 5, .inr (10, [.int 0, .ref E0, .int 0])), (b 6, .inr (10, [.int 0, .ref E0, .int 0])), (b 7, .inr (10, [.int 0, .ref E0, .int 0])), (b 8, .inr (10, [.int 0, .ref E0, .int 0]))]) ++ ([(o, .inl (κ.2.1, 1, .inr (.inl (fun _ => 0))))])) _ s H locs := hG
  refine lv_istore (lv' := [(5, .int 1), (4, .int 0), (3, .ref o), (2, .ref (b 0)), (1, .ref (a 0)), (0, .ref sb)]) hx hb dL_law_446 hl (by decide) rfl (fun ls hl => ?_)
  refine lv_aload_n hx hb dL_law_448 rfl (lv_at hl 3 rfl) ?_
  refine lv_aload_n hx hb dL_law_449 rfl (lv_at hl 5 rfl) ?_
  refine lv_iload hx hb dL_law_450 (lv_at hl 1 rfl) ?_
  refine lv_iconst (v := 1) hx hb dL_law_452 (by decide) ?_
  refine lv_iadd hx hb dL_law_453 ?_
  refine W.eq (g2 := F0 m 454 ls [.int 1, .ref sb, .ref (b 0)]) rfl ?_
  refine va_sld hx hb hX hbl (Nat.not_le_of_lt hbl) hG.2.2.2.1 (vp_box (by decide) (by rw [hL4]; decide)) dL_law_454 ?_
  refine W.eq (g2 := F0 m 455 ls [.int (xs 1), .ref (b 0)]) rfl ?_
  have cut455 : Cut (([(b 0, .inr (9, [.int 0, .ref (b 1), .ref (b 2), .ref (b 3), .ref (b 4), .ref (b 5), .ref (b 6), .ref (b 7), .null, .int 0, .int (-1), .int 0, .int 0, .int 0, .ref (b 8)])), (b 1, .inl (κ.1, 4, .inl (fun _ => 1000))), (b 2, .inr (10, [.int 0, .ref E0, .int 0])), (b 3, .inr (10, [.int 0, .ref E0, .int 0])), (b 4, .inr (10, [.int 0, .ref E0, .int 0])), (b 5, .inr (10, [.int 0, .ref E0, .int 0])), (b 6, .inr (10, [.int 0, .ref E0, .int 0])), (b 7, .inr (10, [.int 0, .ref E0, .int 0])), (b 8, .inr (10, [.int 0, .ref E0, .int 0]))]) ++ ([(o, .inl (κ.2.1, 1, .inr (.inl (fun _ => 0))))])) (mw κ b E0 0) ([(o, .inl (κ.2.1, 1, .inr (.inl (fun _ => 0))))]) := (Cut.idx [0, 1, 2, 3, 4, 5, 6, 7, 8] [9] rfl rfl (by decide) (by decide) (by decide))
  refine zc_i hG cut455 (zr_V (k := 0) (ci := 9) (n := 1) (As := [.int (xs 1)]) (rest := []) hC hG hE hT cut455 (z_131_pass l hst D κ E0 H.size b (xs 1) ⟨by omega, by omega⟩) rfl rfl w400 w5 w403 w401 w402 (by decide +kernel) ⟨Nat.le_of_ble_eq_true rfl, Nat.le_of_ble_eq_true rfl⟩ rfl hl.1 rfl (Nat.le_of_ble_eq_true rfl) dL_law_455 ⟨Nat.le_of_ble_eq_true rfl, Nat.le_of_ble_eq_true rfl⟩) (fun z2 H locs hG => ?_)
  have hG : BW D κ (([(o, .inl (κ.2.1, 1, .inr (.inl (fun _ => 0))))]) ++ (mw κ b E0 1)) _ s H locs := hG
  refine lv_istore (lv' := [(6, .int 0), (5, .int 1), (4, .int 0), (3, .ref o), (2, .ref (b 0)), (1, .ref (a 0)), (0, .ref sb)]) hx hb dL_law_458 hl (by decide) rfl (fun ls hl => ?_)
  refine lv_aload_n hx hb dL_law_460 rfl (lv_at hl 4 rfl) ?_
  have cut461 : Cut (([(o, .inl (κ.2.1, 1, .inr (.inl (fun _ => 0))))]) ++ (mw κ b E0 1)) ([(b 0, .inr (9, [.int 1, .ref (b 1), .ref (b 2), .ref (b 3), .ref (b 4), .ref (b 5), .ref (b 6), .ref (b 7), .null, .int 0, .int (-1), .int 0, .int 0, .int 0, .ref (b 8)]))]) ([(o, .inl (κ.2.1, 1, .inr (.inl (fun _ => 0)))), (b 1, .inl (κ.1, 4, .inl (fun _ => 1000))), (b 2, .inr (10, [.int 0, .ref E0, .int 0])), (b 3, .inr (10, [.int 0, .ref E0, .int 0])), (b 4, .inr (10, [.int 0, .ref E0, .int 0])), (b 5, .inr (10, [.int 0, .ref E0, .int 0])), (b 6, .inr (10, [.int 0, .ref E0, .int 0])), (b 7, .inr (10, [.int 0, .ref E0, .int 0])), (b 8, .inr (10, [.int 0, .ref E0, .int 0]))]) := (Cut.idx [1] [0, 2, 3, 4, 5, 6, 7, 8, 9] rfl rfl (by decide) (by decide) (by decide))
  refine zc_i hG cut461 (zr_V (k := 1) (ci := 9) (n := 0) (As := []) (rest := []) hC hG hE hT cut461 (z_6_thrown l hst D κ E0 H.size b) rfl rfl w200 w5 w203 w201 w202 (by decide +kernel) ⟨Nat.le_of_ble_eq_true rfl, Nat.le_of_ble_eq_true rfl⟩ rfl hl.1 rfl (Nat.le_of_ble_eq_true rfl) dL_law_461 ⟨Nat.le_of_ble_eq_true rfl, Nat.le_of_ble_eq_true rfl⟩) (fun z3 H locs hG => ?_)
  have hG : BW D κ (([(o, .inl (κ.2.1, 1, .inr (.inl (fun _ => 0)))), (b 1, .inl (κ.1, 4, .inl (fun _ => 1000))), (b 2, .inr (10, [.int 0, .ref E0, .int 0])), (b 3, .inr (10, [.int 0, .ref E0, .int 0])), (b 4, .inr (10, [.int 0, .ref E0, .int 0])), (b 5, .inr (10, [.int 0, .ref E0, .int 0])), (b 6, .inr (10, [.int 0, .ref E0, .int 0])), (b 7, .inr (10, [.int 0, .ref E0, .int 0])), (b 8, .inr (10, [.int 0, .ref E0, .int 0]))]) ++ ([(b 0, .inr (9, [.int 1, .ref (b 1), .ref (b 2), .ref (b 3), .ref (b 4), .ref (b 5), .ref (b 6), .ref (b 7), .null, .int 0, .int (-1), .int 0, .int 0, .int 0, .ref (b 8)]))])) _ s H locs := hG
  refine lv_iload hx hb dL_law_464 (lv_at hl 1 rfl) ?_
  refine lv_icmp_eq (tgt := 471) hx hb dL_law_466 (by decide) (fun _ => ?_) (fun h466 => absurd (by decide) h466)
  refine lv_iload hx hb dL_law_471 (lv_at hl 1 rfl) ?_
  refine lv_if_ne (tgt := 488) hx hb dL_law_473 (by decide) (fun _ => ?_) (fun h473 => absurd h473 (by decide))
  refine lv_goto (tgt := 2042) hx hb dL_law_488 (by decide) ?_
  refine lv_iinc (v := 4) (lv' := [(4, .int 4), (6, .int 0), (5, .int 1), (3, .ref o), (2, .ref (b 0)), (1, .ref (a 0)), (0, .ref sb)]) hx hb dL_law_2042 hl (k := 2) rfl (by decide) (by decide) rfl (fun ls hl => ?_)
  refine lv_goto (tgt := 23) hx hb dL_law_2045 (by decide) ?_
  refine lv_iload hx hb dL_law_23 (lv_at hl 0 rfl) ?_
  refine lv_aload_n hx hb dL_law_25 rfl (lv_at hl 6 rfl) ?_
  refine va_slen hx hb hX hbl (Nat.not_le_of_lt hbl) hG.2.2.2.1 dL_law_26 ?_
  refine W.eq (g2 := F0 m 27 ls [.int 4, .int 4]) (by rw [hL4]; rfl) ?_
  refine lv_iconst (v := 4) hx hb dL_law_27 (by decide) ?_
  refine lv_isub hx hb dL_law_28 ?_
  refine W.eq (g2 := F0 m 29 ls [.int 0, .int 4]) rfl ?_
  refine lv_icmp_gt (tgt := 2048) hx hb dL_law_29 (by decide) (fun _ => ?_) (fun h29 => absurd (by decide) h29)
  refine lv_iconst (v := 1) hx hb dL_law_2048 (by decide) ?_
  refine W.widen (k := 600002) (n := 7302232) (Nat.le_of_ble_eq_true rfl) (Nat.le_of_ble_eq_true rfl) ?_
  refine va_forget (fun q hq => hG.2.2.2.1.2.2 q hq) ?_
  refine W.base ?_
  exact lw_ret (Drawn.sameBut.refl s.drawn lw_cs) hx hb hr hlocks dL_law_2049
