theorem dL_law_176 : decode code 176 = .ok (.aload_n 1, 1) := by decide +kernel
theorem dL_law_177 : decode code 177 = .ok (.aload_n 0, 1) := by decide +kernel
theorem dL_law_178 : decode code 178 = .ok (.iload 4, 2) := by decide +kernel
theorem dL_law_180 : decode code 180 = .ok (.iconst 1, 1) := by decide +kernel
theorem dL_law_181 : decode code 181 = .ok (.iadd, 1) := by decide +kernel
theorem dL_law_182 : decode code 182 = .ok (.iaload, 1) := by decide +kernel
theorem dL_law_183 : decode code 183 = .ok (.aload_n 0, 1) := by decide +kernel
theorem dL_law_184 : decode code 184 = .ok (.iload 4, 2) := by decide +kernel
theorem dL_law_186 : decode code 186 = .ok (.iconst 2, 1) := by decide +kernel
theorem dL_law_187 : decode code 187 = .ok (.iadd, 1) := by decide +kernel
theorem dL_law_188 : decode code 188 = .ok (.iaload, 1) := by decide +kernel
theorem dL_law_189 : decode code 189 = .ok (.aload_n 3, 1) := by decide +kernel
theorem dL_law_190 : decode code 190 = .ok (.invokestatic 110, 3) := by decide +kernel
theorem dL_law_193 : decode code 193 = .ok (.istore 5, 2) := by decide +kernel
theorem dL_law_195 : decode code 195 = .ok (.aload_n 2, 1) := by decide +kernel
theorem dL_law_196 : decode code 196 = .ok (.aload_n 0, 1) := by decide +kernel
theorem dL_law_197 : decode code 197 = .ok (.iload 4, 2) := by decide +kernel
theorem dL_law_199 : decode code 199 = .ok (.iconst 1, 1) := by decide +kernel
theorem dL_law_200 : decode code 200 = .ok (.iadd, 1) := by decide +kernel
theorem dL_law_201 : decode code 201 = .ok (.iaload, 1) := by decide +kernel
theorem dL_law_202 : decode code 202 = .ok (.aload_n 0, 1) := by decide +kernel
theorem dL_law_203 : decode code 203 = .ok (.iload 4, 2) := by decide +kernel
theorem dL_law_2042 : decode code 2042 = .ok (.iinc 4 4, 3) := by decide +kernel
theorem dL_law_2045 : decode code 2045 = .ok (.goto (-2022), 3) := by decide +kernel
theorem dL_law_2048 : decode code 2048 = .ok (.iconst 1, 1) := by decide +kernel
theorem dL_law_2049 : decode code 2049 = .ok (.ireturn, 1) := by decide +kernel
theorem dL_law_205 : decode code 205 = .ok (.iconst 2, 1) := by decide +kernel
theorem dL_law_206 : decode code 206 = .ok (.iadd, 1) := by decide +kernel
theorem dL_law_207 : decode code 207 = .ok (.iaload, 1) := by decide +kernel
theorem dL_law_208 : decode code 208 = .ok (.invokevirtual 115, 3) := by decide +kernel
theorem dL_law_211 : decode code 211 = .ok (.istore 6, 2) := by decide +kernel
theorem dL_law_213 : decode code 213 = .ok (.aload_n 2, 1) := by decide +kernel
theorem dL_law_214 : decode code 214 = .ok (.invokevirtual 116, 3) := by decide +kernel
theorem dL_law_217 : decode code 217 = .ok (.iload 5, 2) := by decide +kernel
theorem dL_law_219 : decode code 219 = .ok (.if_icmp .eq 5, 3) := by decide +kernel
theorem dL_law_224 : decode code 224 = .ok (.iload 5, 2) := by decide +kernel
theorem dL_law_226 : decode code 226 = .ok (.ifCond .ne 15, 3) := by decide +kernel
theorem dL_law_23 : decode code 23 = .ok (.iload 4, 2) := by decide +kernel
theorem dL_law_241 : decode code 241 = .ok (.goto 1801, 3) := by decide +kernel
theorem dL_law_25 : decode code 25 = .ok (.aload_n 0, 1) := by decide +kernel
theorem dL_law_26 : decode code 26 = .ok (.arraylength, 1) := by decide +kernel
theorem dL_law_27 : decode code 27 = .ok (.iconst 4, 1) := by decide +kernel
theorem dL_law_28 : decode code 28 = .ok (.isub, 1) := by decide +kernel
theorem dL_law_29 : decode code 29 = .ok (.if_icmp .gt 2019, 3) := by decide +kernel
set_option maxHeartbeats 4000000 in
set_option maxRecDepth 100000 in
theorem leaf_0 {p : Program} {e : Env} {s : State} {m : MethodId} {below : List Frame} {meth : Method} {c : Code} (l : Launch) (hst : l.stackTraces = false) {D : va_G} {κ : K4} {E0 : Nat} {a b : Nat → Nat} {o sb L : Nat} {xs : Nat → Int32} (hC : CallFix p m c code 9 s #[Value.ref sb] WALL RL) (hr : meth.sig.returnType = ret) (hlocks : meth.locks = false) (hX : va_X sb L xs s s.heap) (hbl : sb < s.heap.size) (hL4 : L = 4) (hE : EA E0 D κ (fun q => s.heap.size ≤ q) s s.heap) (hT : ET s) (k_1 : -2147483648 ≤ (xs 1).toInt ∧ (xs 1).toInt ≤ 0) (k_2 : -2147483648 ≤ (xs 2).toInt ∧ (xs 2).toInt ≤ 2147483647) (H : Heap) (locs : List Loc) (hG : BW D κ ((xw κ a ++ [(o, .inl (κ.2.1, 1, .inr (.inl (fun _ => 0))))]) ++ mw κ b E0 0) (fun q => s.heap.size ≤ q) s H locs) (ls : Array Slot) (hl : lv_has ls 9 [(4, .int 0), (3, .ref o), (2, .ref (b 0)), (1, .ref (a 0)), (0, .ref sb)]) : W p l e room_1 s m #[Value.ref sb] below meth c H locs 100 6000 (lw_Z below #[Value.ref sb] s) (F0 m 176 ls []) := by
  have hx := hC.1
  have hb := hC.2.1
  refine lv_aload_n hx hb dL_law_176 rfl (lv_at hl 3 rfl) ?_
  refine lv_aload_n hx hb dL_law_177 rfl (lv_at hl 4 rfl) ?_
  refine lv_iload hx hb dL_law_178 (lv_at hl 0 rfl) ?_
  refine lv_iconst (v := 1) hx hb dL_law_180 (by decide) ?_
  refine lv_iadd hx hb dL_law_181 ?_
  refine W.eq (g2 := F0 m 182 ls [.int 1, .ref sb, .ref (a 0)]) rfl ?_
  refine va_sld hx hb hX hbl (Nat.not_le_of_lt hbl) hG.2.2.2.1 (vp_box (by decide) (by rw [hL4]; decide)) dL_law_182 ?_
  refine W.eq (g2 := F0 m 183 ls [.int (xs 1), .ref (a 0)]) rfl ?_
  refine lv_aload_n hx hb dL_law_183 rfl (lv_at hl 4 rfl) ?_
  refine lv_iload hx hb dL_law_184 (lv_at hl 0 rfl) ?_
  refine lv_iconst (v := 2) hx hb dL_law_186 (by decide) ?_
  refine lv_iadd hx hb dL_law_187 ?_
  refine W.eq (g2 := F0 m 188 ls [.int 2, .ref sb, .int (xs 1), .ref (a 0)]) rfl ?_
  refine va_sld hx hb hX hbl (Nat.not_le_of_lt hbl) hG.2.2.2.1 (vp_box (by decide) (by rw [hL4]; decide)) dL_law_188 ?_
  refine W.eq (g2 := F0 m 189 ls [.int (xs 2), .int (xs 1), .ref (a 0)]) rfl ?_
  refine lv_aload_n hx hb dL_law_189 rfl (lv_at hl 1 rfl) ?_
  have cut190 : Cut ((xw κ a ++ [(o, .inl (κ.2.1, 1, .inr (.inl (fun _ => 0))))]) ++ mw κ b E0 0) ([(a 0, .inr (7, [.ref (a 1), .ref (a 7), .ref (a 12), .ref (a 23), .ref (a 28), .ref (a 33), .ref (a 37), .ref (a 41), .int (-1), .int 0])), (a 1, .inr (0, [.ref (a 2), .ref (a 3), .ref (a 4), .ref (a 5), .ref (a 6), .int 0])), (a 2, .inl (κ.1, 4, .inl (fun _ => 1000))), (a 3, .inl (κ.1, 10, .inl (fun _ => 0))), (a 4, .inl (κ.1, 10, .inl (fun _ => 0))), (a 5, .inl (κ.1, 10, .inl (fun _ => 0))), (a 6, .inl (κ.2.2.1, 10, .inl (fun _ => 0))), (a 7, .inr (1, [.ref (a 8), .int 0, .int 0, .int 0])), (a 8, .inr (4, [.ref (a 9), .ref (a 10), .ref (a 11), .int 0])), (a 9, .inl (κ.1, 10, .inl (fun _ => 0))), (a 10, .inl (κ.2.1, 10, .inr (.inl (fun _ => 0)))), (a 11, .inl (κ.2.1, 10, .inr (.inl (fun _ => 0)))), (a 12, .inr (3, [.ref (a 13), .ref (a 14), .ref (a 15), .ref (a 16), .ref (a 17), .ref (a 18), .int 0, .ref (a 19), .ref (a 20), .ref (a 21), .ref (a 22), .int 0])), (a 13, .inl (κ.1, 60, .inl (fun _ => 0))), (a 14, .inl (κ.1, 60, .inl (fun _ => 0))), (a 15, .inl (κ.1, 60, .inl (fun _ => 0))), (a 16, .inl (κ.1, 60, .inl (fun _ => 0))), (a 17, .inl (κ.2.2.1, 60, .inl (fun _ => 0))), (a 18, .inl (κ.2.2.1, 60, .inl (fun _ => 0))), (a 19, .inl (κ.1, 600, .inl (fun _ => 0))), (a 20, .inl (κ.1, 600, .inl (fun _ => 0))), (a 21, .inl (κ.2.1, 600, .inr (.inl (fun _ => 0)))), (a 22, .inl (κ.2.1, 600, .inr (.inl (fun _ => 0)))), (a 23, .inr (2, [.ref (a 24), .ref (a 25), .ref (a 26), .ref (a 27), .int 0])), (a 24, .inl (κ.1, 20, .inl (fun _ => 0))), (a 25, .inl (κ.1, 20, .inl (fun _ => 0))), (a 26, .inl (κ.1, 20, .inl (fun _ => 0))), (a 27, .inl (κ.2.2.1, 20, .inl (fun _ => 0))), (a 28, .inr (5, [.ref (a 29), .ref (a 30), .ref (a 31), .ref (a 32), .int 0])), (a 29, .inl (κ.1, 40, .inl (fun _ => 0))), (a 30, .inl (κ.1, 40, .inl (fun _ => 0))), (a 31, .inl (κ.1, 40, .inl (fun _ => 0))), (a 32, .inl (κ.1, 40, .inl (fun _ => 0))), (a 33, .inr (6, [.ref (a 12), .ref (a 28), .ref (a 34), .ref (a 35), .ref (a 36)])), (a 34, .inl (κ.1, 600, .inl (fun _ => (-1)))), (a 35, .inl (κ.1, 40, .inl (fun _ => (-1)))), (a 36, .inl (κ.1, 40, .inl (fun _ => (-1)))), (a 37, .inr (6, [.ref (a 12), .ref (a 28), .ref (a 38), .ref (a 39), .ref (a 40)])), (a 38, .inl (κ.1, 600, .inl (fun _ => (-1)))), (a 39, .inl (κ.1, 40, .inl (fun _ => (-1)))), (a 40, .inl (κ.1, 40, .inl (fun _ => (-1)))), (a 41, .inr (4, [.ref (a 42), .ref (a 43), .ref (a 44), .int 0])), (a 42, .inl (κ.1, 10, .inl (fun _ => 0))), (a 43, .inl (κ.2.1, 10, .inr (.inl (fun _ => 0)))), (a 44, .inl (κ.2.1, 10, .inr (.inl (fun _ => 0)))), (o, .inl (κ.2.1, 1, .inr (.inl (fun _ => 0))))]) ([(b 0, .inr (9, [.int 0, .ref (b 1), .ref (b 2), .ref (b 3), .ref (b 4), .ref (b 5), .ref (b 6), .ref (b 7), .null, .int 0, .int (-1), .int 0, .int 0, .int 0, .ref (b 8)])), (b 1, .inl (κ.1, 4, .inl (fun _ => 1000))), (b 2, .inr (10, [.int 0, .ref E0, .int 0])), (b 3, .inr (10, [.int 0, .ref E0, .int 0])), (b 4, .inr (10, [.int 0, .ref E0, .int 0])), (b 5, .inr (10, [.int 0, .ref E0, .int 0])), (b 6, .inr (10, [.int 0, .ref E0, .int 0])), (b 7, .inr (10, [.int 0, .ref E0, .int 0])), (b 8, .inr (10, [.int 0, .ref E0, .int 0]))]) := (Cut.idx [0, 1, 2, 3, 4, 5, 6, 7, 8, 9, 10, 11, 12, 13, 14, 15, 16, 17, 18, 19, 20, 21, 22, 23, 24, 25, 26, 27, 28, 29, 30, 31, 32, 33, 34, 35, 36, 37, 38, 39, 40, 41, 42, 43, 44, 45] [46, 47, 48, 49, 50, 51, 52, 53, 54] rfl rfl (by decide) (by decide) (by decide))
  refine zc_i hG cut190 (zr_H (n := 4) (As := [.ref (a 0), .int (xs 1), .int (xs 2), .ref o]) (rest := []) hC hG hE hT cut190 (z_1_rate l hst D κ E0 H.size a (xs 1) (xs 2) o ⟨by omega, by omega⟩ ⟨by omega, by omega⟩) w141 w143 w144 w142 (by decide +kernel) ⟨Nat.le_of_ble_eq_true rfl, Nat.le_of_ble_eq_true rfl⟩ rfl hl.1 rfl (Nat.le_of_ble_eq_true rfl) dL_law_190 ⟨Nat.le_of_ble_eq_true rfl, Nat.le_of_ble_eq_true rfl⟩) (fun z1 H locs hG => ?_)
  have hG : BW D κ (([(b 0, .inr (9, [.int 0, .ref (b 1), .ref (b 2), .ref (b 3), .ref (b 4), .ref (b 5), .ref (b 6), .ref (b 7), .null, .int 0, .int (-1), .int 0, .int 0, .int 0, .ref (b 8)])), (b 1, .inl (κ.1, 4, .inl (fun _ => 1000))), (b 2, .inr (10, [.int 0, .ref E0, .int 0])), (b 3, .inr (10, [.int 0, .ref E0, .int 0])), (b 4, .inr (10, [.int 0, .ref E0, .int 0])), (b 5, .inr (10, [.int 0, .ref E0, .int 0])), (b 6, .inr (10, [.int 0, .ref E0, .int 0])), (b 7, .inr (10, [.int 0, .ref E0, .int 0])), (b 8, .inr (10, [.int 0, .ref E0, .int 0]))]) ++ ([(o, .inl (κ.2.1, 1, .inr (.inl (fun _ => 0))))])) _ s H locs := hG
  refine lv_istore (lv' := [(5, .int 1), (4, .int 0), (3, .ref o), (2, .ref (b 0)), (1, .ref (a 0)), (0, .ref sb)]) hx hb dL_law_193 hl (by decide) rfl (fun ls hl => ?_)
  refine lv_aload_n hx hb dL_law_195 rfl (lv_at hl 3 rfl) ?_
  refine lv_aload_n hx hb dL_law_196 rfl (lv_at hl 5 rfl) ?_
  refine lv_iload hx hb dL_law_197 (lv_at hl 1 rfl) ?_
  refine lv_iconst (v := 1) hx hb dL_law_199 (by decide) ?_
  refine lv_iadd hx hb dL_law_200 ?_
  refine W.eq (g2 := F0 m 201 ls [.int 1, .ref sb, .ref (b 0)]) rfl ?_
  refine va_sld hx hb hX hbl (Nat.not_le_of_lt hbl) hG.2.2.2.1 (vp_box (by decide) (by rw [hL4]; decide)) dL_law_201 ?_
  refine W.eq (g2 := F0 m 202 ls [.int (xs 1), .ref (b 0)]) rfl ?_
  refine lv_aload_n hx hb dL_law_202 rfl (lv_at hl 5 rfl) ?_
  refine lv_iload hx hb dL_law_203 (lv_at hl 1 rfl) ?_
  refine lv_iconst (v := 2) hx hb dL_law_205 (by decide) ?_
  refine lv_iadd hx hb dL_law_206 ?_
  refine W.eq (g2 := F0 m 207 ls [.int 2, .ref sb, .int (xs 1), .ref (b 0)]) rfl ?_
  refine va_sld hx hb hX hbl (Nat.not_le_of_lt hbl) hG.2.2.2.1 (vp_box (by decide) (by rw [hL4]; decide)) dL_law_207 ?_
  refine W.eq (g2 := F0 m 208 ls [.int (xs 2), .int (xs 1), .ref (b 0)]) rfl ?_
  have cut208 : Cut (([(b 0, .inr (9, [.int 0, .ref (b 1), .ref (b 2), .ref (b 3), .ref (b 4), .ref (b 5), .ref (b 6), .ref (b 7), .null, .int 0, .int (-1), .int 0, .int 0, .int 0, .ref (b 8)])), (b 1, .inl (κ.1, 4, .inl (fun _ => 1000))), (b 2, .inr (10, [.int 0, .ref E0, .int 0])), (b 3, .inr (10, [.int 0, .ref E0, .int 0])), (b 4, .inr (10, [.int 0, .ref E0, .int 0])), (b 5, .inr (10, [.int 0, .ref E0, .int 0])), (b 6, .inr (10, [.int 0, .ref E0, .int 0])), (b 7, .inr (10, [.int 0, .ref E0, .int 0])), (b 8, .inr (10, [.int 0, .ref E0, .int 0]))]) ++ ([(o, .inl (κ.2.1, 1, .inr (.inl (fun _ => 0))))])) (mw κ b E0 0) ([(o, .inl (κ.2.1, 1, .inr (.inl (fun _ => 0))))]) := (Cut.idx [0, 1, 2, 3, 4, 5, 6, 7, 8] [9] rfl rfl (by decide) (by decide) (by decide))
  refine zc_i hG cut208 (zr_V (k := 0) (ci := 9) (n := 2) (As := [.int (xs 1), .int (xs 2)]) (rest := []) hC hG hE hT cut208 (z_5_rate l hst D κ E0 H.size b (xs 1) (xs 2) ⟨by omega, by omega⟩ ⟨by omega, by omega⟩) rfl rfl w160 w5 w163 w161 w162 (by decide +kernel) ⟨Nat.le_of_ble_eq_true rfl, Nat.le_of_ble_eq_true rfl⟩ rfl hl.1 rfl (Nat.le_of_ble_eq_true rfl) dL_law_208 ⟨Nat.le_of_ble_eq_true rfl, Nat.le_of_ble_eq_true rfl⟩) (fun z2 H locs hG => ?_)
  have hG : BW D κ (([(o, .inl (κ.2.1, 1, .inr (.inl (fun _ => 0))))]) ++ (mw κ b E0 1)) _ s H locs := hG
  refine lv_istore (lv' := [(6, .int 0), (5, .int 1), (4, .int 0), (3, .ref o), (2, .ref (b 0)), (1, .ref (a 0)), (0, .ref sb)]) hx hb dL_law_211 hl (by decide) rfl (fun ls hl => ?_)
  refine lv_aload_n hx hb dL_law_213 rfl (lv_at hl 4 rfl) ?_
  have cut214 : Cut (([(o, .inl (κ.2.1, 1, .inr (.inl (fun _ => 0))))]) ++ (mw κ b E0 1)) ([(b 0, .inr (9, [.int 1, .ref (b 1), .ref (b 2), .ref (b 3), .ref (b 4), .ref (b 5), .ref (b 6), .ref (b 7), .null, .int 0, .int (-1), .int 0, .int 0, .int 0, .ref (b 8)]))]) ([(o, .inl (κ.2.1, 1, .inr (.inl (fun _ => 0)))), (b 1, .inl (κ.1, 4, .inl (fun _ => 1000))), (b 2, .inr (10, [.int 0, .ref E0, .int 0])), (b 3, .inr (10, [.int 0, .ref E0, .int 0])), (b 4, .inr (10, [.int 0, .ref E0, .int 0])), (b 5, .inr (10, [.int 0, .ref E0, .int 0])), (b 6, .inr (10, [.int 0, .ref E0, .int 0])), (b 7, .inr (10, [.int 0, .ref E0, .int 0])), (b 8, .inr (10, [.int 0, .ref E0, .int 0]))]) := (Cut.idx [1] [0, 2, 3, 4, 5, 6, 7, 8, 9] rfl rfl (by decide) (by decide) (by decide))
  refine zc_i hG cut214 (zr_V (k := 1) (ci := 9) (n := 0) (As := []) (rest := []) hC hG hE hT cut214 (z_6_thrown l hst D κ E0 H.size b) rfl rfl w200 w5 w203 w201 w202 (by decide +kernel) ⟨Nat.le_of_ble_eq_true rfl, Nat.le_of_ble_eq_true rfl⟩ rfl hl.1 rfl (Nat.le_of_ble_eq_true rfl) dL_law_214 ⟨Nat.le_of_ble_eq_true rfl, Nat.le_of_ble_eq_true rfl⟩) (fun z3 H locs hG => ?_)
  have hG : BW D κ (([(o, .inl (κ.2.1, 1, .inr (.inl (fun _ => 0)))), (b 1, .inl (κ.1, 4, .inl (fun _ => 1000))), (b 2, .inr (10, [.int 0, .ref E0, .int 0])), (b 3, .inr (10, [.int 0, .ref E0, .int 0])), (b 4, .inr (10, [.int 0, .ref E0, .int 0])), (b 5, .inr (10, [.int 0, .ref E0, .int 0])), (b 6, .inr (10, [.int 0, .ref E0, .int 0])), (b 7, .inr (10, [.int 0, .ref E0, .int 0])), (b 8, .inr (10, [.int 0, .ref E0, .int 0]))]) ++ ([(b 0, .inr (9, [.int 1, .ref (b 1), .ref (b 2), .ref (b 3), .ref (b 4), .ref (b 5), .ref (b 6), .ref (b 7), .null, .int 0, .int (-1), .int 0, .int 0, .int 0, .ref (b 8)]))])) _ s H locs := hG
  refine lv_iload hx hb dL_law_217 (lv_at hl 1 rfl) ?_
  refine lv_icmp_eq (tgt := 224) hx hb dL_law_219 (by decide) (fun _ => ?_) (fun h219 => absurd (by decide) h219)
  refine lv_iload hx hb dL_law_224 (lv_at hl 1 rfl) ?_
  refine lv_if_ne (tgt := 241) hx hb dL_law_226 (by decide) (fun _ => ?_) (fun h226 => absurd h226 (by decide))
  refine lv_goto (tgt := 2042) hx hb dL_law_241 (by decide) ?_
  refine lv_iinc (v := 4) (lv' := [(4, .int 4), (6, .int 0), (5, .int 1), (3, .ref o), (2, .ref (b 0)), (1, .ref (a 0)), (0, .ref sb)]) hx hb dL_law_2042 hl (k := 2) rfl (by decide) (by decide) rfl (fun ls hl => ?_)
  refine lv_goto (tgt := 23) hx hb dL_law_2045 (by decide) ?_
  refine lv_iload hx hb dL_law_23 (lv_at hl 0 rfl) ?_
  refine lv_aload_n hx hb dL_law_25 rfl (lv_at hl 6 rfl) ?_
  refine va_slen hx hb hX hbl (Nat.not_le_of_lt hbl) hG.2.2.2.1 dL_law_26 ?_
  refine W.eq (g2 := F0 m 27 ls [.int 4, .int 4]) (by rw [hL4]; rfl) ?_
  refine lv_iconst (v := 4) hx hb dL_law_27 (by decide) ?_
  refine lv_isub hx hb dL_law_28 ?_
  refine W.eq (g2 := F0 m 29 ls [.int 0, .int 4]) rfl ?_
  refine lv_icmp_gt (tgt := 2048) hx hb dL_law_29 (by decide) (fun _ => ?_) (fun h29 => absurd (by decide) h29)
  refine lv_iconst (v := 1) hx hb dL_law_2048 (by decide) ?_
  refine W.widen (k := 600002) (n := 7302232) (Nat.le_of_ble_eq_true rfl) (Nat.le_of_ble_eq_true rfl) ?_
  refine va_forget (fun q hq => hG.2.2.2.1.2.2 q hq) ?_
  refine W.base ?_
  exact lw_ret (Drawn.sameBut.refl s.drawn lw_cs) hx hb hr hlocks dL_law_2049
set_option maxHeartbeats 4000000 in
set_option maxRecDepth 100000 in
theorem leaf_1 {p : Program} {e : Env} {s : State} {m : MethodId} {below : List Frame} {meth : Method} {c : Code} (l : Launch) (hst : l.stackTraces = false) {D : va_G} {κ : K4} {E0 : Nat} {a b : Nat → Nat} {o sb L : Nat} {xs : Nat → Int32} (hC : CallFix p m c code 9 s #[Value.ref sb] WALL RL) (hr : meth.sig.returnType = ret) (hlocks : meth.locks = false) (hX : va_X sb L xs s s.heap) (hbl : sb < s.heap.size) (hL4 : L = 4) (hE : EA E0 D κ (fun q => s.heap.size ≤ q) s s.heap) (hT : ET s) (k_1 : 4 ≤ (xs 1).toInt ∧ (xs 1).toInt ≤ 2147483647) (k_2 : -2147483648 ≤ (xs 2).toInt ∧ (xs 2).toInt ≤ 2147483647) (H : Heap) (locs : List Loc) (hG : BW D κ ((xw κ a ++ [(o, .inl (κ.2.1, 1, .inr (.inl (fun _ => 0))))]) ++ mw κ b E0 0) (fun q => s.heap.size ≤ q) s H locs) (ls : Array Slot) (hl : lv_has ls 9 [(4, .int 0), (3, .ref o), (2, .ref (b 0)), (1, .ref (a 0)), (0, .ref sb)]) : W p l e room_1 s m #[Value.ref sb] below meth c H locs 100 6000 (lw_Z below #[Value.ref sb] s) (F0 m 176 ls []) := by
  have hx := hC.1
  have hb := hC.2.1
  refine lv_aload_n hx hb dL_law_176 rfl (lv_at hl 3 rfl) ?_
  refine lv_aload_n hx hb dL_law_177 rfl (lv_at hl 4 rfl) ?_
  refine lv_iload hx hb dL_law_178 (lv_at hl 0 rfl) ?_
  refine lv_iconst (v := 1) hx hb dL_law_180 (by decide) ?_
  refine lv_iadd hx hb dL_law_181 ?_
  refine W.eq (g2 := F0 m 182 ls [.int 1, .ref sb, .ref (a 0)]) rfl ?_
  refine va_sld hx hb hX hbl (Nat.not_le_of_lt hbl) hG.2.2.2.1 (vp_box (by decide) (by rw [hL4]; decide)) dL_law_182 ?_
  refine W.eq (g2 := F0 m 183 ls [.int (xs 1), .ref (a 0)]) rfl ?_
  refine lv_aload_n hx hb dL_law_183 rfl (lv_at hl 4 rfl) ?_
  refine lv_iload hx hb dL_law_184 (lv_at hl 0 rfl) ?_
  refine lv_iconst (v := 2) hx hb dL_law_186 (by decide) ?_
  refine lv_iadd hx hb dL_law_187 ?_
  refine W.eq (g2 := F0 m 188 ls [.int 2, .ref sb, .int (xs 1), .ref (a 0)]) rfl ?_
  refine va_sld hx hb hX hbl (Nat.not_le_of_lt hbl) hG.2.2.2.1 (vp_box (by decide) (by rw [hL4]; decide)) dL_law_188 ?_
  refine W.eq (g2 := F0 m 189 ls [.int (xs 2), .int (xs 1), .ref (a 0)]) rfl ?_
  refine lv_aload_n hx hb dL_law_189 rfl (lv_at hl 1 rfl) ?_
  have cut190 : Cut ((xw κ a ++ [(o, .inl (κ.2.1, 1, .inr (.inl (fun _ => 0))))]) ++ mw κ b E0 0) ([(a 0, .inr (7, [.ref (a 1), .ref (a 7), .ref (a 12), .ref (a 23), .ref (a 28), .ref (a 33), .ref (a 37), .ref (a 41), .int (-1), .int 0])), (a 1, .inr (0, [.ref (a 2), .ref (a 3), .ref (a 4), .ref (a 5), .ref (a 6), .int 0])), (a 2, .inl (κ.1, 4, .inl (fun _ => 1000))), (a 3, .inl (κ.1, 10, .inl (fun _ => 0))), (a 4, .inl (κ.1, 10, .inl (fun _ => 0))), (a 5, .inl (κ.1, 10, .inl (fun _ => 0))), (a 6, .inl (κ.2.2.1, 10, .inl (fun _ => 0))), (a 7, .inr (1, [.ref (a 8), .int 0, .int 0, .int 0])), (a 8, .inr (4, [.ref (a 9), .ref (a 10), .ref (a 11), .int 0])), (a 9, .inl (κ.1, 10, .inl (fun _ => 0))), (a 10, .inl (κ.2.1, 10, .inr (.inl (fun _ => 0)))), (a 11, .inl (κ.2.1, 10, .inr (.inl (fun _ => 0)))), (a 12, .inr (3, [.ref (a 13), .ref (a 14), .ref (a 15), .ref (a 16), .ref (a 17), .ref (a 18), .int 0, .ref (a 19), .ref (a 20), .ref (a 21), .ref (a 22), .int 0])), (a 13, .inl (κ.1, 60, .inl (fun _ => 0))), (a 14, .inl (κ.1, 60, .inl (fun _ => 0))), (a 15, .inl (κ.1, 60, .inl (fun _ => 0))), (a 16, .inl (κ.1, 60, .inl (fun _ => 0))), (a 17, .inl (κ.2.2.1, 60, .inl (fun _ => 0))), (a 18, .inl (κ.2.2.1, 60, .inl (fun _ => 0))), (a 19, .inl (κ.1, 600, .inl (fun _ => 0))), (a 20, .inl (κ.1, 600, .inl (fun _ => 0))), (a 21, .inl (κ.2.1, 600, .inr (.inl (fun _ => 0)))), (a 22, .inl (κ.2.1, 600, .inr (.inl (fun _ => 0)))), (a 23, .inr (2, [.ref (a 24), .ref (a 25), .ref (a 26), .ref (a 27), .int 0])), (a 24, .inl (κ.1, 20, .inl (fun _ => 0))), (a 25, .inl (κ.1, 20, .inl (fun _ => 0))), (a 26, .inl (κ.1, 20, .inl (fun _ => 0))), (a 27, .inl (κ.2.2.1, 20, .inl (fun _ => 0))), (a 28, .inr (5, [.ref (a 29), .ref (a 30), .ref (a 31), .ref (a 32), .int 0])), (a 29, .inl (κ.1, 40, .inl (fun _ => 0))), (a 30, .inl (κ.1, 40, .inl (fun _ => 0))), (a 31, .inl (κ.1, 40, .inl (fun _ => 0))), (a 32, .inl (κ.1, 40, .inl (fun _ => 0))), (a 33, .inr (6, [.ref (a 12), .ref (a 28), .ref (a 34), .ref (a 35), .ref (a 36)])), (a 34, .inl (κ.1, 600, .inl (fun _ => (-1)))), (a 35, .inl (κ.1, 40, .inl (fun _ => (-1)))), (a 36, .inl (κ.1, 40, .inl (fun _ => (-1)))), (a 37, .inr (6, [.ref (a 12), .ref (a 28), .ref (a 38), .ref (a 39), .ref (a 40)])), (a 38, .inl (κ.1, 600, .inl (fun _ => (-1)))), (a 39, .inl (κ.1, 40, .inl (fun _ => (-1)))), (a 40, .inl (κ.1, 40, .inl (fun _ => (-1)))), (a 41, .inr (4, [.ref (a 42), .ref (a 43), .ref (a 44), .int 0])), (a 42, .inl (κ.1, 10, .inl (fun _ => 0))), (a 43, .inl (κ.2.1, 10, .inr (.inl (fun _ => 0)))), (a 44, .inl (κ.2.1, 10, .inr (.inl (fun _ => 0)))), (o, .inl (κ.2.1, 1, .inr (.inl (fun _ => 0))))]) ([(b 0, .inr (9, [.int 0, .ref (b 1), .ref (b 2), .ref (b 3), .ref (b 4), .ref (b 5), .ref (b 6), .ref (b 7), .null, .int 0, .int (-1), .int 0, .int 0, .int 0, .ref (b 8)])), (b 1, .inl (κ.1, 4, .inl (fun _ => 1000))), (b 2, .inr (10, [.int 0, .ref E0, .int 0])), (b 3, .inr (10, [.int 0, .ref E0, .int 0])), (b 4, .inr (10, [.int 0, .ref E0, .int 0])), (b 5, .inr (10, [.int 0, .ref E0, .int 0])), (b 6, .inr (10, [.int 0, .ref E0, .int 0])), (b 7, .inr (10, [.int 0, .ref E0, .int 0])), (b 8, .inr (10, [.int 0, .ref E0, .int 0]))]) := (Cut.idx [0, 1, 2, 3, 4, 5, 6, 7, 8, 9, 10, 11, 12, 13, 14, 15, 16, 17, 18, 19, 20, 21, 22, 23, 24, 25, 26, 27, 28, 29, 30, 31, 32, 33, 34, 35, 36, 37, 38, 39, 40, 41, 42, 43, 44, 45] [46, 47, 48, 49, 50, 51, 52, 53, 54] rfl rfl (by decide) (by decide) (by decide))
  refine zc_i hG cut190 (zr_H (n := 4) (As := [.ref (a 0), .int (xs 1), .int (xs 2), .ref o]) (rest := []) hC hG hE hT cut190 (z_8_rate l hst D κ E0 H.size a (xs 1) (xs 2) o ⟨by omega, by omega⟩ ⟨by omega, by omega⟩) w141 w143 w144 w142 (by decide +kernel) ⟨Nat.le_of_ble_eq_true rfl, Nat.le_of_ble_eq_true rfl⟩ rfl hl.1 rfl (Nat.le_of_ble_eq_true rfl) dL_law_190 ⟨Nat.le_of_ble_eq_true rfl, Nat.le_of_ble_eq_true rfl⟩) (fun z1 H locs hG => ?_)
  have hG : BW D κ (([(b 0, .inr (9, [.int 0, .ref (b 1), .ref (b 2), .ref (b 3), .ref (b 4), .ref (b 5), .ref (b 6), .ref (b 7), .null, .int 0, .int (-1), .int 0, .int 0, .int 0, .ref (b 8)])), (b 1, .inl (κ.1, 4, .inl (fun _ => 1000))), (b 2, .inr (10, [.int 0, .ref E0, .int 0])), (b 3, .inr (10, [.int 0, .ref E0, .int 0])), (b 4, .inr (10, [.int 0, .ref E0, .int 0])), (b 5, .inr (10, [.int 0, .ref E0, .int 0])), (b 6, .inr (10, [.int 0, .ref E0, .int 0])), (b 7, .inr (10, [.int 0, .ref E0, .int 0])), (b 8, .inr (10, [.int 0, .ref E0, .int 0]))]) ++ ([(o, .inl (κ.2.1, 1, .inr (.inl (fun _ => 0))))])) _ s H locs := hG
  refine lv_istore (lv' := [(5, .int 1), (4, .int 0), (3, .ref o), (2, .ref (b 0)), (1, .ref (a 0)), (0, .ref sb)]) hx hb dL_law_193 hl (by decide) rfl (fun ls hl => ?_)
  refine lv_aload_n hx hb dL_law_195 rfl (lv_at hl 3 rfl) ?_
  refine lv_aload_n hx hb dL_law_196 rfl (lv_at hl 5 rfl) ?_
  refine lv_iload hx hb dL_law_197 (lv_at hl 1 rfl) ?_
  refine lv_iconst (v := 1) hx hb dL_law_199 (by decide) ?_
  refine lv_iadd hx hb dL_law_200 ?_
  refine W.eq (g2 := F0 m 201 ls [.int 1, .ref sb, .ref (b 0)]) rfl ?_
  refine va_sld hx hb hX hbl (Nat.not_le_of_lt hbl) hG.2.2.2.1 (vp_box (by decide) (by rw [hL4]; decide)) dL_law_201 ?_
  refine W.eq (g2 := F0 m 202 ls [.int (xs 1), .ref (b 0)]) rfl ?_
  refine lv_aload_n hx hb dL_law_202 rfl (lv_at hl 5 rfl) ?_
  refine lv_iload hx hb dL_law_203 (lv_at hl 1 rfl) ?_
  refine lv_iconst (v := 2) hx hb dL_law_205 (by decide) ?_
  refine lv_iadd hx hb dL_law_206 ?_
  refine W.eq (g2 := F0 m 207 ls [.int 2, .ref sb, .int (xs 1), .ref (b 0)]) rfl ?_
  refine va_sld hx hb hX hbl (Nat.not_le_of_lt hbl) hG.2.2.2.1 (vp_box (by decide) (by rw [hL4]; decide)) dL_law_207 ?_
  refine W.eq (g2 := F0 m 208 ls [.int (xs 2), .int (xs 1), .ref (b 0)]) rfl ?_
  have cut208 : Cut (([(b 0, .inr (9, [.int 0, .ref (b 1), .ref (b 2), .ref (b 3), .ref (b 4), .ref (b 5), .ref (b 6), .ref (b 7), .null, .int 0, .int (-1), .int 0, .int 0, .int 0, .ref (b 8)])), (b 1, .inl (κ.1, 4, .inl (fun _ => 1000))), (b 2, .inr (10, [.int 0, .ref E0, .int 0])), (b 3, .inr (10, [.int 0, .ref E0, .int 0])), (b 4, .inr (10, [.int 0, .ref E0, .int 0])), (b 5, .inr (10, [.int 0, .ref E0, .int 0])), (b 6, .inr (10, [.int 0, .ref E0, .int 0])), (b 7, .inr (10, [.int 0, .ref E0, .int 0])), (b 8, .inr (10, [.int 0, .ref E0, .int 0]))]) ++ ([(o, .inl (κ.2.1, 1, .inr (.inl (fun _ => 0))))])) (mw κ b E0 0) ([(o, .inl (κ.2.1, 1, .inr (.inl (fun _ => 0))))]) := (Cut.idx [0, 1, 2, 3, 4, 5, 6, 7, 8] [9] rfl rfl (by decide) (by decide) (by decide))
  refine zc_i hG cut208 (zr_V (k := 0) (ci := 9) (n := 2) (As := [.int (xs 1), .int (xs 2)]) (rest := []) hC hG hE hT cut208 (z_10_rate l hst D κ E0 H.size b (xs 1) (xs 2) ⟨by omega, by omega⟩ ⟨by omega, by omega⟩) rfl rfl w160 w5 w163 w161 w162 (by decide +kernel) ⟨Nat.le_of_ble_eq_true rfl, Nat.le_of_ble_eq_true rfl⟩ rfl hl.1 rfl (Nat.le_of_ble_eq_true rfl) dL_law_208 ⟨Nat.le_of_ble_eq_true rfl, Nat.le_of_ble_eq_true rfl⟩) (fun z2 H locs hG => ?_)
  have hG : BW D κ (([(o, .inl (κ.2.1, 1, .inr (.inl (fun _ => 0))))]) ++ (mw κ b E0 1)) _ s H locs := hG
  refine lv_istore (lv' := [(6, .int 0), (5, .int 1), (4, .int 0), (3, .ref o), (2, .ref (b 0)), (1, .ref (a 0)), (0, .ref sb)]) hx hb dL_law_211 hl (by decide) rfl (fun ls hl => ?_)
  refine lv_aload_n hx hb dL_law_213 rfl (lv_at hl 4 rfl) ?_
  have cut214 : Cut (([(o, .inl (κ.2.1, 1, .inr (.inl (fun _ => 0))))]) ++ (mw κ b E0 1)) ([(b 0, .inr (9, [.int 1, .ref (b 1), .ref (b 2), .ref (b 3), .ref (b 4), .ref (b 5), .ref (b 6), .ref (b 7), .null, .int 0, .int (-1), .int 0, .int 0, .int 0, .ref (b 8)]))]) ([(o, .inl (κ.2.1, 1, .inr (.inl (fun _ => 0)))), (b 1, .inl (κ.1, 4, .inl (fun _ => 1000))), (b 2, .inr (10, [.int 0, .ref E0, .int 0])), (b 3, .inr (10, [.int 0, .ref E0, .int 0])), (b 4, .inr (10, [.int 0, .ref E0, .int 0])), (b 5, .inr (10, [.int 0, .ref E0, .int 0])), (b 6, .inr (10, [.int 0, .ref E0, .int 0])), (b 7, .inr (10, [.int 0, .ref E0, .int 0])), (b 8, .inr (10, [.int 0, .ref E0, .int 0]))]) := (Cut.idx [1] [0, 2, 3, 4, 5, 6, 7, 8, 9] rfl rfl (by decide) (by decide) (by decide))
  refine zc_i hG cut214 (zr_V (k := 1) (ci := 9) (n := 0) (As := []) (rest := []) hC hG hE hT cut214 (z_6_thrown l hst D κ E0 H.size b) rfl rfl w200 w5 w203 w201 w202 (by decide +kernel) ⟨Nat.le_of_ble_eq_true rfl, Nat.le_of_ble_eq_true rfl⟩ rfl hl.1 rfl (Nat.le_of_ble_eq_true rfl) dL_law_214 ⟨Nat.le_of_ble_eq_true rfl, Nat.le_of_ble_eq_true rfl⟩) (fun z3 H locs hG => ?_)
  have hG : BW D κ (([(o, .inl (κ.2.1, 1, .inr (.inl (fun _ => 0)))), (b 1, .inl (κ.1, 4, .inl (fun _ => 1000))), (b 2, .inr (10, [.int 0, .ref E0, .int 0])), (b 3, .inr (10, [.int 0, .ref E0, .int 0])), (b 4, .inr (10, [.int 0, .ref E0, .int 0])), (b 5, .inr (10, [.int 0, .ref E0, .int 0])), (b 6, .inr (10, [.int 0, .ref E0, .int 0])), (b 7, .inr (10, [.int 0, .ref E0, .int 0])), (b 8, .inr (10, [.int 0, .ref E0, .int 0]))]) ++ ([(b 0, .inr (9, [.int 1, .ref (b 1), .ref (b 2), .ref (b 3), .ref (b 4), .ref (b 5), .ref (b 6), .ref (b 7), .null, .int 0, .int (-1), .int 0, .int 0, .int 0, .ref (b 8)]))])) _ s H locs := hG
  refine lv_iload hx hb dL_law_217 (lv_at hl 1 rfl) ?_
  refine lv_icmp_eq (tgt := 224) hx hb dL_law_219 (by decide) (fun _ => ?_) (fun h219 => absurd (by decide) h219)
  refine lv_iload hx hb dL_law_224 (lv_at hl 1 rfl) ?_
  refine lv_if_ne (tgt := 241) hx hb dL_law_226 (by decide) (fun _ => ?_) (fun h226 => absurd h226 (by decide))
  refine lv_goto (tgt := 2042) hx hb dL_law_241 (by decide) ?_
  refine lv_iinc (v := 4) (lv' := [(4, .int 4), (6, .int 0), (5, .int 1), (3, .ref o), (2, .ref (b 0)), (1, .ref (a 0)), (0, .ref sb)]) hx hb dL_law_2042 hl (k := 2) rfl (by decide) (by decide) rfl (fun ls hl => ?_)
  refine lv_goto (tgt := 23) hx hb dL_law_2045 (by decide) ?_
  refine lv_iload hx hb dL_law_23 (lv_at hl 0 rfl) ?_
  refine lv_aload_n hx hb dL_law_25 rfl (lv_at hl 6 rfl) ?_
  refine va_slen hx hb hX hbl (Nat.not_le_of_lt hbl) hG.2.2.2.1 dL_law_26 ?_
  refine W.eq (g2 := F0 m 27 ls [.int 4, .int 4]) (by rw [hL4]; rfl) ?_
  refine lv_iconst (v := 4) hx hb dL_law_27 (by decide) ?_
  refine lv_isub hx hb dL_law_28 ?_
  refine W.eq (g2 := F0 m 29 ls [.int 0, .int 4]) rfl ?_
  refine lv_icmp_gt (tgt := 2048) hx hb dL_law_29 (by decide) (fun _ => ?_) (fun h29 => absurd (by decide) h29)
  refine lv_iconst (v := 1) hx hb dL_law_2048 (by decide) ?_
  refine W.widen (k := 600002) (n := 7302232) (Nat.le_of_ble_eq_true rfl) (Nat.le_of_ble_eq_true rfl) ?_
  refine va_forget (fun q hq => hG.2.2.2.1.2.2 q hq) ?_
  refine W.base ?_
  exact lw_ret (Drawn.sameBut.refl s.drawn lw_cs) hx hb hr hlocks dL_law_2049
set_option maxHeartbeats 4000000 in
set_option maxRecDepth 100000 in
theorem leaf_2 {p : Program} {e : Env} {s : State} {m : MethodId} {below : List Frame} {meth : Method} {c : Code} (l : Launch) (hst : l.stackTraces = false) {D : va_G} {κ : K4} {E0 : Nat} {a b : Nat → Nat} {o sb L : Nat} {xs : Nat → Int32} (hC : CallFix p m c code 9 s #[Value.ref sb] WALL RL) (hr : meth.sig.returnType = ret) (hlocks : meth.locks = false) (hX : va_X sb L xs s s.heap) (hbl : sb < s.heap.size) (hL4 : L = 4) (hE : EA E0 D κ (fun q => s.heap.size ≤ q) s s.heap) (hT : ET s) (k_1 : 1 ≤ (xs 1).toInt ∧ (xs 1).toInt ≤ 3) (k_2 : -2147483648 ≤ (xs 2).toInt ∧ (xs 2).toInt ≤ 0) (H : Heap) (locs : List Loc) (hG : BW D κ ((xw κ a ++ [(o, .inl (κ.2.1, 1, .inr (.inl (fun _ => 0))))]) ++ mw κ b E0 0) (fun q => s.heap.size ≤ q) s H locs) (ls : Array Slot) (hl : lv_has ls 9 [(4, .int 0), (3, .ref o), (2, .ref (b 0)), (1, .ref (a 0)), (0, .ref sb)]) : W p l e room_1 s m #[Value.ref sb] below meth c H locs 100 6000 (lw_Z below #[Value.ref sb] s) (F0 m 176 ls []) := by
  have hx := hC.1
  have hb := hC.2.1
  refine lv_aload_n hx hb dL_law_176 rfl (lv_at hl 3 rfl) ?_
  refine lv_aload_n hx hb dL_law_177 rfl (lv_at hl 4 rfl) ?_
  refine lv_iload hx hb dL_law_178 (lv_at hl 0 rfl) ?_
  refine lv_iconst (v := 1) hx hb dL_law_180 (by decide) ?_
  refine lv_iadd hx hb dL_law_181 ?_
  refine W.eq (g2 := F0 m 182 ls [.int 1, .ref sb, .ref (a 0)]) rfl ?_
  refine va_sld hx hb hX hbl (Nat.not_le_of_lt hbl) hG.2.2.2.1 (vp_box (by decide) (by rw [hL4]; decide)) dL_law_182 ?_
  refine W.eq (g2 := F0 m 183 ls [.int (xs 1), .ref (a 0)]) rfl ?_
  refine lv_aload_n hx hb dL_law_183 rfl (lv_at hl 4 rfl) ?_
  refine lv_iload hx hb dL_law_184 (lv_at hl 0 rfl) ?_
  refine lv_iconst (v := 2) hx hb dL_law_186 (by decide) ?_
  refine lv_iadd hx hb dL_law_187 ?_
  refine W.eq (g2 := F0 m 188 ls [.int 2, .ref sb, .int (xs 1), .ref (a 0)]) rfl ?_
  refine va_sld hx hb hX hbl (Nat.not_le_of_lt hbl) hG.2.2.2.1 (vp_box (by decide) (by rw [hL4]; decide)) dL_law_188 ?_
  refine W.eq (g2 := F0 m 189 ls [.int (xs 2), .int (xs 1), .ref (a 0)]) rfl ?_
  refine lv_aload_n hx hb dL_law_189 rfl (lv_at hl 1 rfl) ?_
  have cut190 : Cut ((xw κ a ++ [(o, .inl (κ.2.1, 1, .inr (.inl (fun _ => 0))))]) ++ mw κ b E0 0) ([(a 0, .inr (7, [.ref (a 1), .ref (a 7), .ref (a 12), .ref (a 23), .ref (a 28), .ref (a 33), .ref (a 37), .ref (a 41), .int (-1), .int 0])), (a 1, .inr (0, [.ref (a 2), .ref (a 3), .ref (a 4), .ref (a 5), .ref (a 6), .int 0])), (a 2, .inl (κ.1, 4, .inl (fun _ => 1000))), (a 3, .inl (κ.1, 10, .inl (fun _ => 0))), (a 4, .inl (κ.1, 10, .inl (fun _ => 0))), (a 5, .inl (κ.1, 10, .inl (fun _ => 0))), (a 6, .inl (κ.2.2.1, 10, .inl (fun _ => 0))), (a 7, .inr (1, [.ref (a 8), .int 0, .int 0, .int 0])), (a 8, .inr (4, [.ref (a 9), .ref (a 10), .ref (a 11), .int 0])), (a 9, .inl (κ.1, 10, .inl (fun _ => 0))), (a 10, .inl (κ.2.1, 10, .inr (.inl (fun _ => 0)))), (a 11, .inl (κ.2.1, 10, .inr (.inl (fun _ => 0)))), (a 12, .inr (3, [.ref (a 13), .ref (a 14), .ref (a 15), .ref (a 16), .ref (a 17), .ref (a 18), .int 0, .ref (a 19), .ref (a 20), .ref (a 21), .ref (a 22), .int 0])), (a 13, .inl (κ.1, 60, .inl (fun _ => 0))), (a 14, .inl (κ.1, 60, .inl (fun _ => 0))), (a 15, .inl (κ.1, 60, .inl (fun _ => 0))), (a 16, .inl (κ.1, 60, .inl (fun _ => 0))), (a 17, .inl (κ.2.2.1, 60, .inl (fun _ => 0))), (a 18, .inl (κ.2.2.1, 60, .inl (fun _ => 0))), (a 19, .inl (κ.1, 600, .inl (fun _ => 0))), (a 20, .inl (κ.1, 600, .inl (fun _ => 0))), (a 21, .inl (κ.2.1, 600, .inr (.inl (fun _ => 0)))), (a 22, .inl (κ.2.1, 600, .inr (.inl (fun _ => 0)))), (a 23, .inr (2, [.ref (a 24), .ref (a 25), .ref (a 26), .ref (a 27), .int 0])), (a 24, .inl (κ.1, 20, .inl (fun _ => 0))), (a 25, .inl (κ.1, 20, .inl (fun _ => 0))), (a 26, .inl (κ.1, 20, .inl (fun _ => 0))), (a 27, .inl (κ.2.2.1, 20, .inl (fun _ => 0))), (a 28, .inr (5, [.ref (a 29), .ref (a 30), .ref (a 31), .ref (a 32), .int 0])), (a 29, .inl (κ.1, 40, .inl (fun _ => 0))), (a 30, .inl (κ.1, 40, .inl (fun _ => 0))), (a 31, .inl (κ.1, 40, .inl (fun _ => 0))), (a 32, .inl (κ.1, 40, .inl (fun _ => 0))), (a 33, .inr (6, [.ref (a 12), .ref (a 28), .ref (a 34), .ref (a 35), .ref (a 36)])), (a 34, .inl (κ.1, 600, .inl (fun _ => (-1)))), (a 35, .inl (κ.1, 40, .inl (fun _ => (-1)))), (a 36, .inl (κ.1, 40, .inl (fun _ => (-1)))), (a 37, .inr (6, [.ref (a 12), .ref (a 28), .ref (a 38), .ref (a 39), .ref (a 40)])), (a 38, .inl (κ.1, 600, .inl (fun _ => (-1)))), (a 39, .inl (κ.1, 40, .inl (fun _ => (-1)))), (a 40, .inl (κ.1, 40, .inl (fun _ => (-1)))), (a 41, .inr (4, [.ref (a 42), .ref (a 43), .ref (a 44), .int 0])), (a 42, .inl (κ.1, 10, .inl (fun _ => 0))), (a 43, .inl (κ.2.1, 10, .inr (.inl (fun _ => 0)))), (a 44, .inl (κ.2.1, 10, .inr (.inl (fun _ => 0)))), (o, .inl (κ.2.1, 1, .inr (.inl (fun _ => 0))))]) ([(b 0, .inr (9, [.int 0, .ref (b 1), .ref (b 2), .ref (b 3), .ref (b 4), .ref (b 5), .ref (b 6), .ref (b 7), .null, .int 0, .int (-1), .int 0, .int 0, .int 0, .ref (b 8)])), (b 1, .inl (κ.1, 4, .inl (fun _ => 1000))), (b 2, .inr (10, [.int 0, .ref E0, .int 0])), (b 3, .inr (10, [.int 0, .ref E0, .int 0])), (b 4, .inr (10, [.int 0, .ref E0, .int 0])), (b 5, .inr (10, [.int 0, .ref E0, .int 0])), (b 6, .inr (10, [.int 0, .ref E0, .int 0])), (b 7, .inr (10, [.int 0, .ref E0, .int 0])), (b 8, .inr (10, [.int 0, .ref E0, .int 0]))]) := (Cut.idx [0, 1, 2, 3, 4, 5, 6, 7, 8, 9, 10, 11, 12, 13, 14, 15, 16, 17, 18, 19, 20, 21, 22, 23, 24, 25, 26, 27, 28, 29, 30, 31, 32, 33, 34, 35, 36, 37, 38, 39, 40, 41, 42, 43, 44, 45] [46, 47, 48, 49, 50, 51, 52, 53, 54] rfl rfl (by decide) (by decide) (by decide))
  refine zc_i hG cut190 (zr_H (n := 4) (As := [.ref (a 0), .int (xs 1), .int (xs 2), .ref o]) (rest := []) hC hG hE hT cut190 (z_12_rate l hst D κ E0 H.size a (xs 1) (xs 2) o ⟨by omega, by omega⟩ ⟨by omega, by omega⟩) w141 w143 w144 w142 (by decide +kernel) ⟨Nat.le_of_ble_eq_true rfl, Nat.le_of_ble_eq_true rfl⟩ rfl hl.1 rfl (Nat.le_of_ble_eq_true rfl) dL_law_190 ⟨Nat.le_of_ble_eq_true rfl, Nat.le_of_ble_eq_true rfl⟩) (fun z1 H locs hG => ?_)
  have hG : BW D κ (([(b 0, .inr (9, [.int 0, .ref (b 1), .ref (b 2), .ref (b 3), .ref (b 4), .ref (b 5), .ref (b 6), .ref (b 7), .null, .int 0, .int (-1), .int 0, .int 0, .int 0, .ref (b 8)])), (b 1, .inl (κ.1, 4, .inl (fun _ => 1000))), (b 2, .inr (10, [.int 0, .ref E0, .int 0])), (b 3, .inr (10, [.int 0, .ref E0, .int 0])), (b 4, .inr (10, [.int 0, .ref E0, .int 0])), (b 5, .inr (10, [.int 0, .ref E0, .int 0])), (b 6, .inr (10, [.int 0, .ref E0, .int 0])), (b 7, .inr (10, [.int 0, .ref E0, .int 0])), (b 8, .inr (10, [.int 0, .ref E0, .int 0]))]) ++ ([(o, .inl (κ.2.1, 1, .inr (.inl (fun _ => 0))))])) _ s H locs := hG
  refine lv_istore (lv' := [(5, .int 1), (4, .int 0), (3, .ref o), (2, .ref (b 0)), (1, .ref (a 0)), (0, .ref sb)]) hx hb dL_law_193 hl (by decide) rfl (fun ls hl => ?_)
  refine lv_aload_n hx hb dL_law_195 rfl (lv_at hl 3 rfl) ?_
  refine lv_aload_n hx hb dL_law_196 rfl (lv_at hl 5 rfl) ?_
  refine lv_iload hx hb dL_law_197 (lv_at hl 1 rfl) ?_
  refine lv_iconst (v := 1) hx hb dL_law_199 (by decide) ?_
  refine lv_iadd hx hb dL_law_200 ?_
  refine W.eq (g2 := F0 m 201 ls [.int 1, .ref sb, .ref (b 0)]) rfl ?_
  refine va_sld hx hb hX hbl (Nat.not_le_of_lt hbl) hG.2.2.2.1 (vp_box (by decide) (by rw [hL4]; decide)) dL_law_201 ?_
  refine W.eq (g2 := F0 m 202 ls [.int (xs 1), .ref (b 0)]) rfl ?_
  refine lv_aload_n hx hb dL_law_202 rfl (lv_at hl 5 rfl) ?_
  refine lv_iload hx hb dL_law_203 (lv_at hl 1 rfl) ?_
  refine lv_iconst (v := 2) hx hb dL_law_205 (by decide) ?_
  refine lv_iadd hx hb dL_law_206 ?_
  refine W.eq (g2 := F0 m 207 ls [.int 2, .ref sb, .int (xs 1), .ref (b 0)]) rfl ?_
  refine va_sld hx hb hX hbl (Nat.not_le_of_lt hbl) hG.2.2.2.1 (vp_box (by decide) (by rw [hL4]; decide)) dL_law_207 ?_
  refine W.eq (g2 := F0 m 208 ls [.int (xs 2), .int (xs 1), .ref (b 0)]) rfl ?_
  have cut208 : Cut (([(b 0, .inr (9, [.int 0, .ref (b 1), .ref (b 2), .ref (b 3), .ref (b 4), .ref (b 5), .ref (b 6), .ref (b 7), .null, .int 0, .int (-1), .int 0, .int 0, .int 0, .ref (b 8)])), (b 1, .inl (κ.1, 4, .inl (fun _ => 1000))), (b 2, .inr (10, [.int 0, .ref E0, .int 0])), (b 3, .inr (10, [.int 0, .ref E0, .int 0])), (b 4, .inr (10, [.int 0, .ref E0, .int 0])), (b 5, .inr (10, [.int 0, .ref E0, .int 0])), (b 6, .inr (10, [.int 0, .ref E0, .int 0])), (b 7, .inr (10, [.int 0, .ref E0, .int 0])), (b 8, .inr (10, [.int 0, .ref E0, .int 0]))]) ++ ([(o, .inl (κ.2.1, 1, .inr (.inl (fun _ => 0))))])) (mw κ b E0 0) ([(o, .inl (κ.2.1, 1, .inr (.inl (fun _ => 0))))]) := (Cut.idx [0, 1, 2, 3, 4, 5, 6, 7, 8] [9] rfl rfl (by decide) (by decide) (by decide))
  refine zc_i hG cut208 (zr_V (k := 0) (ci := 9) (n := 2) (As := [.int (xs 1), .int (xs 2)]) (rest := []) hC hG hE hT cut208 (z_15_rate l hst D κ E0 H.size b (xs 1) (xs 2) ⟨by omega, by omega⟩ ⟨by omega, by omega⟩) rfl rfl w160 w5 w163 w161 w162 (by decide +kernel) ⟨Nat.le_of_ble_eq_true rfl, Nat.le_of_ble_eq_true rfl⟩ rfl hl.1 rfl (Nat.le_of_ble_eq_true rfl) dL_law_208 ⟨Nat.le_of_ble_eq_true rfl, Nat.le_of_ble_eq_true rfl⟩) (fun z2 H locs hG => ?_)
  have hG : BW D κ (([(o, .inl (κ.2.1, 1, .inr (.inl (fun _ => 0))))]) ++ (mw κ b E0 1)) _ s H locs := hG
  refine lv_istore (lv' := [(6, .int 0), (5, .int 1), (4, .int 0), (3, .ref o), (2, .ref (b 0)), (1, .ref (a 0)), (0, .ref sb)]) hx hb dL_law_211 hl (by decide) rfl (fun ls hl => ?_)
  refine lv_aload_n hx hb dL_law_213 rfl (lv_at hl 4 rfl) ?_
  have cut214 : Cut (([(o, .inl (κ.2.1, 1, .inr (.inl (fun _ => 0))))]) ++ (mw κ b E0 1)) ([(b 0, .inr (9, [.int 1, .ref (b 1), .ref (b 2), .ref (b 3), .ref (b 4), .ref (b 5), .ref (b 6), .ref (b 7), .null, .int 0, .int (-1), .int 0, .int 0, .int 0, .ref (b 8)]))]) ([(o, .inl (κ.2.1, 1, .inr (.inl (fun _ => 0)))), (b 1, .inl (κ.1, 4, .inl (fun _ => 1000))), (b 2, .inr (10, [.int 0, .ref E0, .int 0])), (b 3, .inr (10, [.int 0, .ref E0, .int 0])), (b 4, .inr (10, [.int 0, .ref E0, .int 0])), (b 5, .inr (10, [.int 0, .ref E0, .int 0])), (b 6, .inr (10, [.int 0, .ref E0, .int 0])), (b 7, .inr (10, [.int 0, .ref E0, .int 0])), (b 8, .inr (10, [.int 0, .ref E0, .int 0]))]) := (Cut.idx [1] [0, 2, 3, 4, 5, 6, 7, 8, 9] rfl rfl (by decide) (by decide) (by decide))
  refine zc_i hG cut214 (zr_V (k := 1) (ci := 9) (n := 0) (As := []) (rest := []) hC hG hE hT cut214 (z_6_thrown l hst D κ E0 H.size b) rfl rfl w200 w5 w203 w201 w202 (by decide +kernel) ⟨Nat.le_of_ble_eq_true rfl, Nat.le_of_ble_eq_true rfl⟩ rfl hl.1 rfl (Nat.le_of_ble_eq_true rfl) dL_law_214 ⟨Nat.le_of_ble_eq_true rfl, Nat.le_of_ble_eq_true rfl⟩) (fun z3 H locs hG => ?_)
  have hG : BW D κ (([(o, .inl (κ.2.1, 1, .inr (.inl (fun _ => 0)))), (b 1, .inl (κ.1, 4, .inl (fun _ => 1000))), (b 2, .inr (10, [.int 0, .ref E0, .int 0])), (b 3, .inr (10, [.int 0, .ref E0, .int 0])), (b 4, .inr (10, [.int 0, .ref E0, .int 0])), (b 5, .inr (10, [.int 0, .ref E0, .int 0])), (b 6, .inr (10, [.int 0, .ref E0, .int 0])), (b 7, .inr (10, [.int 0, .ref E0, .int 0])), (b 8, .inr (10, [.int 0, .ref E0, .int 0]))]) ++ ([(b 0, .inr (9, [.int 1, .ref (b 1), .ref (b 2), .ref (b 3), .ref (b 4), .ref (b 5), .ref (b 6), .ref (b 7), .null, .int 0, .int (-1), .int 0, .int 0, .int 0, .ref (b 8)]))])) _ s H locs := hG
  refine lv_iload hx hb dL_law_217 (lv_at hl 1 rfl) ?_
  refine lv_icmp_eq (tgt := 224) hx hb dL_law_219 (by decide) (fun _ => ?_) (fun h219 => absurd (by decide) h219)
  refine lv_iload hx hb dL_law_224 (lv_at hl 1 rfl) ?_
  refine lv_if_ne (tgt := 241) hx hb dL_law_226 (by decide) (fun _ => ?_) (fun h226 => absurd h226 (by decide))
  refine lv_goto (tgt := 2042) hx hb dL_law_241 (by decide) ?_
  refine lv_iinc (v := 4) (lv' := [(4, .int 4), (6, .int 0), (5, .int 1), (3, .ref o), (2, .ref (b 0)), (1, .ref (a 0)), (0, .ref sb)]) hx hb dL_law_2042 hl (k := 2) rfl (by decide) (by decide) rfl (fun ls hl => ?_)
  refine lv_goto (tgt := 23) hx hb dL_law_2045 (by decide) ?_
  refine lv_iload hx hb dL_law_23 (lv_at hl 0 rfl) ?_
  refine lv_aload_n hx hb dL_law_25 rfl (lv_at hl 6 rfl) ?_
  refine va_slen hx hb hX hbl (Nat.not_le_of_lt hbl) hG.2.2.2.1 dL_law_26 ?_
  refine W.eq (g2 := F0 m 27 ls [.int 4, .int 4]) (by rw [hL4]; rfl) ?_
  refine lv_iconst (v := 4) hx hb dL_law_27 (by decide) ?_
  refine lv_isub hx hb dL_law_28 ?_
  refine W.eq (g2 := F0 m 29 ls [.int 0, .int 4]) rfl ?_
  refine lv_icmp_gt (tgt := 2048) hx hb dL_law_29 (by decide) (fun _ => ?_) (fun h29 => absurd (by decide) h29)
  refine lv_iconst (v := 1) hx hb dL_law_2048 (by decide) ?_
  refine W.widen (k := 600002) (n := 7302232) (Nat.le_of_ble_eq_true rfl) (Nat.le_of_ble_eq_true rfl) ?_
  refine va_forget (fun q hq => hG.2.2.2.1.2.2 q hq) ?_
  refine W.base ?_
  exact lw_ret (Drawn.sameBut.refl s.drawn lw_cs) hx hb hr hlocks dL_law_2049
set_option maxHeartbeats 4000000 in
set_option maxRecDepth 100000 in
theorem leaf_3 {p : Program} {e : Env} {s : State} {m : MethodId} {below : List Frame} {meth : Method} {c : Code} (l : Launch) (hst : l.stackTraces = false) {D : va_G} {κ : K4} {E0 : Nat} {a b : Nat → Nat} {o sb L : Nat} {xs : Nat → Int32} (hC : CallFix p m c code 9 s #[Value.ref sb] WALL RL) (hr : meth.sig.returnType = ret) (hlocks : meth.locks = false) (hX : va_X sb L xs s s.heap) (hbl : sb < s.heap.size) (hL4 : L = 4) (hE : EA E0 D κ (fun q => s.heap.size ≤ q) s s.heap) (hT : ET s) (k_1 : 1 ≤ (xs 1).toInt ∧ (xs 1).toInt ≤ 3) (k_2 : 100001 ≤ (xs 2).toInt ∧ (xs 2).toInt ≤ 2147483647) (H : Heap) (locs : List Loc) (hG : BW D κ ((xw κ a ++ [(o, .inl (κ.2.1, 1, .inr (.inl (fun _ => 0))))]) ++ mw κ b E0 0) (fun q => s.heap.size ≤ q) s H locs) (ls : Array Slot) (hl : lv_has ls 9 [(4, .int 0), (3, .ref o), (2, .ref (b 0)), (1, .ref (a 0)), (0, .ref sb)]) : W p l e room_1 s m #[Value.ref sb] below meth c H locs 100 6000 (lw_Z below #[Value.ref sb] s) (F0 m 176 ls []) := by
  have hx := hC.1
  have hb := hC.2.1
  refine lv_aload_n hx hb dL_law_176 rfl (lv_at hl 3 rfl) ?_
  refine lv_aload_n hx hb dL_law_177 rfl (lv_at hl 4 rfl) ?_
  refine lv_iload hx hb dL_law_178 (lv_at hl 0 rfl) ?_
  refine lv_iconst (v := 1) hx hb dL_law_180 (by decide) ?_
  refine lv_iadd hx hb dL_law_181 ?_
  refine W.eq (g2 := F0 m 182 ls [.int 1, .ref sb, .ref (a 0)]) rfl ?_
  refine va_sld hx hb hX hbl (Nat.not_le_of_lt hbl) hG.2.2.2.1 (vp_box (by decide) (by rw [hL4]; decide)) dL_law_182 ?_
  refine W.eq (g2 := F0 m 183 ls [.int (xs 1), .ref (a 0)]) rfl ?_
  refine lv_aload_n hx hb dL_law_183 rfl (lv_at hl 4 rfl) ?_
  refine lv_iload hx hb dL_law_184 (lv_at hl 0 rfl) ?_
  refine lv_iconst (v := 2) hx hb dL_law_186 (by decide) ?_
  refine lv_iadd hx hb dL_law_187 ?_
  refine W.eq (g2 := F0 m 188 ls [.int 2, .ref sb, .int (xs 1), .ref (a 0)]) rfl ?_
  refine va_sld hx hb hX hbl (Nat.not_le_of_lt hbl) hG.2.2.2.1 (vp_box (by decide) (by rw [hL4]; decide)) dL_law_188 ?_
  refine W.eq (g2 := F0 m 189 ls [.int (xs 2), .int (xs 1), .ref (a 0)]) rfl ?_
  refine lv_aload_n hx hb dL_law_189 rfl (lv_at hl 1 rfl) ?_
  have cut190 : Cut ((xw κ a ++ [(o, .inl (κ.2.1, 1, .inr (.inl (fun _ => 0))))]) ++ mw κ b E0 0) ([(a 0, .inr (7, [.ref (a 1), .ref (a 7), .ref (a 12), .ref (a 23), .ref (a 28), .ref (a 33), .ref (a 37), .ref (a 41), .int (-1), .int 0])), (a 1, .inr (0, [.ref (a 2), .ref (a 3), .ref (a 4), .ref (a 5), .ref (a 6), .int 0])), (a 2, .inl (κ.1, 4, .inl (fun _ => 1000))), (a 3, .inl (κ.1, 10, .inl (fun _ => 0))), (a 4, .inl (κ.1, 10, .inl (fun _ => 0))), (a 5, .inl (κ.1, 10, .inl (fun _ => 0))), (a 6, .inl (κ.2.2.1, 10, .inl (fun _ => 0))), (a 7, .inr (1, [.ref (a 8), .int 0, .int 0, .int 0])), (a 8, .inr (4, [.ref (a 9), .ref (a 10), .ref (a 11), .int 0])), (a 9, .inl (κ.1, 10, .inl (fun _ => 0))), (a 10, .inl (κ.2.1, 10, .inr (.inl (fun _ => 0)))), (a 11, .inl (κ.2.1, 10, .inr (.inl (fun _ => 0)))), (a 12, .inr (3, [.ref (a 13), .ref (a 14), .ref (a 15), .ref (a 16), .ref (a 17), .ref (a 18), .int 0, .ref (a 19), .ref (a 20), .ref (a 21), .ref (a 22), .int 0])), (a 13, .inl (κ.1, 60, .inl (fun _ => 0))), (a 14, .inl (κ.1, 60, .inl (fun _ => 0))), (a 15, .inl (κ.1, 60, .inl (fun _ => 0))), (a 16, .inl (κ.1, 60, .inl (fun _ => 0))), (a 17, .inl (κ.2.2.1, 60, .inl (fun _ => 0))), (a 18, .inl (κ.2.2.1, 60, .inl (fun _ => 0))), (a 19, .inl (κ.1, 600, .inl (fun _ => 0))), (a 20, .inl (κ.1, 600, .inl (fun _ => 0))), (a 21, .inl (κ.2.1, 600, .inr (.inl (fun _ => 0)))), (a 22, .inl (κ.2.1, 600, .inr (.inl (fun _ => 0)))), (a 23, .inr (2, [.ref (a 24), .ref (a 25), .ref (a 26), .ref (a 27), .int 0])), (a 24, .inl (κ.1, 20, .inl (fun _ => 0))), (a 25, .inl (κ.1, 20, .inl (fun _ => 0))), (a 26, .inl (κ.1, 20, .inl (fun _ => 0))), (a 27, .inl (κ.2.2.1, 20, .inl (fun _ => 0))), (a 28, .inr (5, [.ref (a 29), .ref (a 30), .ref (a 31), .ref (a 32), .int 0])), (a 29, .inl (κ.1, 40, .inl (fun _ => 0))), (a 30, .inl (κ.1, 40, .inl (fun _ => 0))), (a 31, .inl (κ.1, 40, .inl (fun _ => 0))), (a 32, .inl (κ.1, 40, .inl (fun _ => 0))), (a 33, .inr (6, [.ref (a 12), .ref (a 28), .ref (a 34), .ref (a 35), .ref (a 36)])), (a 34, .inl (κ.1, 600, .inl (fun _ => (-1)))), (a 35, .inl (κ.1, 40, .inl (fun _ => (-1)))), (a 36, .inl (κ.1, 40, .inl (fun _ => (-1)))), (a 37, .inr (6, [.ref (a 12), .ref (a 28), .ref (a 38), .ref (a 39), .ref (a 40)])), (a 38, .inl (κ.1, 600, .inl (fun _ => (-1)))), (a 39, .inl (κ.1, 40, .inl (fun _ => (-1)))), (a 40, .inl (κ.1, 40, .inl (fun _ => (-1)))), (a 41, .inr (4, [.ref (a 42), .ref (a 43), .ref (a 44), .int 0])), (a 42, .inl (κ.1, 10, .inl (fun _ => 0))), (a 43, .inl (κ.2.1, 10, .inr (.inl (fun _ => 0)))), (a 44, .inl (κ.2.1, 10, .inr (.inl (fun _ => 0)))), (o, .inl (κ.2.1, 1, .inr (.inl (fun _ => 0))))]) ([(b 0, .inr (9, [.int 0, .ref (b 1), .ref (b 2), .ref (b 3), .ref (b 4), .ref (b 5), .ref (b 6), .ref (b 7), .null, .int 0, .int (-1), .int 0, .int 0, .int 0, .ref (b 8)])), (b 1, .inl (κ.1, 4, .inl (fun _ => 1000))), (b 2, .inr (10, [.int 0, .ref E0, .int 0])), (b 3, .inr (10, [.int 0, .ref E0, .int 0])), (b 4, .inr (10, [.int 0, .ref E0, .int 0])), (b 5, .inr (10, [.int 0, .ref E0, .int 0])), (b 6, .inr (10, [.int 0, .ref E0, .int 0])), (b 7, .inr (10, [.int 0, .ref E0, .int 0])), (b 8, .inr (10, [.int 0, .ref E0, .int 0]))]) := (Cut.idx [0, 1, 2, 3, 4, 5, 6, 7, 8, 9, 10, 11, 12, 13, 14, 15, 16, 17, 18, 19, 20, 21, 22, 23, 24, 25, 26, 27, 28, 29, 30, 31, 32, 33, 34, 35, 36, 37, 38, 39, 40, 41, 42, 43, 44, 45] [46, 47, 48, 49, 50, 51, 52, 53, 54] rfl rfl (by decide) (by decide) (by decide))
  refine zc_i hG cut190 (zr_H (n := 4) (As := [.ref (a 0), .int (xs 1), .int (xs 2), .ref o]) (rest := []) hC hG hE hT cut190 (z_17_rate l hst D κ E0 H.size a (xs 1) (xs 2) o ⟨by omega, by omega⟩ ⟨by omega, by omega⟩) w141 w143 w144 w142 (by decide +kernel) ⟨Nat.le_of_ble_eq_true rfl, Nat.le_of_ble_eq_true rfl⟩ rfl hl.1 rfl (Nat.le_of_ble_eq_true rfl) dL_law_190 ⟨Nat.le_of_ble_eq_true rfl, Nat.le_of_ble_eq_true rfl⟩) (fun z1 H locs hG => ?_)
  have hG : BW D κ (([(b 0, .inr (9, [.int 0, .ref (b 1), .ref (b 2), .ref (b 3), .ref (b 4), .ref (b 5), .ref (b 6), .ref (b 7), .null, .int 0, .int (-1), .int 0, .int 0, .int 0, .ref (b 8)])), (b 1, .inl (κ.1, 4, .inl (fun _ => 1000))), (b 2, .inr (10, [.int 0, .ref E0, .int 0])), (b 3, .inr (10, [.int 0, .ref E0, .int 0])), (b 4, .inr (10, [.int 0, .ref E0, .int 0])), (b 5, .inr (10, [.int 0, .ref E0, .int 0])), (b 6, .inr (10, [.int 0, .ref E0, .int 0])), (b 7, .inr (10, [.int 0, .ref E0, .int 0])), (b 8, .inr (10, [.int 0, .ref E0, .int 0]))]) ++ ([(o, .inl (κ.2.1, 1, .inr (.inl (fun _ => 0))))])) _ s H locs := hG
  refine lv_istore (lv' := [(5, .int 1), (4, .int 0), (3, .ref o), (2, .ref (b 0)), (1, .ref (a 0)), (0, .ref sb)]) hx hb dL_law_193 hl (by decide) rfl (fun ls hl => ?_)
  refine lv_aload_n hx hb dL_law_195 rfl (lv_at hl 3 rfl) ?_
  refine lv_aload_n hx hb dL_law_196 rfl (lv_at hl 5 rfl) ?_
  refine lv_iload hx hb dL_law_197 (lv_at hl 1 rfl) ?_
  refine lv_iconst (v := 1) hx hb dL_law_199 (by decide) ?_
  refine lv_iadd hx hb dL_law_200 ?_
  refine W.eq (g2 := F0 m 201 ls [.int 1, .ref sb, .ref (b 0)]) rfl ?_
  refine va_sld hx hb hX hbl (Nat.not_le_of_lt hbl) hG.2.2.2.1 (vp_box (by decide) (by rw [hL4]; decide)) dL_law_201 ?_
  refine W.eq (g2 := F0 m 202 ls [.int (xs 1), .ref (b 0)]) rfl ?_
  refine lv_aload_n hx hb dL_law_202 rfl (lv_at hl 5 rfl) ?_
  refine lv_iload hx hb dL_law_203 (lv_at hl 1 rfl) ?_
  refine lv_iconst (v := 2) hx hb dL_law_205 (by decide) ?_
  refine lv_iadd hx hb dL_law_206 ?_
  refine W.eq (g2 := F0 m 207 ls [.int 2, .ref sb, .int (xs 1), .ref (b 0)]) rfl ?_
  refine va_sld hx hb hX hbl (Nat.not_le_of_lt hbl) hG.2.2.2.1 (vp_box (by decide) (by rw [hL4]; decide)) dL_law_207 ?_
  refine W.eq (g2 := F0 m 208 ls [.int (xs 2), .int (xs 1), .ref (b 0)]) rfl ?_
  have cut208 : Cut (([(b 0, .inr (9, [.int 0, .ref (b 1), .ref (b 2), .ref (b 3), .ref (b 4), .ref (b 5), .ref (b 6), .ref (b 7), .null, .int 0, .int (-1), .int 0, .int 0, .int 0, .ref (b 8)])), (b 1, .inl (κ.1, 4, .inl (fun _ => 1000))), (b 2, .inr (10, [.int 0, .ref E0, .int 0])), (b 3, .inr (10, [.int 0, .ref E0, .int 0])), (b 4, .inr (10, [.int 0, .ref E0, .int 0])), (b 5, .inr (10, [.int 0, .ref E0, .int 0])), (b 6, .inr (10, [.int 0, .ref E0, .int 0])), (b 7, .inr (10, [.int 0, .ref E0, .int 0])), (b 8, .inr (10, [.int 0, .ref E0, .int 0]))]) ++ ([(o, .inl (κ.2.1, 1, .inr (.inl (fun _ => 0))))])) (mw κ b E0 0) ([(o, .inl (κ.2.1, 1, .inr (.inl (fun _ => 0))))]) := (Cut.idx [0, 1, 2, 3, 4, 5, 6, 7, 8] [9] rfl rfl (by decide) (by decide) (by decide))
  refine zc_i hG cut208 (zr_V (k := 0) (ci := 9) (n := 2) (As := [.int (xs 1), .int (xs 2)]) (rest := []) hC hG hE hT cut208 (z_19_rate l hst D κ E0 H.size b (xs 1) (xs 2) ⟨by omega, by omega⟩ ⟨by omega, by omega⟩) rfl rfl w160 w5 w163 w161 w162 (by decide +kernel) ⟨Nat.le_of_ble_eq_true rfl, Nat.le_of_ble_eq_true rfl⟩ rfl hl.1 rfl (Nat.le_of_ble_eq_true rfl) dL_law_208 ⟨Nat.le_of_ble_eq_true rfl, Nat.le_of_ble_eq_true rfl⟩) (fun z2 H locs hG => ?_)
  have hG : BW D κ (([(o, .inl (κ.2.1, 1, .inr (.inl (fun _ => 0))))]) ++ (mw κ b E0 1)) _ s H locs := hG
  refine lv_istore (lv' := [(6, .int 0), (5, .int 1), (4, .int 0), (3, .ref o), (2, .ref (b 0)), (1, .ref (a 0)), (0, .ref sb)]) hx hb dL_law_211 hl (by decide) rfl (fun ls hl => ?_)
  refine lv_aload_n hx hb dL_law_213 rfl (lv_at hl 4 rfl) ?_
  have cut214 : Cut (([(o, .inl (κ.2.1, 1, .inr (.inl (fun _ => 0))))]) ++ (mw κ b E0 1)) ([(b 0, .inr (9, [.int 1, .ref (b 1), .ref (b 2), .ref (b 3), .ref (b 4), .ref (b 5), .ref (b 6), .ref (b 7), .null, .int 0, .int (-1), .int 0, .int 0, .int 0, .ref (b 8)]))]) ([(o, .inl (κ.2.1, 1, .inr (.inl (fun _ => 0)))), (b 1, .inl (κ.1, 4, .inl (fun _ => 1000))), (b 2, .inr (10, [.int 0, .ref E0, .int 0])), (b 3, .inr (10, [.int 0, .ref E0, .int 0])), (b 4, .inr (10, [.int 0, .ref E0, .int 0])), (b 5, .inr (10, [.int 0, .ref E0, .int 0])), (b 6, .inr (10, [.int 0, .ref E0, .int 0])), (b 7, .inr (10, [.int 0, .ref E0, .int 0])), (b 8, .inr (10, [.int 0, .ref E0, .int 0]))]) := (Cut.idx [1] [0, 2, 3, 4, 5, 6, 7, 8, 9] rfl rfl (by decide) (by decide) (by decide))
  refine zc_i hG cut214 (zr_V (k := 1) (ci := 9) (n := 0) (As := []) (rest := []) hC hG hE hT cut214 (z_6_thrown l hst D κ E0 H.size b) rfl rfl w200 w5 w203 w201 w202 (by decide +kernel) ⟨Nat.le_of_ble_eq_true rfl, Nat.le_of_ble_eq_true rfl⟩ rfl hl.1 rfl (Nat.le_of_ble_eq_true rfl) dL_law_214 ⟨Nat.le_of_ble_eq_true rfl, Nat.le_of_ble_eq_true rfl⟩) (fun z3 H locs hG => ?_)
  have hG : BW D κ (([(o, .inl (κ.2.1, 1, .inr (.inl (fun _ => 0)))), (b 1, .inl (κ.1, 4, .inl (fun _ => 1000))), (b 2, .inr (10, [.int 0, .ref E0, .int 0])), (b 3, .inr (10, [.int 0, .ref E0, .int 0])), (b 4, .inr (10, [.int 0, .ref E0, .int 0])), (b 5, .inr (10, [.int 0, .ref E0, .int 0])), (b 6, .inr (10, [.int 0, .ref E0, .int 0])), (b 7, .inr (10, [.int 0, .ref E0, .int 0])), (b 8, .inr (10, [.int 0, .ref E0, .int 0]))]) ++ ([(b 0, .inr (9, [.int 1, .ref (b 1), .ref (b 2), .ref (b 3), .ref (b 4), .ref (b 5), .ref (b 6), .ref (b 7), .null, .int 0, .int (-1), .int 0, .int 0, .int 0, .ref (b 8)]))])) _ s H locs := hG
  refine lv_iload hx hb dL_law_217 (lv_at hl 1 rfl) ?_
  refine lv_icmp_eq (tgt := 224) hx hb dL_law_219 (by decide) (fun _ => ?_) (fun h219 => absurd (by decide) h219)
  refine lv_iload hx hb dL_law_224 (lv_at hl 1 rfl) ?_
  refine lv_if_ne (tgt := 241) hx hb dL_law_226 (by decide) (fun _ => ?_) (fun h226 => absurd h226 (by decide))
  refine lv_goto (tgt := 2042) hx hb dL_law_241 (by decide) ?_
  refine lv_iinc (v := 4) (lv' := [(4, .int 4), (6, .int 0), (5, .int 1), (3, .ref o), (2, .ref (b 0)), (1, .ref (a 0)), (0, .ref sb)]) hx hb dL_law_2042 hl (k := 2) rfl (by decide) (by decide) rfl (fun ls hl => ?_)
  refine lv_goto (tgt := 23) hx hb dL_law_2045 (by decide) ?_
  refine lv_iload hx hb dL_law_23 (lv_at hl 0 rfl) ?_
  refine lv_aload_n hx hb dL_law_25 rfl (lv_at hl 6 rfl) ?_
  refine va_slen hx hb hX hbl (Nat.not_le_of_lt hbl) hG.2.2.2.1 dL_law_26 ?_
  refine W.eq (g2 := F0 m 27 ls [.int 4, .int 4]) (by rw [hL4]; rfl) ?_
  refine lv_iconst (v := 4) hx hb dL_law_27 (by decide) ?_
  refine lv_isub hx hb dL_law_28 ?_
  refine W.eq (g2 := F0 m 29 ls [.int 0, .int 4]) rfl ?_
  refine lv_icmp_gt (tgt := 2048) hx hb dL_law_29 (by decide) (fun _ => ?_) (fun h29 => absurd (by decide) h29)
  refine lv_iconst (v := 1) hx hb dL_law_2048 (by decide) ?_
  refine W.widen (k := 600002) (n := 7302232) (Nat.le_of_ble_eq_true rfl) (Nat.le_of_ble_eq_true rfl) ?_
  refine va_forget (fun q hq => hG.2.2.2.1.2.2 q hq) ?_
  refine W.base ?_
  exact lw_ret (Drawn.sameBut.refl s.drawn lw_cs) hx hb hr hlocks dL_law_2049
theorem dL_law_229 : decode code 229 = .ok (.aload_n 3, 1) := by decide +kernel
theorem dL_law_230 : decode code 230 = .ok (.iconst 0, 1) := by decide +kernel
theorem dL_law_231 : decode code 231 = .ok (.laload, 1) := by decide +kernel
theorem dL_law_232 : decode code 232 = .ok (.iload 6, 2) := by decide +kernel
theorem dL_law_234 : decode code 234 = .ok (.i2l, 1) := by decide +kernel
theorem dL_law_235 : decode code 235 = .ok (.lcmp, 1) := by decide +kernel
theorem dL_law_236 : decode code 236 = .ok (.ifCond .eq 5, 3) := by decide +kernel
set_option maxHeartbeats 4000000 in
set_option maxRecDepth 100000 in
theorem leaf_4 {p : Program} {e : Env} {s : State} {m : MethodId} {below : List Frame} {meth : Method} {c : Code} (l : Launch) (hst : l.stackTraces = false) {D : va_G} {κ : K4} {E0 : Nat} {a b : Nat → Nat} {o sb L : Nat} {xs : Nat → Int32} (hC : CallFix p m c code 9 s #[Value.ref sb] WALL RL) (hr : meth.sig.returnType = ret) (hlocks : meth.locks = false) (hX : va_X sb L xs s s.heap) (hbl : sb < s.heap.size) (hL4 : L = 4) (hE : EA E0 D κ (fun q => s.heap.size ≤ q) s s.heap) (hT : ET s) (k_1 : 1 ≤ (xs 1).toInt ∧ (xs 1).toInt ≤ 3) (k_2 : 1 ≤ (xs 2).toInt ∧ (xs 2).toInt ≤ 100000) (H : Heap) (locs : List Loc) (hG : BW D κ ((xw κ a ++ [(o, .inl (κ.2.1, 1, .inr (.inl (fun _ => 0))))]) ++ mw κ b E0 0) (fun q => s.heap.size ≤ q) s H locs) (ls : Array Slot) (hl : lv_has ls 9 [(4, .int 0), (3, .ref o), (2, .ref (b 0)), (1, .ref (a 0)), (0, .ref sb)]) : W p l e room_1 s m #[Value.ref sb] below meth c H locs 100 6000 (lw_Z below #[Value.ref sb] s) (F0 m 176 ls []) := by
  have hx := hC.1
  have hb := hC.2.1
  refine lv_aload_n hx hb dL_law_176 rfl (lv_at hl 3 rfl) ?_
  refine lv_aload_n hx hb dL_law_177 rfl (lv_at hl 4 rfl) ?_
  refine lv_iload hx hb dL_law_178 (lv_at hl 0 rfl) ?_
  refine lv_iconst (v := 1) hx hb dL_law_180 (by decide) ?_
  refine lv_iadd hx hb dL_law_181 ?_
  refine W.eq (g2 := F0 m 182 ls [.int 1, .ref sb, .ref (a 0)]) rfl ?_
  refine va_sld hx hb hX hbl (Nat.not_le_of_lt hbl) hG.2.2.2.1 (vp_box (by decide) (by rw [hL4]; decide)) dL_law_182 ?_
  refine W.eq (g2 := F0 m 183 ls [.int (xs 1), .ref (a 0)]) rfl ?_
  refine lv_aload_n hx hb dL_law_183 rfl (lv_at hl 4 rfl) ?_
  refine lv_iload hx hb dL_law_184 (lv_at hl 0 rfl) ?_
  refine lv_iconst (v := 2) hx hb dL_law_186 (by decide) ?_
  refine lv_iadd hx hb dL_law_187 ?_
  refine W.eq (g2 := F0 m 188 ls [.int 2, .ref sb, .int (xs 1), .ref (a 0)]) rfl ?_
  refine va_sld hx hb hX hbl (Nat.not_le_of_lt hbl) hG.2.2.2.1 (vp_box (by decide) (by rw [hL4]; decide)) dL_law_188 ?_
  refine W.eq (g2 := F0 m 189 ls [.int (xs 2), .int (xs 1), .ref (a 0)]) rfl ?_
  refine lv_aload_n hx hb dL_law_189 rfl (lv_at hl 1 rfl) ?_
  have cut190 : Cut ((xw κ a ++ [(o, .inl (κ.2.1, 1, .inr (.inl (fun _ => 0))))]) ++ mw κ b E0 0) ([(a 0, .inr (7, [.ref (a 1), .ref (a 7), .ref (a 12), .ref (a 23), .ref (a 28), .ref (a 33), .ref (a 37), .ref (a 41), .int (-1), .int 0])), (a 1, .inr (0, [.ref (a 2), .ref (a 3), .ref (a 4), .ref (a 5), .ref (a 6), .int 0])), (a 2, .inl (κ.1, 4, .inl (fun _ => 1000))), (a 3, .inl (κ.1, 10, .inl (fun _ => 0))), (a 4, .inl (κ.1, 10, .inl (fun _ => 0))), (a 5, .inl (κ.1, 10, .inl (fun _ => 0))), (a 6, .inl (κ.2.2.1, 10, .inl (fun _ => 0))), (a 7, .inr (1, [.ref (a 8), .int 0, .int 0, .int 0])), (a 8, .inr (4, [.ref (a 9), .ref (a 10), .ref (a 11), .int 0])), (a 9, .inl (κ.1, 10, .inl (fun _ => 0))), (a 10, .inl (κ.2.1, 10, .inr (.inl (fun _ => 0)))), (a 11, .inl (κ.2.1, 10, .inr (.inl (fun _ => 0)))), (a 12, .inr (3, [.ref (a 13), .ref (a 14), .ref (a 15), .ref (a 16), .ref (a 17), .ref (a 18), .int 0, .ref (a 19), .ref (a 20), .ref (a 21), .ref (a 22), .int 0])), (a 13, .inl (κ.1, 60, .inl (fun _ => 0))), (a 14, .inl (κ.1, 60, .inl (fun _ => 0))), (a 15, .inl (κ.1, 60, .inl (fun _ => 0))), (a 16, .inl (κ.1, 60, .inl (fun _ => 0))), (a 17, .inl (κ.2.2.1, 60, .inl (fun _ => 0))), (a 18, .inl (κ.2.2.1, 60, .inl (fun _ => 0))), (a 19, .inl (κ.1, 600, .inl (fun _ => 0))), (a 20, .inl (κ.1, 600, .inl (fun _ => 0))), (a 21, .inl (κ.2.1, 600, .inr (.inl (fun _ => 0)))), (a 22, .inl (κ.2.1, 600, .inr (.inl (fun _ => 0)))), (a 23, .inr (2, [.ref (a 24), .ref (a 25), .ref (a 26), .ref (a 27), .int 0])), (a 24, .inl (κ.1, 20, .inl (fun _ => 0))), (a 25, .inl (κ.1, 20, .inl (fun _ => 0))), (a 26, .inl (κ.1, 20, .inl (fun _ => 0))), (a 27, .inl (κ.2.2.1, 20, .inl (fun _ => 0))), (a 28, .inr (5, [.ref (a 29), .ref (a 30), .ref (a 31), .ref (a 32), .int 0])), (a 29, .inl (κ.1, 40, .inl (fun _ => 0))), (a 30, .inl (κ.1, 40, .inl (fun _ => 0))), (a 31, .inl (κ.1, 40, .inl (fun _ => 0))), (a 32, .inl (κ.1, 40, .inl (fun _ => 0))), (a 33, .inr (6, [.ref (a 12), .ref (a 28), .ref (a 34), .ref (a 35), .ref (a 36)])), (a 34, .inl (κ.1, 600, .inl (fun _ => (-1)))), (a 35, .inl (κ.1, 40, .inl (fun _ => (-1)))), (a 36, .inl (κ.1, 40, .inl (fun _ => (-1)))), (a 37, .inr (6, [.ref (a 12), .ref (a 28), .ref (a 38), .ref (a 39), .ref (a 40)])), (a 38, .inl (κ.1, 600, .inl (fun _ => (-1)))), (a 39, .inl (κ.1, 40, .inl (fun _ => (-1)))), (a 40, .inl (κ.1, 40, .inl (fun _ => (-1)))), (a 41, .inr (4, [.ref (a 42), .ref (a 43), .ref (a 44), .int 0])), (a 42, .inl (κ.1, 10, .inl (fun _ => 0))), (a 43, .inl (κ.2.1, 10, .inr (.inl (fun _ => 0)))), (a 44, .inl (κ.2.1, 10, .inr (.inl (fun _ => 0)))), (o, .inl (κ.2.1, 1, .inr (.inl (fun _ => 0))))]) ([(b 0, .inr (9, [.int 0, .ref (b 1), .ref (b 2), .ref (b 3), .ref (b 4), .ref (b 5), .ref (b 6), .ref (b 7), .null, .int 0, .int (-1), .int 0, .int 0, .int 0, .ref (b 8)])), (b 1, .inl (κ.1, 4, .inl (fun _ => 1000))), (b 2, .inr (10, [.int 0, .ref E0, .int 0])), (b 3, .inr (10, [.int 0, .ref E0, .int 0])), (b 4, .inr (10, [.int 0, .ref E0, .int 0])), (b 5, .inr (10, [.int 0, .ref E0, .int 0])), (b 6, .inr (10, [.int 0, .ref E0, .int 0])), (b 7, .inr (10, [.int 0, .ref E0, .int 0])), (b 8, .inr (10, [.int 0, .ref E0, .int 0]))]) := (Cut.idx [0, 1, 2, 3, 4, 5, 6, 7, 8, 9, 10, 11, 12, 13, 14, 15, 16, 17, 18, 19, 20, 21, 22, 23, 24, 25, 26, 27, 28, 29, 30, 31, 32, 33, 34, 35, 36, 37, 38, 39, 40, 41, 42, 43, 44, 45] [46, 47, 48, 49, 50, 51, 52, 53, 54] rfl rfl (by decide) (by decide) (by decide))
  refine zc_i hG cut190 (zr_H (n := 4) (As := [.ref (a 0), .int (xs 1), .int (xs 2), .ref o]) (rest := []) hC hG hE hT cut190 (z_22_rate l hst D κ E0 H.size a (xs 1) (xs 2) o ⟨by omega, by omega⟩ ⟨by omega, by omega⟩) w141 w143 w144 w142 (by decide +kernel) ⟨Nat.le_of_ble_eq_true rfl, Nat.le_of_ble_eq_true rfl⟩ rfl hl.1 rfl (Nat.le_of_ble_eq_true rfl) dL_law_190 ⟨Nat.le_of_ble_eq_true rfl, Nat.le_of_ble_eq_true rfl⟩) (fun z1 H locs hG => ?_)
  have hG : BW D κ (([(b 0, .inr (9, [.int 0, .ref (b 1), .ref (b 2), .ref (b 3), .ref (b 4), .ref (b 5), .ref (b 6), .ref (b 7), .null, .int 0, .int (-1), .int 0, .int 0, .int 0, .ref (b 8)])), (b 1, .inl (κ.1, 4, .inl (fun _ => 1000))), (b 2, .inr (10, [.int 0, .ref E0, .int 0])), (b 3, .inr (10, [.int 0, .ref E0, .int 0])), (b 4, .inr (10, [.int 0, .ref E0, .int 0])), (b 5, .inr (10, [.int 0, .ref E0, .int 0])), (b 6, .inr (10, [.int 0, .ref E0, .int 0])), (b 7, .inr (10, [.int 0, .ref E0, .int 0])), (b 8, .inr (10, [.int 0, .ref E0, .int 0]))]) ++ ([(o, .inl (κ.2.1, 1, .inr (.inl (va_up (fun _ => 0) ((0 : Int32).toNatClampNeg) 1000))))])) _ s H locs := hG
  refine lv_istore (lv' := [(5, .int 0), (4, .int 0), (3, .ref o), (2, .ref (b 0)), (1, .ref (a 0)), (0, .ref sb)]) hx hb dL_law_193 hl (by decide) rfl (fun ls hl => ?_)
  refine lv_aload_n hx hb dL_law_195 rfl (lv_at hl 3 rfl) ?_
  refine lv_aload_n hx hb dL_law_196 rfl (lv_at hl 5 rfl) ?_
  refine lv_iload hx hb dL_law_197 (lv_at hl 1 rfl) ?_
  refine lv_iconst (v := 1) hx hb dL_law_199 (by decide) ?_
  refine lv_iadd hx hb dL_law_200 ?_
  refine W.eq (g2 := F0 m 201 ls [.int 1, .ref sb, .ref (b 0)]) rfl ?_
  refine va_sld hx hb hX hbl (Nat.not_le_of_lt hbl) hG.2.2.2.1 (vp_box (by decide) (by rw [hL4]; decide)) dL_law_201 ?_
  refine W.eq (g2 := F0 m 202 ls [.int (xs 1), .ref (b 0)]) rfl ?_
  refine lv_aload_n hx hb dL_law_202 rfl (lv_at hl 5 rfl) ?_
  refine lv_iload hx hb dL_law_203 (lv_at hl 1 rfl) ?_
  refine lv_iconst (v := 2) hx hb dL_law_205 (by decide) ?_
  refine lv_iadd hx hb dL_law_206 ?_
  refine W.eq (g2 := F0 m 207 ls [.int 2, .ref sb, .int (xs 1), .ref (b 0)]) rfl ?_
  refine va_sld hx hb hX hbl (Nat.not_le_of_lt hbl) hG.2.2.2.1 (vp_box (by decide) (by rw [hL4]; decide)) dL_law_207 ?_
  refine W.eq (g2 := F0 m 208 ls [.int (xs 2), .int (xs 1), .ref (b 0)]) rfl ?_
  have cut208 : Cut (([(b 0, .inr (9, [.int 0, .ref (b 1), .ref (b 2), .ref (b 3), .ref (b 4), .ref (b 5), .ref (b 6), .ref (b 7), .null, .int 0, .int (-1), .int 0, .int 0, .int 0, .ref (b 8)])), (b 1, .inl (κ.1, 4, .inl (fun _ => 1000))), (b 2, .inr (10, [.int 0, .ref E0, .int 0])), (b 3, .inr (10, [.int 0, .ref E0, .int 0])), (b 4, .inr (10, [.int 0, .ref E0, .int 0])), (b 5, .inr (10, [.int 0, .ref E0, .int 0])), (b 6, .inr (10, [.int 0, .ref E0, .int 0])), (b 7, .inr (10, [.int 0, .ref E0, .int 0])), (b 8, .inr (10, [.int 0, .ref E0, .int 0]))]) ++ ([(o, .inl (κ.2.1, 1, .inr (.inl (va_up (fun _ => 0) ((0 : Int32).toNatClampNeg) 1000))))])) (mw κ b E0 0) ([(o, .inl (κ.2.1, 1, .inr (.inl (va_up (fun _ => 0) ((0 : Int32).toNatClampNeg) 1000))))]) := (Cut.idx [0, 1, 2, 3, 4, 5, 6, 7, 8] [9] rfl rfl (by decide) (by decide) (by decide))
  refine zc_i hG cut208 (zr_V (k := 0) (ci := 9) (n := 2) (As := [.int (xs 1), .int (xs 2)]) (rest := []) hC hG hE hT cut208 (z_28_rate l hst D κ E0 H.size b (xs 1) (xs 2) ⟨by omega, by omega⟩ ⟨by omega, by omega⟩) rfl rfl w160 w5 w163 w161 w162 (by decide +kernel) ⟨Nat.le_of_ble_eq_true rfl, Nat.le_of_ble_eq_true rfl⟩ rfl hl.1 rfl (Nat.le_of_ble_eq_true rfl) dL_law_208 ⟨Nat.le_of_ble_eq_true rfl, Nat.le_of_ble_eq_true rfl⟩) (fun z2 H locs hG => ?_)
  have hG : BW D κ (([(o, .inl (κ.2.1, 1, .inr (.inl (va_up (fun _ => 0) ((0 : Int32).toNatClampNeg) 1000))))]) ++ ([(b 0, .inr (9, [.int 0, .ref (b 1), .ref (b 2), .ref (b 3), .ref (b 4), .ref (b 5), .ref (b 6), .ref (b 7), .null, .int 0, .int (-1), .int 0, .int 0, .int 0, .ref (b 8)]))])) _ s H locs := hG
  refine lv_istore (lv' := [(6, .int 1000), (5, .int 0), (4, .int 0), (3, .ref o), (2, .ref (b 0)), (1, .ref (a 0)), (0, .ref sb)]) hx hb dL_law_211 hl (by decide) rfl (fun ls hl => ?_)
  refine lv_aload_n hx hb dL_law_213 rfl (lv_at hl 4 rfl) ?_
  have cut214 : Cut (([(o, .inl (κ.2.1, 1, .inr (.inl (va_up (fun _ => 0) ((0 : Int32).toNatClampNeg) 1000))))]) ++ ([(b 0, .inr (9, [.int 0, .ref (b 1), .ref (b 2), .ref (b 3), .ref (b 4), .ref (b 5), .ref (b 6), .ref (b 7), .null, .int 0, .int (-1), .int 0, .int 0, .int 0, .ref (b 8)]))])) ([(b 0, .inr (9, [.int 0, .ref (b 1), .ref (b 2), .ref (b 3), .ref (b 4), .ref (b 5), .ref (b 6), .ref (b 7), .null, .int 0, .int (-1), .int 0, .int 0, .int 0, .ref (b 8)]))]) ([(o, .inl (κ.2.1, 1, .inr (.inl (va_up (fun _ => 0) ((0 : Int32).toNatClampNeg) 1000))))]) := (Cut.idx [1] [0] rfl rfl (by decide) (by decide) (by decide))
  refine zc_i hG cut214 (zr_V (k := 1) (ci := 9) (n := 0) (As := []) (rest := []) hC hG hE hT cut214 (z_29_thrown l hst D κ E0 H.size b) rfl rfl w200 w5 w203 w201 w202 (by decide +kernel) ⟨Nat.le_of_ble_eq_true rfl, Nat.le_of_ble_eq_true rfl⟩ rfl hl.1 rfl (Nat.le_of_ble_eq_true rfl) dL_law_214 ⟨Nat.le_of_ble_eq_true rfl, Nat.le_of_ble_eq_true rfl⟩) (fun z3 H locs hG => ?_)
  have hG : BW D κ (([(o, .inl (κ.2.1, 1, .inr (.inl (va_up (fun _ => 0) ((0 : Int32).toNatClampNeg) 1000))))]) ++ ([(b 0, .inr (9, [.int 0, .ref (b 1), .ref (b 2), .ref (b 3), .ref (b 4), .ref (b 5), .ref (b 6), .ref (b 7), .null, .int 0, .int (-1), .int 0, .int 0, .int 0, .ref (b 8)]))])) _ s H locs := hG
  refine lv_iload hx hb dL_law_217 (lv_at hl 1 rfl) ?_
  refine lv_icmp_eq (tgt := 224) hx hb dL_law_219 (by decide) (fun _ => ?_) (fun h219 => absurd (by decide) h219)
  refine lv_iload hx hb dL_law_224 (lv_at hl 1 rfl) ?_
  refine lv_if_ne (tgt := 241) hx hb dL_law_226 (by decide) (fun h226 => absurd (by decide) h226) (fun _ => ?_)
  refine lv_aload_n hx hb dL_law_229 rfl (lv_at hl 3 rfl) ?_
  refine lv_iconst (v := 0) hx hb dL_law_230 (by decide) ?_
  refine zs_lld 0 (v := 1000) hC hG rfl (vp_box (by have e0 : (0 : Int32).toInt = 0 := (by decide); omega) (by have e0 : (0 : Int32).toInt = 0 := (by decide); omega)) rfl dL_law_231 ?_
  refine lv_iload hx hb dL_law_232 (lv_at hl 0 rfl) ?_
  refine lv_i2l (v := 1000) hx hb dL_law_234 (by decide) ?_
  refine bl_eq (tgt := 241) hx hb dL_law_235 dL_law_236 (by decide) (fun _ => ?_) (fun h9 => absurd (rfl) h9)
  refine lv_goto (tgt := 2042) hx hb dL_law_241 (by decide) ?_
  refine lv_iinc (v := 4) (lv' := [(4, .int 4), (6, .int 1000), (5, .int 0), (3, .ref o), (2, .ref (b 0)), (1, .ref (a 0)), (0, .ref sb)]) hx hb dL_law_2042 hl (k := 2) rfl (by decide) (by decide) rfl (fun ls hl => ?_)
  refine lv_goto (tgt := 23) hx hb dL_law_2045 (by decide) ?_
  refine lv_iload hx hb dL_law_23 (lv_at hl 0 rfl) ?_
  refine lv_aload_n hx hb dL_law_25 rfl (lv_at hl 6 rfl) ?_
  refine va_slen hx hb hX hbl (Nat.not_le_of_lt hbl) hG.2.2.2.1 dL_law_26 ?_
  refine W.eq (g2 := F0 m 27 ls [.int 4, .int 4]) (by rw [hL4]; rfl) ?_
  refine lv_iconst (v := 4) hx hb dL_law_27 (by decide) ?_
  refine lv_isub hx hb dL_law_28 ?_
  refine W.eq (g2 := F0 m 29 ls [.int 0, .int 4]) rfl ?_
  refine lv_icmp_gt (tgt := 2048) hx hb dL_law_29 (by decide) (fun _ => ?_) (fun h29 => absurd (by decide) h29)
  refine lv_iconst (v := 1) hx hb dL_law_2048 (by decide) ?_
  refine W.widen (k := 600002) (n := 7302232) (Nat.le_of_ble_eq_true rfl) (Nat.le_of_ble_eq_true rfl) ?_
  refine va_forget (fun q hq => hG.2.2.2.1.2.2 q hq) ?_
  refine W.base ?_
  exact lw_ret (Drawn.sameBut.refl s.drawn lw_cs) hx hb hr hlocks dL_law_2049
theorem dL_law_244 : decode code 244 = .ok (.aload_n 1, 1) := by decide +kernel
theorem dL_law_245 : decode code 245 = .ok (.aload_n 0, 1) := by decide +kernel
theorem dL_law_246 : decode code 246 = .ok (.iload 4, 2) := by decide +kernel
theorem dL_law_248 : decode code 248 = .ok (.iconst 1, 1) := by decide +kernel
theorem dL_law_249 : decode code 249 = .ok (.iadd, 1) := by decide +kernel
theorem dL_law_250 : decode code 250 = .ok (.iaload, 1) := by decide +kernel
theorem dL_law_251 : decode code 251 = .ok (.aload_n 0, 1) := by decide +kernel
theorem dL_law_252 : decode code 252 = .ok (.iload 4, 2) := by decide +kernel
theorem dL_law_254 : decode code 254 = .ok (.iconst 2, 1) := by decide +kernel
theorem dL_law_255 : decode code 255 = .ok (.iadd, 1) := by decide +kernel
theorem dL_law_256 : decode code 256 = .ok (.iaload, 1) := by decide +kernel
theorem dL_law_257 : decode code 257 = .ok (.aload_n 3, 1) := by decide +kernel
theorem dL_law_258 : decode code 258 = .ok (.invokestatic 119, 3) := by decide +kernel
theorem dL_law_261 : decode code 261 = .ok (.istore 5, 2) := by decide +kernel
theorem dL_law_263 : decode code 263 = .ok (.aload_n 2, 1) := by decide +kernel
theorem dL_law_264 : decode code 264 = .ok (.aload_n 0, 1) := by decide +kernel
theorem dL_law_265 : decode code 265 = .ok (.iload 4, 2) := by decide +kernel
theorem dL_law_267 : decode code 267 = .ok (.iconst 1, 1) := by decide +kernel
theorem dL_law_268 : decode code 268 = .ok (.iadd, 1) := by decide +kernel
theorem dL_law_269 : decode code 269 = .ok (.iaload, 1) := by decide +kernel
theorem dL_law_270 : decode code 270 = .ok (.aload_n 0, 1) := by decide +kernel
theorem dL_law_271 : decode code 271 = .ok (.iload 4, 2) := by decide +kernel
theorem dL_law_273 : decode code 273 = .ok (.iconst 2, 1) := by decide +kernel
theorem dL_law_274 : decode code 274 = .ok (.iadd, 1) := by decide +kernel
theorem dL_law_275 : decode code 275 = .ok (.iaload, 1) := by decide +kernel
theorem dL_law_276 : decode code 276 = .ok (.invokevirtual 121, 3) := by decide +kernel
theorem dL_law_279 : decode code 279 = .ok (.istore 6, 2) := by decide +kernel
theorem dL_law_281 : decode code 281 = .ok (.aload_n 2, 1) := by decide +kernel
theorem dL_law_282 : decode code 282 = .ok (.invokevirtual 116, 3) := by decide +kernel
theorem dL_law_285 : decode code 285 = .ok (.iload 5, 2) := by decide +kernel
theorem dL_law_287 : decode code 287 = .ok (.if_icmp .eq 5, 3) := by decide +kernel
theorem dL_law_292 : decode code 292 = .ok (.iload 5, 2) := by decide +kernel
theorem dL_law_294 : decode code 294 = .ok (.ifCond .ne 15, 3) := by decide +kernel
theorem dL_law_309 : decode code 309 = .ok (.goto 1733, 3) := by decide +kernel
set_option maxHeartbeats 4000000 in
set_option maxRecDepth 100000 in
theorem leaf_5 {p : Program} {e : Env} {s : State} {m : MethodId} {below : List Frame} {meth : Method} {c : Code} (l : Launch) (hst : l.stackTraces = false) {D : va_G} {κ : K4} {E0 : Nat} {a b : Nat → Nat} {o sb L : Nat} {xs : Nat → Int32} (hC : CallFix p m c code 9 s #[Value.ref sb] WALL RL) (hr : meth.sig.returnType = ret) (hlocks : meth.locks = false) (hX : va_X sb L xs s s.heap) (hbl : sb < s.heap.size) (hL4 : L = 4) (hE : EA E0 D κ (fun q => s.heap.size ≤ q) s s.heap) (hT : ET s) (k_1 : -2147483648 ≤ (xs 1).toInt ∧ (xs 1).toInt ≤ -1) (k_2 : -2147483648 ≤ (xs 2).toInt ∧ (xs 2).toInt ≤ 2147483647) (H : Heap) (locs : List Loc) (hG : BW D κ ((xw κ a ++ [(o, .inl (κ.2.1, 1, .inr (.inl (fun _ => 0))))]) ++ mw κ b E0 0) (fun q => s.heap.size ≤ q) s H locs) (ls : Array Slot) (hl : lv_has ls 9 [(4, .int 0), (3, .ref o), (2, .ref (b 0)), (1, .ref (a 0)), (0, .ref sb)]) : W p l e room_1 s m #[Value.ref sb] below meth c H locs 100 6000 (lw_Z below #[Value.ref sb] s) (F0 m 244 ls []) := by
  have hx := hC.1
  have hb := hC.2.1
  refine lv_aload_n hx hb dL_law_244 rfl (lv_at hl 3 rfl) ?_
  refine lv_aload_n hx hb dL_law_245 rfl (lv_at hl 4 rfl) ?_
  refine lv_iload hx hb dL_law_246 (lv_at hl 0 rfl) ?_
  refine lv_iconst (v := 1) hx hb dL_law_248 (by decide) ?_
  refine lv_iadd hx hb dL_law_249 ?_
  refine W.eq (g2 := F0 m 250 ls [.int 1, .ref sb, .ref (a 0)]) rfl ?_
  refine va_sld hx hb hX hbl (Nat.not_le_of_lt hbl) hG.2.2.2.1 (vp_box (by decide) (by rw [hL4]; decide)) dL_law_250 ?_
  refine W.eq (g2 := F0 m 251 ls [.int (xs 1), .ref (a 0)]) rfl ?_
  refine lv_aload_n hx hb dL_law_251 rfl (lv_at hl 4 rfl) ?_
  refine lv_iload hx hb dL_law_252 (lv_at hl 0 rfl) ?_
  refine lv_iconst (v := 2) hx hb dL_law_254 (by decide) ?_
  refine lv_iadd hx hb dL_law_255 ?_
  refine W.eq (g2 := F0 m 256 ls [.int 2, .ref sb, .int (xs 1), .ref (a 0)]) rfl ?_
  refine va_sld hx hb hX hbl (Nat.not_le_of_lt hbl) hG.2.2.2.1 (vp_box (by decide) (by rw [hL4]; decide)) dL_law_256 ?_
  refine W.eq (g2 := F0 m 257 ls [.int (xs 2), .int (xs 1), .ref (a 0)]) rfl ?_
  refine lv_aload_n hx hb dL_law_257 rfl (lv_at hl 1 rfl) ?_
  have cut258 : Cut ((xw κ a ++ [(o, .inl (κ.2.1, 1, .inr (.inl (fun _ => 0))))]) ++ mw κ b E0 0) ([(a 0, .inr (7, [.ref (a 1), .ref (a 7), .ref (a 12), .ref (a 23), .ref (a 28), .ref (a 33), .ref (a 37), .ref (a 41), .int (-1), .int 0])), (a 1, .inr (0, [.ref (a 2), .ref (a 3), .ref (a 4), .ref (a 5), .ref (a 6), .int 0])), (a 2, .inl (κ.1, 4, .inl (fun _ => 1000))), (a 3, .inl (κ.1, 10, .inl (fun _ => 0))), (a 4, .inl (κ.1, 10, .inl (fun _ => 0))), (a 5, .inl (κ.1, 10, .inl (fun _ => 0))), (a 6, .inl (κ.2.2.1, 10, .inl (fun _ => 0))), (a 7, .inr (1, [.ref (a 8), .int 0, .int 0, .int 0])), (a 8, .inr (4, [.ref (a 9), .ref (a 10), .ref (a 11), .int 0])), (a 9, .inl (κ.1, 10, .inl (fun _ => 0))), (a 10, .inl (κ.2.1, 10, .inr (.inl (fun _ => 0)))), (a 11, .inl (κ.2.1, 10, .inr (.inl (fun _ => 0)))), (a 12, .inr (3, [.ref (a 13), .ref (a 14), .ref (a 15), .ref (a 16), .ref (a 17), .ref (a 18), .int 0, .ref (a 19), .ref (a 20), .ref (a 21), .ref (a 22), .int 0])), (a 13, .inl (κ.1, 60, .inl (fun _ => 0))), (a 14, .inl (κ.1, 60, .inl (fun _ => 0))), (a 15, .inl (κ.1, 60, .inl (fun _ => 0))), (a 16, .inl (κ.1, 60, .inl (fun _ => 0))), (a 17, .inl (κ.2.2.1, 60, .inl (fun _ => 0))), (a 18, .inl (κ.2.2.1, 60, .inl (fun _ => 0))), (a 19, .inl (κ.1, 600, .inl (fun _ => 0))), (a 20, .inl (κ.1, 600, .inl (fun _ => 0))), (a 21, .inl (κ.2.1, 600, .inr (.inl (fun _ => 0)))), (a 22, .inl (κ.2.1, 600, .inr (.inl (fun _ => 0)))), (a 23, .inr (2, [.ref (a 24), .ref (a 25), .ref (a 26), .ref (a 27), .int 0])), (a 24, .inl (κ.1, 20, .inl (fun _ => 0))), (a 25, .inl (κ.1, 20, .inl (fun _ => 0))), (a 26, .inl (κ.1, 20, .inl (fun _ => 0))), (a 27, .inl (κ.2.2.1, 20, .inl (fun _ => 0))), (a 28, .inr (5, [.ref (a 29), .ref (a 30), .ref (a 31), .ref (a 32), .int 0])), (a 29, .inl (κ.1, 40, .inl (fun _ => 0))), (a 30, .inl (κ.1, 40, .inl (fun _ => 0))), (a 31, .inl (κ.1, 40, .inl (fun _ => 0))), (a 32, .inl (κ.1, 40, .inl (fun _ => 0))), (a 33, .inr (6, [.ref (a 12), .ref (a 28), .ref (a 34), .ref (a 35), .ref (a 36)])), (a 34, .inl (κ.1, 600, .inl (fun _ => (-1)))), (a 35, .inl (κ.1, 40, .inl (fun _ => (-1)))), (a 36, .inl (κ.1, 40, .inl (fun _ => (-1)))), (a 37, .inr (6, [.ref (a 12), .ref (a 28), .ref (a 38), .ref (a 39), .ref (a 40)])), (a 38, .inl (κ.1, 600, .inl (fun _ => (-1)))), (a 39, .inl (κ.1, 40, .inl (fun _ => (-1)))), (a 40, .inl (κ.1, 40, .inl (fun _ => (-1)))), (a 41, .inr (4, [.ref (a 42), .ref (a 43), .ref (a 44), .int 0])), (a 42, .inl (κ.1, 10, .inl (fun _ => 0))), (a 43, .inl (κ.2.1, 10, .inr (.inl (fun _ => 0)))), (a 44, .inl (κ.2.1, 10, .inr (.inl (fun _ => 0)))), (o, .inl (κ.2.1, 1, .inr (.inl (fun _ => 0))))]) ([(b 0, .inr (9, [.int 0, .ref (b 1), .ref (b 2), .ref (b 3), .ref (b 4), .ref (b 5), .ref (b 6), .ref (b 7), .null, .int 0, .int (-1), .int 0, .int 0, .int 0, .ref (b 8)])), (b 1, .inl (κ.1, 4, .inl (fun _ => 1000))), (b 2, .inr (10, [.int 0, .ref E0, .int 0])), (b 3, .inr (10, [.int 0, .ref E0, .int 0])), (b 4, .inr (10, [.int 0, .ref E0, .int 0])), (b 5, .inr (10, [.int 0, .ref E0, .int 0])), (b 6, .inr (10, [.int 0, .ref E0, .int 0])), (b 7, .inr (10, [.int 0, .ref E0, .int 0])), (b 8, .inr (10, [.int 0, .ref E0, .int 0]))]) := (Cut.idx [0, 1, 2, 3, 4, 5, 6, 7, 8, 9, 10, 11, 12, 13, 14, 15, 16, 17, 18, 19, 20, 21, 22, 23, 24, 25, 26, 27, 28, 29, 30, 31, 32, 33, 34, 35, 36, 37, 38, 39, 40, 41, 42, 43, 44, 45] [46, 47, 48, 49, 50, 51, 52, 53, 54] rfl rfl (by decide) (by decide) (by decide))
  refine zc_i hG cut258 (zr_H (n := 4) (As := [.ref (a 0), .int (xs 1), .int (xs 2), .ref o]) (rest := []) hC hG hE hT cut258 (z_31_account l hst D κ E0 H.size a (xs 1) (xs 2) o ⟨by omega, by omega⟩ ⟨by omega, by omega⟩) w204 w143 w206 w205 (by decide +kernel) ⟨Nat.le_of_ble_eq_true rfl, Nat.le_of_ble_eq_true rfl⟩ rfl hl.1 rfl (Nat.le_of_ble_eq_true rfl) dL_law_258 ⟨Nat.le_of_ble_eq_true rfl, Nat.le_of_ble_eq_true rfl⟩) (fun z1 H locs hG => ?_)
  have hG : BW D κ (([(b 0, .inr (9, [.int 0, .ref (b 1), .ref (b 2), .ref (b 3), .ref (b 4), .ref (b 5), .ref (b 6), .ref (b 7), .null, .int 0, .int (-1), .int 0, .int 0, .int 0, .ref (b 8)])), (b 1, .inl (κ.1, 4, .inl (fun _ => 1000))), (b 2, .inr (10, [.int 0, .ref E0, .int 0])), (b 3, .inr (10, [.int 0, .ref E0, .int 0])), (b 4, .inr (10, [.int 0, .ref E0, .int 0])), (b 5, .inr (10, [.int 0, .ref E0, .int 0])), (b 6, .inr (10, [.int 0, .ref E0, .int 0])), (b 7, .inr (10, [.int 0, .ref E0, .int 0])), (b 8, .inr (10, [.int 0, .ref E0, .int 0]))]) ++ ([(o, .inl (κ.2.1, 1, .inr (.inl (fun _ => 0))))])) _ s H locs := hG
  refine lv_istore (lv' := [(5, .int 1), (4, .int 0), (3, .ref o), (2, .ref (b 0)), (1, .ref (a 0)), (0, .ref sb)]) hx hb dL_law_261 hl (by decide) rfl (fun ls hl => ?_)
  refine lv_aload_n hx hb dL_law_263 rfl (lv_at hl 3 rfl) ?_
  refine lv_aload_n hx hb dL_law_264 rfl (lv_at hl 5 rfl) ?_
  refine lv_iload hx hb dL_law_265 (lv_at hl 1 rfl) ?_
  refine lv_iconst (v := 1) hx hb dL_law_267 (by decide) ?_
  refine lv_iadd hx hb dL_law_268 ?_
  refine W.eq (g2 := F0 m 269 ls [.int 1, .ref sb, .ref (b 0)]) rfl ?_
  refine va_sld hx hb hX hbl (Nat.not_le_of_lt hbl) hG.2.2.2.1 (vp_box (by decide) (by rw [hL4]; decide)) dL_law_269 ?_
  refine W.eq (g2 := F0 m 270 ls [.int (xs 1), .ref (b 0)]) rfl ?_
  refine lv_aload_n hx hb dL_law_270 rfl (lv_at hl 5 rfl) ?_
  refine lv_iload hx hb dL_law_271 (lv_at hl 1 rfl) ?_
  refine lv_iconst (v := 2) hx hb dL_law_273 (by decide) ?_
  refine lv_iadd hx hb dL_law_274 ?_
  refine W.eq (g2 := F0 m 275 ls [.int 2, .ref sb, .int (xs 1), .ref (b 0)]) rfl ?_
  refine va_sld hx hb hX hbl (Nat.not_le_of_lt hbl) hG.2.2.2.1 (vp_box (by decide) (by rw [hL4]; decide)) dL_law_275 ?_
  refine W.eq (g2 := F0 m 276 ls [.int (xs 2), .int (xs 1), .ref (b 0)]) rfl ?_
  have cut276 : Cut (([(b 0, .inr (9, [.int 0, .ref (b 1), .ref (b 2), .ref (b 3), .ref (b 4), .ref (b 5), .ref (b 6), .ref (b 7), .null, .int 0, .int (-1), .int 0, .int 0, .int 0, .ref (b 8)])), (b 1, .inl (κ.1, 4, .inl (fun _ => 1000))), (b 2, .inr (10, [.int 0, .ref E0, .int 0])), (b 3, .inr (10, [.int 0, .ref E0, .int 0])), (b 4, .inr (10, [.int 0, .ref E0, .int 0])), (b 5, .inr (10, [.int 0, .ref E0, .int 0])), (b 6, .inr (10, [.int 0, .ref E0, .int 0])), (b 7, .inr (10, [.int 0, .ref E0, .int 0])), (b 8, .inr (10, [.int 0, .ref E0, .int 0]))]) ++ ([(o, .inl (κ.2.1, 1, .inr (.inl (fun _ => 0))))])) (mw κ b E0 0) ([(o, .inl (κ.2.1, 1, .inr (.inl (fun _ => 0))))]) := (Cut.idx [0, 1, 2, 3, 4, 5, 6, 7, 8] [9] rfl rfl (by decide) (by decide) (by decide))
  refine zc_i hG cut276 (zr_V (k := 0) (ci := 9) (n := 2) (As := [.int (xs 1), .int (xs 2)]) (rest := []) hC hG hE hT cut276 (z_33_account l hst D κ E0 H.size b (xs 1) (xs 2) ⟨by omega, by omega⟩ ⟨by omega, by omega⟩) rfl rfl w216 w5 w219 w217 w218 (by decide +kernel) ⟨Nat.le_of_ble_eq_true rfl, Nat.le_of_ble_eq_true rfl⟩ rfl hl.1 rfl (Nat.le_of_ble_eq_true rfl) dL_law_276 ⟨Nat.le_of_ble_eq_true rfl, Nat.le_of_ble_eq_true rfl⟩) (fun z2 H locs hG => ?_)
  have hG : BW D κ (([(o, .inl (κ.2.1, 1, .inr (.inl (fun _ => 0))))]) ++ (mw κ b E0 1)) _ s H locs := hG
  refine lv_istore (lv' := [(6, .int 0), (5, .int 1), (4, .int 0), (3, .ref o), (2, .ref (b 0)), (1, .ref (a 0)), (0, .ref sb)]) hx hb dL_law_279 hl (by decide) rfl (fun ls hl => ?_)
  refine lv_aload_n hx hb dL_law_281 rfl (lv_at hl 4 rfl) ?_
  have cut282 : Cut (([(o, .inl (κ.2.1, 1, .inr (.inl (fun _ => 0))))]) ++ (mw κ b E0 1)) ([(b 0, .inr (9, [.int 1, .ref (b 1), .ref (b 2), .ref (b 3), .ref (b 4), .ref (b 5), .ref (b 6), .ref (b 7), .null, .int 0, .int (-1), .int 0, .int 0, .int 0, .ref (b 8)]))]) ([(o, .inl (κ.2.1, 1, .inr (.inl (fun _ => 0)))), (b 1, .inl (κ.1, 4, .inl (fun _ => 1000))), (b 2, .inr (10, [.int 0, .ref E0, .int 0])), (b 3, .inr (10, [.int 0, .ref E0, .int 0])), (b 4, .inr (10, [.int 0, .ref E0, .int 0])), (b 5, .inr (10, [.int 0, .ref E0, .int 0])), (b 6, .inr (10, [.int 0, .ref E0, .int 0])), (b 7, .inr (10, [.int 0, .ref E0, .int 0])), (b 8, .inr (10, [.int 0, .ref E0, .int 0]))]) := (Cut.idx [1] [0, 2, 3, 4, 5, 6, 7, 8, 9] rfl rfl (by decide) (by decide) (by decide))
  refine zc_i hG cut282 (zr_V (k := 1) (ci := 9) (n := 0) (As := []) (rest := []) hC hG hE hT cut282 (z_6_thrown l hst D κ E0 H.size b) rfl rfl w200 w5 w203 w201 w202 (by decide +kernel) ⟨Nat.le_of_ble_eq_true rfl, Nat.le_of_ble_eq_true rfl⟩ rfl hl.1 rfl (Nat.le_of_ble_eq_true rfl) dL_law_282 ⟨Nat.le_of_ble_eq_true rfl, Nat.le_of_ble_eq_true rfl⟩) (fun z3 H locs hG => ?_)
  have hG : BW D κ (([(o, .inl (κ.2.1, 1, .inr (.inl (fun _ => 0)))), (b 1, .inl (κ.1, 4, .inl (fun _ => 1000))), (b 2, .inr (10, [.int 0, .ref E0, .int 0])), (b 3, .inr (10, [.int 0, .ref E0, .int 0])), (b 4, .inr (10, [.int 0, .ref E0, .int 0])), (b 5, .inr (10, [.int 0, .ref E0, .int 0])), (b 6, .inr (10, [.int 0, .ref E0, .int 0])), (b 7, .inr (10, [.int 0, .ref E0, .int 0])), (b 8, .inr (10, [.int 0, .ref E0, .int 0]))]) ++ ([(b 0, .inr (9, [.int 1, .ref (b 1), .ref (b 2), .ref (b 3), .ref (b 4), .ref (b 5), .ref (b 6), .ref (b 7), .null, .int 0, .int (-1), .int 0, .int 0, .int 0, .ref (b 8)]))])) _ s H locs := hG
  refine lv_iload hx hb dL_law_285 (lv_at hl 1 rfl) ?_
  refine lv_icmp_eq (tgt := 292) hx hb dL_law_287 (by decide) (fun _ => ?_) (fun h287 => absurd (by decide) h287)
  refine lv_iload hx hb dL_law_292 (lv_at hl 1 rfl) ?_
  refine lv_if_ne (tgt := 309) hx hb dL_law_294 (by decide) (fun _ => ?_) (fun h294 => absurd h294 (by decide))
  refine lv_goto (tgt := 2042) hx hb dL_law_309 (by decide) ?_
  refine lv_iinc (v := 4) (lv' := [(4, .int 4), (6, .int 0), (5, .int 1), (3, .ref o), (2, .ref (b 0)), (1, .ref (a 0)), (0, .ref sb)]) hx hb dL_law_2042 hl (k := 2) rfl (by decide) (by decide) rfl (fun ls hl => ?_)
  refine lv_goto (tgt := 23) hx hb dL_law_2045 (by decide) ?_
  refine lv_iload hx hb dL_law_23 (lv_at hl 0 rfl) ?_
  refine lv_aload_n hx hb dL_law_25 rfl (lv_at hl 6 rfl) ?_
  refine va_slen hx hb hX hbl (Nat.not_le_of_lt hbl) hG.2.2.2.1 dL_law_26 ?_
  refine W.eq (g2 := F0 m 27 ls [.int 4, .int 4]) (by rw [hL4]; rfl) ?_
  refine lv_iconst (v := 4) hx hb dL_law_27 (by decide) ?_
  refine lv_isub hx hb dL_law_28 ?_
  refine W.eq (g2 := F0 m 29 ls [.int 0, .int 4]) rfl ?_
  refine lv_icmp_gt (tgt := 2048) hx hb dL_law_29 (by decide) (fun _ => ?_) (fun h29 => absurd (by decide) h29)
  refine lv_iconst (v := 1) hx hb dL_law_2048 (by decide) ?_
  refine W.widen (k := 600002) (n := 7302232) (Nat.le_of_ble_eq_true rfl) (Nat.le_of_ble_eq_true rfl) ?_
  refine va_forget (fun q hq => hG.2.2.2.1.2.2 q hq) ?_
  refine W.base ?_
  exact lw_ret (Drawn.sameBut.refl s.drawn lw_cs) hx hb hr hlocks dL_law_2049
set_option maxHeartbeats 4000000 in
set_option maxRecDepth 100000 in
theorem leaf_6 {p : Program} {e : Env} {s : State} {m : MethodId} {below : List Frame} {meth : Method} {c : Code} (l : Launch) (hst : l.stackTraces = false) {D : va_G} {κ : K4} {E0 : Nat} {a b : Nat → Nat} {o sb L : Nat} {xs : Nat → Int32} (hC : CallFix p m c code 9 s #[Value.ref sb] WALL RL) (hr : meth.sig.returnType = ret) (hlocks : meth.locks = false) (hX : va_X sb L xs s s.heap) (hbl : sb < s.heap.size) (hL4 : L = 4) (hE : EA E0 D κ (fun q => s.heap.size ≤ q) s s.heap) (hT : ET s) (k_1 : 5 ≤ (xs 1).toInt ∧ (xs 1).toInt ≤ 2147483647) (k_2 : -2147483648 ≤ (xs 2).toInt ∧ (xs 2).toInt ≤ 2147483647) (H : Heap) (locs : List Loc) (hG : BW D κ ((xw κ a ++ [(o, .inl (κ.2.1, 1, .inr (.inl (fun _ => 0))))]) ++ mw κ b E0 0) (fun q => s.heap.size ≤ q) s H locs) (ls : Array Slot) (hl : lv_has ls 9 [(4, .int 0), (3, .ref o), (2, .ref (b 0)), (1, .ref (a 0)), (0, .ref sb)]) : W p l e room_1 s m #[Value.ref sb] below meth c H locs 100 6000 (lw_Z below #[Value.ref sb] s) (F0 m 244 ls []) := by
  have hx := hC.1
  have hb := hC.2.1
  refine lv_aload_n hx hb dL_law_244 rfl (lv_at hl 3 rfl) ?_
  refine lv_aload_n hx hb dL_law_245 rfl (lv_at hl 4 rfl) ?_
  refine lv_iload hx hb dL_law_246 (lv_at hl 0 rfl) ?_
  refine lv_iconst (v := 1) hx hb dL_law_248 (by decide) ?_
  refine lv_iadd hx hb dL_law_249 ?_
  refine W.eq (g2 := F0 m 250 ls [.int 1, .ref sb, .ref (a 0)]) rfl ?_
  refine va_sld hx hb hX hbl (Nat.not_le_of_lt hbl) hG.2.2.2.1 (vp_box (by decide) (by rw [hL4]; decide)) dL_law_250 ?_
  refine W.eq (g2 := F0 m 251 ls [.int (xs 1), .ref (a 0)]) rfl ?_
  refine lv_aload_n hx hb dL_law_251 rfl (lv_at hl 4 rfl) ?_
  refine lv_iload hx hb dL_law_252 (lv_at hl 0 rfl) ?_
  refine lv_iconst (v := 2) hx hb dL_law_254 (by decide) ?_
  refine lv_iadd hx hb dL_law_255 ?_
  refine W.eq (g2 := F0 m 256 ls [.int 2, .ref sb, .int (xs 1), .ref (a 0)]) rfl ?_
  refine va_sld hx hb hX hbl (Nat.not_le_of_lt hbl) hG.2.2.2.1 (vp_box (by decide) (by rw [hL4]; decide)) dL_law_256 ?_
  refine W.eq (g2 := F0 m 257 ls [.int (xs 2), .int (xs 1), .ref (a 0)]) rfl ?_
  refine lv_aload_n hx hb dL_law_257 rfl (lv_at hl 1 rfl) ?_
  have cut258 : Cut ((xw κ a ++ [(o, .inl (κ.2.1, 1, .inr (.inl (fun _ => 0))))]) ++ mw κ b E0 0) ([(a 0, .inr (7, [.ref (a 1), .ref (a 7), .ref (a 12), .ref (a 23), .ref (a 28), .ref (a 33), .ref (a 37), .ref (a 41), .int (-1), .int 0])), (a 1, .inr (0, [.ref (a 2), .ref (a 3), .ref (a 4), .ref (a 5), .ref (a 6), .int 0])), (a 2, .inl (κ.1, 4, .inl (fun _ => 1000))), (a 3, .inl (κ.1, 10, .inl (fun _ => 0))), (a 4, .inl (κ.1, 10, .inl (fun _ => 0))), (a 5, .inl (κ.1, 10, .inl (fun _ => 0))), (a 6, .inl (κ.2.2.1, 10, .inl (fun _ => 0))), (a 7, .inr (1, [.ref (a 8), .int 0, .int 0, .int 0])), (a 8, .inr (4, [.ref (a 9), .ref (a 10), .ref (a 11), .int 0])), (a 9, .inl (κ.1, 10, .inl (fun _ => 0))), (a 10, .inl (κ.2.1, 10, .inr (.inl (fun _ => 0)))), (a 11, .inl (κ.2.1, 10, .inr (.inl (fun _ => 0)))), (a 12, .inr (3, [.ref (a 13), .ref (a 14), .ref (a 15), .ref (a 16), .ref (a 17), .ref (a 18), .int 0, .ref (a 19), .ref (a 20), .ref (a 21), .ref (a 22), .int 0])), (a 13, .inl (κ.1, 60, .inl (fun _ => 0))), (a 14, .inl (κ.1, 60, .inl (fun _ => 0))), (a 15, .inl (κ.1, 60, .inl (fun _ => 0))), (a 16, .inl (κ.1, 60, .inl (fun _ => 0))), (a 17, .inl (κ.2.2.1, 60, .inl (fun _ => 0))), (a 18, .inl (κ.2.2.1, 60, .inl (fun _ => 0))), (a 19, .inl (κ.1, 600, .inl (fun _ => 0))), (a 20, .inl (κ.1, 600, .inl (fun _ => 0))), (a 21, .inl (κ.2.1, 600, .inr (.inl (fun _ => 0)))), (a 22, .inl (κ.2.1, 600, .inr (.inl (fun _ => 0)))), (a 23, .inr (2, [.ref (a 24), .ref (a 25), .ref (a 26), .ref (a 27), .int 0])), (a 24, .inl (κ.1, 20, .inl (fun _ => 0))), (a 25, .inl (κ.1, 20, .inl (fun _ => 0))), (a 26, .inl (κ.1, 20, .inl (fun _ => 0))), (a 27, .inl (κ.2.2.1, 20, .inl (fun _ => 0))), (a 28, .inr (5, [.ref (a 29), .ref (a 30), .ref (a 31), .ref (a 32), .int 0])), (a 29, .inl (κ.1, 40, .inl (fun _ => 0))), (a 30, .inl (κ.1, 40, .inl (fun _ => 0))), (a 31, .inl (κ.1, 40, .inl (fun _ => 0))), (a 32, .inl (κ.1, 40, .inl (fun _ => 0))), (a 33, .inr (6, [.ref (a 12), .ref (a 28), .ref (a 34), .ref (a 35), .ref (a 36)])), (a 34, .inl (κ.1, 600, .inl (fun _ => (-1)))), (a 35, .inl (κ.1, 40, .inl (fun _ => (-1)))), (a 36, .inl (κ.1, 40, .inl (fun _ => (-1)))), (a 37, .inr (6, [.ref (a 12), .ref (a 28), .ref (a 38), .ref (a 39), .ref (a 40)])), (a 38, .inl (κ.1, 600, .inl (fun _ => (-1)))), (a 39, .inl (κ.1, 40, .inl (fun _ => (-1)))), (a 40, .inl (κ.1, 40, .inl (fun _ => (-1)))), (a 41, .inr (4, [.ref (a 42), .ref (a 43), .ref (a 44), .int 0])), (a 42, .inl (κ.1, 10, .inl (fun _ => 0))), (a 43, .inl (κ.2.1, 10, .inr (.inl (fun _ => 0)))), (a 44, .inl (κ.2.1, 10, .inr (.inl (fun _ => 0)))), (o, .inl (κ.2.1, 1, .inr (.inl (fun _ => 0))))]) ([(b 0, .inr (9, [.int 0, .ref (b 1), .ref (b 2), .ref (b 3), .ref (b 4), .ref (b 5), .ref (b 6), .ref (b 7), .null, .int 0, .int (-1), .int 0, .int 0, .int 0, .ref (b 8)])), (b 1, .inl (κ.1, 4, .inl (fun _ => 1000))), (b 2, .inr (10, [.int 0, .ref E0, .int 0])), (b 3, .inr (10, [.int 0, .ref E0, .int 0])), (b 4, .inr (10, [.int 0, .ref E0, .int 0])), (b 5, .inr (10, [.int 0, .ref E0, .int 0])), (b 6, .inr (10, [.int 0, .ref E0, .int 0])), (b 7, .inr (10, [.int 0, .ref E0, .int 0])), (b 8, .inr (10, [.int 0, .ref E0, .int 0]))]) := (Cut.idx [0, 1, 2, 3, 4, 5, 6, 7, 8, 9, 10, 11, 12, 13, 14, 15, 16, 17, 18, 19, 20, 21, 22, 23, 24, 25, 26, 27, 28, 29, 30, 31, 32, 33, 34, 35, 36, 37, 38, 39, 40, 41, 42, 43, 44, 45] [46, 47, 48, 49, 50, 51, 52, 53, 54] rfl rfl (by decide) (by decide) (by decide))
  refine zc_i hG cut258 (zr_H (n := 4) (As := [.ref (a 0), .int (xs 1), .int (xs 2), .ref o]) (rest := []) hC hG hE hT cut258 (z_35_account l hst D κ E0 H.size a (xs 1) (xs 2) o ⟨by omega, by omega⟩ ⟨by omega, by omega⟩) w204 w143 w206 w205 (by decide +kernel) ⟨Nat.le_of_ble_eq_true rfl, Nat.le_of_ble_eq_true rfl⟩ rfl hl.1 rfl (Nat.le_of_ble_eq_true rfl) dL_law_258 ⟨Nat.le_of_ble_eq_true rfl, Nat.le_of_ble_eq_true rfl⟩) (fun z1 H locs hG => ?_)
  have hG : BW D κ (([(b 0, .inr (9, [.int 0, .ref (b 1), .ref (b 2), .ref (b 3), .ref (b 4), .ref (b 5), .ref (b 6), .ref (b 7), .null, .int 0, .int (-1), .int 0, .int 0, .int 0, .ref (b 8)])), (b 1, .inl (κ.1, 4, .inl (fun _ => 1000))), (b 2, .inr (10, [.int 0, .ref E0, .int 0])), (b 3, .inr (10, [.int 0, .ref E0, .int 0])), (b 4, .inr (10, [.int 0, .ref E0, .int 0])), (b 5, .inr (10, [.int 0, .ref E0, .int 0])), (b 6, .inr (10, [.int 0, .ref E0, .int 0])), (b 7, .inr (10, [.int 0, .ref E0, .int 0])), (b 8, .inr (10, [.int 0, .ref E0, .int 0]))]) ++ ([(o, .inl (κ.2.1, 1, .inr (.inl (fun _ => 0))))])) _ s H locs := hG
  refine lv_istore (lv' := [(5, .int 1), (4, .int 0), (3, .ref o), (2, .ref (b 0)), (1, .ref (a 0)), (0, .ref sb)]) hx hb dL_law_261 hl (by decide) rfl (fun ls hl => ?_)
  refine lv_aload_n hx hb dL_law_263 rfl (lv_at hl 3 rfl) ?_
  refine lv_aload_n hx hb dL_law_264 rfl (lv_at hl 5 rfl) ?_
  refine lv_iload hx hb dL_law_265 (lv_at hl 1 rfl) ?_
  refine lv_iconst (v := 1) hx hb dL_law_267 (by decide) ?_
  refine lv_iadd hx hb dL_law_268 ?_
  refine W.eq (g2 := F0 m 269 ls [.int 1, .ref sb, .ref (b 0)]) rfl ?_
  refine va_sld hx hb hX hbl (Nat.not_le_of_lt hbl) hG.2.2.2.1 (vp_box (by decide) (by rw [hL4]; decide)) dL_law_269 ?_
  refine W.eq (g2 := F0 m 270 ls [.int (xs 1), .ref (b 0)]) rfl ?_
  refine lv_aload_n hx hb dL_law_270 rfl (lv_at hl 5 rfl) ?_
  refine lv_iload hx hb dL_law_271 (lv_at hl 1 rfl) ?_
  refine lv_iconst (v := 2) hx hb dL_law_273 (by decide) ?_
  refine lv_iadd hx hb dL_law_274 ?_
  refine W.eq (g2 := F0 m 275 ls [.int 2, .ref sb, .int (xs 1), .ref (b 0)]) rfl ?_
  refine va_sld hx hb hX hbl (Nat.not_le_of_lt hbl) hG.2.2.2.1 (vp_box (by decide) (by rw [hL4]; decide)) dL_law_275 ?_
  refine W.eq (g2 := F0 m 276 ls [.int (xs 2), .int (xs 1), .ref (b 0)]) rfl ?_
  have cut276 : Cut (([(b 0, .inr (9, [.int 0, .ref (b 1), .ref (b 2), .ref (b 3), .ref (b 4), .ref (b 5), .ref (b 6), .ref (b 7), .null, .int 0, .int (-1), .int 0, .int 0, .int 0, .ref (b 8)])), (b 1, .inl (κ.1, 4, .inl (fun _ => 1000))), (b 2, .inr (10, [.int 0, .ref E0, .int 0])), (b 3, .inr (10, [.int 0, .ref E0, .int 0])), (b 4, .inr (10, [.int 0, .ref E0, .int 0])), (b 5, .inr (10, [.int 0, .ref E0, .int 0])), (b 6, .inr (10, [.int 0, .ref E0, .int 0])), (b 7, .inr (10, [.int 0, .ref E0, .int 0])), (b 8, .inr (10, [.int 0, .ref E0, .int 0]))]) ++ ([(o, .inl (κ.2.1, 1, .inr (.inl (fun _ => 0))))])) (mw κ b E0 0) ([(o, .inl (κ.2.1, 1, .inr (.inl (fun _ => 0))))]) := (Cut.idx [0, 1, 2, 3, 4, 5, 6, 7, 8] [9] rfl rfl (by decide) (by decide) (by decide))
  refine zc_i hG cut276 (zr_V (k := 0) (ci := 9) (n := 2) (As := [.int (xs 1), .int (xs 2)]) (rest := []) hC hG hE hT cut276 (z_37_account l hst D κ E0 H.size b (xs 1) (xs 2) ⟨by omega, by omega⟩ ⟨by omega, by omega⟩) rfl rfl w216 w5 w219 w217 w218 (by decide +kernel) ⟨Nat.le_of_ble_eq_true rfl, Nat.le_of_ble_eq_true rfl⟩ rfl hl.1 rfl (Nat.le_of_ble_eq_true rfl) dL_law_276 ⟨Nat.le_of_ble_eq_true rfl, Nat.le_of_ble_eq_true rfl⟩) (fun z2 H locs hG => ?_)
  have hG : BW D κ (([(o, .inl (κ.2.1, 1, .inr (.inl (fun _ => 0))))]) ++ (mw κ b E0 1)) _ s H locs := hG
  refine lv_istore (lv' := [(6, .int 0), (5, .int 1), (4, .int 0), (3, .ref o), (2, .ref (b 0)), (1, .ref (a 0)), (0, .ref sb)]) hx hb dL_law_279 hl (by decide) rfl (fun ls hl => ?_)
  refine lv_aload_n hx hb dL_law_281 rfl (lv_at hl 4 rfl) ?_
  have cut282 : Cut (([(o, .inl (κ.2.1, 1, .inr (.inl (fun _ => 0))))]) ++ (mw κ b E0 1)) ([(b 0, .inr (9, [.int 1, .ref (b 1), .ref (b 2), .ref (b 3), .ref (b 4), .ref (b 5), .ref (b 6), .ref (b 7), .null, .int 0, .int (-1), .int 0, .int 0, .int 0, .ref (b 8)]))]) ([(o, .inl (κ.2.1, 1, .inr (.inl (fun _ => 0)))), (b 1, .inl (κ.1, 4, .inl (fun _ => 1000))), (b 2, .inr (10, [.int 0, .ref E0, .int 0])), (b 3, .inr (10, [.int 0, .ref E0, .int 0])), (b 4, .inr (10, [.int 0, .ref E0, .int 0])), (b 5, .inr (10, [.int 0, .ref E0, .int 0])), (b 6, .inr (10, [.int 0, .ref E0, .int 0])), (b 7, .inr (10, [.int 0, .ref E0, .int 0])), (b 8, .inr (10, [.int 0, .ref E0, .int 0]))]) := (Cut.idx [1] [0, 2, 3, 4, 5, 6, 7, 8, 9] rfl rfl (by decide) (by decide) (by decide))
  refine zc_i hG cut282 (zr_V (k := 1) (ci := 9) (n := 0) (As := []) (rest := []) hC hG hE hT cut282 (z_6_thrown l hst D κ E0 H.size b) rfl rfl w200 w5 w203 w201 w202 (by decide +kernel) ⟨Nat.le_of_ble_eq_true rfl, Nat.le_of_ble_eq_true rfl⟩ rfl hl.1 rfl (Nat.le_of_ble_eq_true rfl) dL_law_282 ⟨Nat.le_of_ble_eq_true rfl, Nat.le_of_ble_eq_true rfl⟩) (fun z3 H locs hG => ?_)
  have hG : BW D κ (([(o, .inl (κ.2.1, 1, .inr (.inl (fun _ => 0)))), (b 1, .inl (κ.1, 4, .inl (fun _ => 1000))), (b 2, .inr (10, [.int 0, .ref E0, .int 0])), (b 3, .inr (10, [.int 0, .ref E0, .int 0])), (b 4, .inr (10, [.int 0, .ref E0, .int 0])), (b 5, .inr (10, [.int 0, .ref E0, .int 0])), (b 6, .inr (10, [.int 0, .ref E0, .int 0])), (b 7, .inr (10, [.int 0, .ref E0, .int 0])), (b 8, .inr (10, [.int 0, .ref E0, .int 0]))]) ++ ([(b 0, .inr (9, [.int 1, .ref (b 1), .ref (b 2), .ref (b 3), .ref (b 4), .ref (b 5), .ref (b 6), .ref (b 7), .null, .int 0, .int (-1), .int 0, .int 0, .int 0, .ref (b 8)]))])) _ s H locs := hG
  refine lv_iload hx hb dL_law_285 (lv_at hl 1 rfl) ?_
  refine lv_icmp_eq (tgt := 292) hx hb dL_law_287 (by decide) (fun _ => ?_) (fun h287 => absurd (by decide) h287)
  refine lv_iload hx hb dL_law_292 (lv_at hl 1 rfl) ?_
  refine lv_if_ne (tgt := 309) hx hb dL_law_294 (by decide) (fun _ => ?_) (fun h294 => absurd h294 (by decide))
  refine lv_goto (tgt := 2042) hx hb dL_law_309 (by decide) ?_
  refine lv_iinc (v := 4) (lv' := [(4, .int 4), (6, .int 0), (5, .int 1), (3, .ref o), (2, .ref (b 0)), (1, .ref (a 0)), (0, .ref sb)]) hx hb dL_law_2042 hl (k := 2) rfl (by decide) (by decide) rfl (fun ls hl => ?_)
  refine lv_goto (tgt := 23) hx hb dL_law_2045 (by decide) ?_
  refine lv_iload hx hb dL_law_23 (lv_at hl 0 rfl) ?_
  refine lv_aload_n hx hb dL_law_25 rfl (lv_at hl 6 rfl) ?_
  refine va_slen hx hb hX hbl (Nat.not_le_of_lt hbl) hG.2.2.2.1 dL_law_26 ?_
  refine W.eq (g2 := F0 m 27 ls [.int 4, .int 4]) (by rw [hL4]; rfl) ?_
  refine lv_iconst (v := 4) hx hb dL_law_27 (by decide) ?_
  refine lv_isub hx hb dL_law_28 ?_
  refine W.eq (g2 := F0 m 29 ls [.int 0, .int 4]) rfl ?_
  refine lv_icmp_gt (tgt := 2048) hx hb dL_law_29 (by decide) (fun _ => ?_) (fun h29 => absurd (by decide) h29)
  refine lv_iconst (v := 1) hx hb dL_law_2048 (by decide) ?_
  refine W.widen (k := 600002) (n := 7302232) (Nat.le_of_ble_eq_true rfl) (Nat.le_of_ble_eq_true rfl) ?_
  refine va_forget (fun q hq => hG.2.2.2.1.2.2 q hq) ?_
  refine W.base ?_
  exact lw_ret (Drawn.sameBut.refl s.drawn lw_cs) hx hb hr hlocks dL_law_2049
set_option maxHeartbeats 4000000 in
set_option maxRecDepth 100000 in
theorem leaf_7 {p : Program} {e : Env} {s : State} {m : MethodId} {below : List Frame} {meth : Method} {c : Code} (l : Launch) (hst : l.stackTraces = false) {D : va_G} {κ : K4} {E0 : Nat} {a b : Nat → Nat} {o sb L : Nat} {xs : Nat → Int32} (hC : CallFix p m c code 9 s #[Value.ref sb] WALL RL) (hr : meth.sig.returnType = ret) (hlocks : meth.locks = false) (hX : va_X sb L xs s s.heap) (hbl : sb < s.heap.size) (hL4 : L = 4) (hE : EA E0 D κ (fun q => s.heap.size ≤ q) s s.heap) (hT : ET s) (k_1 : 0 ≤ (xs 1).toInt ∧ (xs 1).toInt ≤ 4) (k_2 : -2147483648 ≤ (xs 2).toInt ∧ (xs 2).toInt ≤ -1) (H : Heap) (locs : List Loc) (hG : BW D κ ((xw κ a ++ [(o, .inl (κ.2.1, 1, .inr (.inl (fun _ => 0))))]) ++ mw κ b E0 0) (fun q => s.heap.size ≤ q) s H locs) (ls : Array Slot) (hl : lv_has ls 9 [(4, .int 0), (3, .ref o), (2, .ref (b 0)), (1, .ref (a 0)), (0, .ref sb)]) : W p l e room_1 s m #[Value.ref sb] below meth c H locs 100 6000 (lw_Z below #[Value.ref sb] s) (F0 m 244 ls []) := by
  have hx := hC.1
  have hb := hC.2.1
  refine lv_aload_n hx hb dL_law_244 rfl (lv_at hl 3 rfl) ?_
  refine lv_aload_n hx hb dL_law_245 rfl (lv_at hl 4 rfl) ?_
  refine lv_iload hx hb dL_law_246 (lv_at hl 0 rfl) ?_
  refine lv_iconst (v := 1) hx hb dL_law_248 (by decide) ?_
  refine lv_iadd hx hb dL_law_249 ?_
  refine W.eq (g2 := F0 m 250 ls [.int 1, .ref sb, .ref (a 0)]) rfl ?_
  refine va_sld hx hb hX hbl (Nat.not_le_of_lt hbl) hG.2.2.2.1 (vp_box (by decide) (by rw [hL4]; decide)) dL_law_250 ?_
  refine W.eq (g2 := F0 m 251 ls [.int (xs 1), .ref (a 0)]) rfl ?_
  refine lv_aload_n hx hb dL_law_251 rfl (lv_at hl 4 rfl) ?_
  refine lv_iload hx hb dL_law_252 (lv_at hl 0 rfl) ?_
  refine lv_iconst (v := 2) hx hb dL_law_254 (by decide) ?_
  refine lv_iadd hx hb dL_law_255 ?_
  refine W.eq (g2 := F0 m 256 ls [.int 2, .ref sb, .int (xs 1), .ref (a 0)]) rfl ?_
  refine va_sld hx hb hX hbl (Nat.not_le_of_lt hbl) hG.2.2.2.1 (vp_box (by decide) (by rw [hL4]; decide)) dL_law_256 ?_
  refine W.eq (g2 := F0 m 257 ls [.int (xs 2), .int (xs 1), .ref (a 0)]) rfl ?_
  refine lv_aload_n hx hb dL_law_257 rfl (lv_at hl 1 rfl) ?_
  have cut258 : Cut ((xw κ a ++ [(o, .inl (κ.2.1, 1, .inr (.inl (fun _ => 0))))]) ++ mw κ b E0 0) ([(a 0, .inr (7, [.ref (a 1), .ref (a 7), .ref (a 12), .ref (a 23), .ref (a 28), .ref (a 33), .ref (a 37), .ref (a 41), .int (-1), .int 0])), (a 1, .inr (0, [.ref (a 2), .ref (a 3), .ref (a 4), .ref (a 5), .ref (a 6), .int 0])), (a 2, .inl (κ.1, 4, .inl (fun _ => 1000))), (a 3, .inl (κ.1, 10, .inl (fun _ => 0))), (a 4, .inl (κ.1, 10, .inl (fun _ => 0))), (a 5, .inl (κ.1, 10, .inl (fun _ => 0))), (a 6, .inl (κ.2.2.1, 10, .inl (fun _ => 0))), (a 7, .inr (1, [.ref (a 8), .int 0, .int 0, .int 0])), (a 8, .inr (4, [.ref (a 9), .ref (a 10), .ref (a 11), .int 0])), (a 9, .inl (κ.1, 10, .inl (fun _ => 0))), (a 10, .inl (κ.2.1, 10, .inr (.inl (fun _ => 0)))), (a 11, .inl (κ.2.1, 10, .inr (.inl (fun _ => 0)))), (a 12, .inr (3, [.ref (a 13), .ref (a 14), .ref (a 15), .ref (a 16), .ref (a 17), .ref (a 18), .int 0, .ref (a 19), .ref (a 20), .ref (a 21), .ref (a 22), .int 0])), (a 13, .inl (κ.1, 60, .inl (fun _ => 0))), (a 14, .inl (κ.1, 60, .inl (fun _ => 0))), (a 15, .inl (κ.1, 60, .inl (fun _ => 0))), (a 16, .inl (κ.1, 60, .inl (fun _ => 0))), (a 17, .inl (κ.2.2.1, 60, .inl (fun _ => 0))), (a 18, .inl (κ.2.2.1, 60, .inl (fun _ => 0))), (a 19, .inl (κ.1, 600, .inl (fun _ => 0))), (a 20, .inl (κ.1, 600, .inl (fun _ => 0))), (a 21, .inl (κ.2.1, 600, .inr (.inl (fun _ => 0)))), (a 22, .inl (κ.2.1, 600, .inr (.inl (fun _ => 0)))), (a 23, .inr (2, [.ref (a 24), .ref (a 25), .ref (a 26), .ref (a 27), .int 0])), (a 24, .inl (κ.1, 20, .inl (fun _ => 0))), (a 25, .inl (κ.1, 20, .inl (fun _ => 0))), (a 26, .inl (κ.1, 20, .inl (fun _ => 0))), (a 27, .inl (κ.2.2.1, 20, .inl (fun _ => 0))), (a 28, .inr (5, [.ref (a 29), .ref (a 30), .ref (a 31), .ref (a 32), .int 0])), (a 29, .inl (κ.1, 40, .inl (fun _ => 0))), (a 30, .inl (κ.1, 40, .inl (fun _ => 0))), (a 31, .inl (κ.1, 40, .inl (fun _ => 0))), (a 32, .inl (κ.1, 40, .inl (fun _ => 0))), (a 33, .inr (6, [.ref (a 12), .ref (a 28), .ref (a 34), .ref (a 35), .ref (a 36)])), (a 34, .inl (κ.1, 600, .inl (fun _ => (-1)))), (a 35, .inl (κ.1, 40, .inl (fun _ => (-1)))), (a 36, .inl (κ.1, 40, .inl (fun _ => (-1)))), (a 37, .inr (6, [.ref (a 12), .ref (a 28), .ref (a 38), .ref (a 39), .ref (a 40)])), (a 38, .inl (κ.1, 600, .inl (fun _ => (-1)))), (a 39, .inl (κ.1, 40, .inl (fun _ => (-1)))), (a 40, .inl (κ.1, 40, .inl (fun _ => (-1)))), (a 41, .inr (4, [.ref (a 42), .ref (a 43), .ref (a 44), .int 0])), (a 42, .inl (κ.1, 10, .inl (fun _ => 0))), (a 43, .inl (κ.2.1, 10, .inr (.inl (fun _ => 0)))), (a 44, .inl (κ.2.1, 10, .inr (.inl (fun _ => 0)))), (o, .inl (κ.2.1, 1, .inr (.inl (fun _ => 0))))]) ([(b 0, .inr (9, [.int 0, .ref (b 1), .ref (b 2), .ref (b 3), .ref (b 4), .ref (b 5), .ref (b 6), .ref (b 7), .null, .int 0, .int (-1), .int 0, .int 0, .int 0, .ref (b 8)])), (b 1, .inl (κ.1, 4, .inl (fun _ => 1000))), (b 2, .inr (10, [.int 0, .ref E0, .int 0])), (b 3, .inr (10, [.int 0, .ref E0, .int 0])), (b 4, .inr (10, [.int 0, .ref E0, .int 0])), (b 5, .inr (10, [.int 0, .ref E0, .int 0])), (b 6, .inr (10, [.int 0, .ref E0, .int 0])), (b 7, .inr (10, [.int 0, .ref E0, .int 0])), (b 8, .inr (10, [.int 0, .ref E0, .int 0]))]) := (Cut.idx [0, 1, 2, 3, 4, 5, 6, 7, 8, 9, 10, 11, 12, 13, 14, 15, 16, 17, 18, 19, 20, 21, 22, 23, 24, 25, 26, 27, 28, 29, 30, 31, 32, 33, 34, 35, 36, 37, 38, 39, 40, 41, 42, 43, 44, 45] [46, 47, 48, 49, 50, 51, 52, 53, 54] rfl rfl (by decide) (by decide) (by decide))
  refine zc_i hG cut258 (zr_H (n := 4) (As := [.ref (a 0), .int (xs 1), .int (xs 2), .ref o]) (rest := []) hC hG hE hT cut258 (z_39_account l hst D κ E0 H.size a (xs 1) (xs 2) o ⟨by omega, by omega⟩ ⟨by omega, by omega⟩) w204 w143 w206 w205 (by decide +kernel) ⟨Nat.le_of_ble_eq_true rfl, Nat.le_of_ble_eq_true rfl⟩ rfl hl.1 rfl (Nat.le_of_ble_eq_true rfl) dL_law_258 ⟨Nat.le_of_ble_eq_true rfl, Nat.le_of_ble_eq_true rfl⟩) (fun z1 H locs hG => ?_)
  have hG : BW D κ (([(b 0, .inr (9, [.int 0, .ref (b 1), .ref (b 2), .ref (b 3), .ref (b 4), .ref (b 5), .ref (b 6), .ref (b 7), .null, .int 0, .int (-1), .int 0, .int 0, .int 0, .ref (b 8)])), (b 1, .inl (κ.1, 4, .inl (fun _ => 1000))), (b 2, .inr (10, [.int 0, .ref E0, .int 0])), (b 3, .inr (10, [.int 0, .ref E0, .int 0])), (b 4, .inr (10, [.int 0, .ref E0, .int 0])), (b 5, .inr (10, [.int 0, .ref E0, .int 0])), (b 6, .inr (10, [.int 0, .ref E0, .int 0])), (b 7, .inr (10, [.int 0, .ref E0, .int 0])), (b 8, .inr (10, [.int 0, .ref E0, .int 0]))]) ++ ([(o, .inl (κ.2.1, 1, .inr (.inl (fun _ => 0))))])) _ s H locs := hG
  refine lv_istore (lv' := [(5, .int 1), (4, .int 0), (3, .ref o), (2, .ref (b 0)), (1, .ref (a 0)), (0, .ref sb)]) hx hb dL_law_261 hl (by decide) rfl (fun ls hl => ?_)
  refine lv_aload_n hx hb dL_law_263 rfl (lv_at hl 3 rfl) ?_
  refine lv_aload_n hx hb dL_law_264 rfl (lv_at hl 5 rfl) ?_
  refine lv_iload hx hb dL_law_265 (lv_at hl 1 rfl) ?_
  refine lv_iconst (v := 1) hx hb dL_law_267 (by decide) ?_
  refine lv_iadd hx hb dL_law_268 ?_
  refine W.eq (g2 := F0 m 269 ls [.int 1, .ref sb, .ref (b 0)]) rfl ?_
  refine va_sld hx hb hX hbl (Nat.not_le_of_lt hbl) hG.2.2.2.1 (vp_box (by decide) (by rw [hL4]; decide)) dL_law_269 ?_
  refine W.eq (g2 := F0 m 270 ls [.int (xs 1), .ref (b 0)]) rfl ?_
  refine lv_aload_n hx hb dL_law_270 rfl (lv_at hl 5 rfl) ?_
  refine lv_iload hx hb dL_law_271 (lv_at hl 1 rfl) ?_
  refine lv_iconst (v := 2) hx hb dL_law_273 (by decide) ?_
  refine lv_iadd hx hb dL_law_274 ?_
  refine W.eq (g2 := F0 m 275 ls [.int 2, .ref sb, .int (xs 1), .ref (b 0)]) rfl ?_
  refine va_sld hx hb hX hbl (Nat.not_le_of_lt hbl) hG.2.2.2.1 (vp_box (by decide) (by rw [hL4]; decide)) dL_law_275 ?_
  refine W.eq (g2 := F0 m 276 ls [.int (xs 2), .int (xs 1), .ref (b 0)]) rfl ?_
  have cut276 : Cut (([(b 0, .inr (9, [.int 0, .ref (b 1), .ref (b 2), .ref (b 3), .ref (b 4), .ref (b 5), .ref (b 6), .ref (b 7), .null, .int 0, .int (-1), .int 0, .int 0, .int 0, .ref (b 8)])), (b 1, .inl (κ.1, 4, .inl (fun _ => 1000))), (b 2, .inr (10, [.int 0, .ref E0, .int 0])), (b 3, .inr (10, [.int 0, .ref E0, .int 0])), (b 4, .inr (10, [.int 0, .ref E0, .int 0])), (b 5, .inr (10, [.int 0, .ref E0, .int 0])), (b 6, .inr (10, [.int 0, .ref E0, .int 0])), (b 7, .inr (10, [.int 0, .ref E0, .int 0])), (b 8, .inr (10, [.int 0, .ref E0, .int 0]))]) ++ ([(o, .inl (κ.2.1, 1, .inr (.inl (fun _ => 0))))])) (mw κ b E0 0) ([(o, .inl (κ.2.1, 1, .inr (.inl (fun _ => 0))))]) := (Cut.idx [0, 1, 2, 3, 4, 5, 6, 7, 8] [9] rfl rfl (by decide) (by decide) (by decide))
  refine zc_i hG cut276 (zr_V (k := 0) (ci := 9) (n := 2) (As := [.int (xs 1), .int (xs 2)]) (rest := []) hC hG hE hT cut276 (z_42_account l hst D κ E0 H.size b (xs 1) (xs 2) ⟨by omega, by omega⟩ ⟨by omega, by omega⟩) rfl rfl w216 w5 w219 w217 w218 (by decide +kernel) ⟨Nat.le_of_ble_eq_true rfl, Nat.le_of_ble_eq_true rfl⟩ rfl hl.1 rfl (Nat.le_of_ble_eq_true rfl) dL_law_276 ⟨Nat.le_of_ble_eq_true rfl, Nat.le_of_ble_eq_true rfl⟩) (fun z2 H locs hG => ?_)
  have hG : BW D κ (([(o, .inl (κ.2.1, 1, .inr (.inl (fun _ => 0))))]) ++ (mw κ b E0 1)) _ s H locs := hG
  refine lv_istore (lv' := [(6, .int 0), (5, .int 1), (4, .int 0), (3, .ref o), (2, .ref (b 0)), (1, .ref (a 0)), (0, .ref sb)]) hx hb dL_law_279 hl (by decide) rfl (fun ls hl => ?_)
  refine lv_aload_n hx hb dL_law_281 rfl (lv_at hl 4 rfl) ?_
  have cut282 : Cut (([(o, .inl (κ.2.1, 1, .inr (.inl (fun _ => 0))))]) ++ (mw κ b E0 1)) ([(b 0, .inr (9, [.int 1, .ref (b 1), .ref (b 2), .ref (b 3), .ref (b 4), .ref (b 5), .ref (b 6), .ref (b 7), .null, .int 0, .int (-1), .int 0, .int 0, .int 0, .ref (b 8)]))]) ([(o, .inl (κ.2.1, 1, .inr (.inl (fun _ => 0)))), (b 1, .inl (κ.1, 4, .inl (fun _ => 1000))), (b 2, .inr (10, [.int 0, .ref E0, .int 0])), (b 3, .inr (10, [.int 0, .ref E0, .int 0])), (b 4, .inr (10, [.int 0, .ref E0, .int 0])), (b 5, .inr (10, [.int 0, .ref E0, .int 0])), (b 6, .inr (10, [.int 0, .ref E0, .int 0])), (b 7, .inr (10, [.int 0, .ref E0, .int 0])), (b 8, .inr (10, [.int 0, .ref E0, .int 0]))]) := (Cut.idx [1] [0, 2, 3, 4, 5, 6, 7, 8, 9] rfl rfl (by decide) (by decide) (by decide))
  refine zc_i hG cut282 (zr_V (k := 1) (ci := 9) (n := 0) (As := []) (rest := []) hC hG hE hT cut282 (z_6_thrown l hst D κ E0 H.size b) rfl rfl w200 w5 w203 w201 w202 (by decide +kernel) ⟨Nat.le_of_ble_eq_true rfl, Nat.le_of_ble_eq_true rfl⟩ rfl hl.1 rfl (Nat.le_of_ble_eq_true rfl) dL_law_282 ⟨Nat.le_of_ble_eq_true rfl, Nat.le_of_ble_eq_true rfl⟩) (fun z3 H locs hG => ?_)
  have hG : BW D κ (([(o, .inl (κ.2.1, 1, .inr (.inl (fun _ => 0)))), (b 1, .inl (κ.1, 4, .inl (fun _ => 1000))), (b 2, .inr (10, [.int 0, .ref E0, .int 0])), (b 3, .inr (10, [.int 0, .ref E0, .int 0])), (b 4, .inr (10, [.int 0, .ref E0, .int 0])), (b 5, .inr (10, [.int 0, .ref E0, .int 0])), (b 6, .inr (10, [.int 0, .ref E0, .int 0])), (b 7, .inr (10, [.int 0, .ref E0, .int 0])), (b 8, .inr (10, [.int 0, .ref E0, .int 0]))]) ++ ([(b 0, .inr (9, [.int 1, .ref (b 1), .ref (b 2), .ref (b 3), .ref (b 4), .ref (b 5), .ref (b 6), .ref (b 7), .null, .int 0, .int (-1), .int 0, .int 0, .int 0, .ref (b 8)]))])) _ s H locs := hG
  refine lv_iload hx hb dL_law_285 (lv_at hl 1 rfl) ?_
  refine lv_icmp_eq (tgt := 292) hx hb dL_law_287 (by decide) (fun _ => ?_) (fun h287 => absurd (by decide) h287)
  refine lv_iload hx hb dL_law_292 (lv_at hl 1 rfl) ?_
  refine lv_if_ne (tgt := 309) hx hb dL_law_294 (by decide) (fun _ => ?_) (fun h294 => absurd h294 (by decide))
  refine lv_goto (tgt := 2042) hx hb dL_law_309 (by decide) ?_
  refine lv_iinc (v := 4) (lv' := [(4, .int 4), (6, .int 0), (5, .int 1), (3, .ref o), (2, .ref (b 0)), (1, .ref (a 0)), (0, .ref sb)]) hx hb dL_law_2042 hl (k := 2) rfl (by decide) (by decide) rfl (fun ls hl => ?_)
  refine lv_goto (tgt := 23) hx hb dL_law_2045 (by decide) ?_
  refine lv_iload hx hb dL_law_23 (lv_at hl 0 rfl) ?_
  refine lv_aload_n hx hb dL_law_25 rfl (lv_at hl 6 rfl) ?_
  refine va_slen hx hb hX hbl (Nat.not_le_of_lt hbl) hG.2.2.2.1 dL_law_26 ?_
  refine W.eq (g2 := F0 m 27 ls [.int 4, .int 4]) (by rw [hL4]; rfl) ?_
  refine lv_iconst (v := 4) hx hb dL_law_27 (by decide) ?_
  refine lv_isub hx hb dL_law_28 ?_
  refine W.eq (g2 := F0 m 29 ls [.int 0, .int 4]) rfl ?_
  refine lv_icmp_gt (tgt := 2048) hx hb dL_law_29 (by decide) (fun _ => ?_) (fun h29 => absurd (by decide) h29)
  refine lv_iconst (v := 1) hx hb dL_law_2048 (by decide) ?_
  refine W.widen (k := 600002) (n := 7302232) (Nat.le_of_ble_eq_true rfl) (Nat.le_of_ble_eq_true rfl) ?_
  refine va_forget (fun q hq => hG.2.2.2.1.2.2 q hq) ?_
  refine W.base ?_
  exact lw_ret (Drawn.sameBut.refl s.drawn lw_cs) hx hb hr hlocks dL_law_2049
set_option maxHeartbeats 4000000 in
set_option maxRecDepth 100000 in
theorem leaf_8 {p : Program} {e : Env} {s : State} {m : MethodId} {below : List Frame} {meth : Method} {c : Code} (l : Launch) (hst : l.stackTraces = false) {D : va_G} {κ : K4} {E0 : Nat} {a b : Nat → Nat} {o sb L : Nat} {xs : Nat → Int32} (hC : CallFix p m c code 9 s #[Value.ref sb] WALL RL) (hr : meth.sig.returnType = ret) (hlocks : meth.locks = false) (hX : va_X sb L xs s s.heap) (hbl : sb < s.heap.size) (hL4 : L = 4) (hE : EA E0 D κ (fun q => s.heap.size ≤ q) s s.heap) (hT : ET s) (k_1 : 0 ≤ (xs 1).toInt ∧ (xs 1).toInt ≤ 4) (k_2 : 4 ≤ (xs 2).toInt ∧ (xs 2).toInt ≤ 2147483647) (H : Heap) (locs : List Loc) (hG : BW D κ ((xw κ a ++ [(o, .inl (κ.2.1, 1, .inr (.inl (fun _ => 0))))]) ++ mw κ b E0 0) (fun q => s.heap.size ≤ q) s H locs) (ls : Array Slot) (hl : lv_has ls 9 [(4, .int 0), (3, .ref o), (2, .ref (b 0)), (1, .ref (a 0)), (0, .ref sb)]) : W p l e room_1 s m #[Value.ref sb] below meth c H locs 100 6000 (lw_Z below #[Value.ref sb] s) (F0 m 244 ls []) := by
  have hx := hC.1
  have hb := hC.2.1
  refine lv_aload_n hx hb dL_law_244 rfl (lv_at hl 3 rfl) ?_
  refine lv_aload_n hx hb dL_law_245 rfl (lv_at hl 4 rfl) ?_
  refine lv_iload hx hb dL_law_246 (lv_at hl 0 rfl) ?_
  refine lv_iconst (v := 1) hx hb dL_law_248 (by decide) ?_
  refine lv_iadd hx hb dL_law_249 ?_
  refine W.eq (g2 := F0 m 250 ls [.int 1, .ref sb, .ref (a 0)]) rfl ?_
  refine va_sld hx hb hX hbl (Nat.not_le_of_lt hbl) hG.2.2.2.1 (vp_box (by decide) (by rw [hL4]; decide)) dL_law_250 ?_
  refine W.eq (g2 := F0 m 251 ls [.int (xs 1), .ref (a 0)]) rfl ?_
  refine lv_aload_n hx hb dL_law_251 rfl (lv_at hl 4 rfl) ?_
  refine lv_iload hx hb dL_law_252 (lv_at hl 0 rfl) ?_
  refine lv_iconst (v := 2) hx hb dL_law_254 (by decide) ?_
  refine lv_iadd hx hb dL_law_255 ?_
  refine W.eq (g2 := F0 m 256 ls [.int 2, .ref sb, .int (xs 1), .ref (a 0)]) rfl ?_
  refine va_sld hx hb hX hbl (Nat.not_le_of_lt hbl) hG.2.2.2.1 (vp_box (by decide) (by rw [hL4]; decide)) dL_law_256 ?_
  refine W.eq (g2 := F0 m 257 ls [.int (xs 2), .int (xs 1), .ref (a 0)]) rfl ?_
  refine lv_aload_n hx hb dL_law_257 rfl (lv_at hl 1 rfl) ?_
  have cut258 : Cut ((xw κ a ++ [(o, .inl (κ.2.1, 1, .inr (.inl (fun _ => 0))))]) ++ mw κ b E0 0) ([(a 0, .inr (7, [.ref (a 1), .ref (a 7), .ref (a 12), .ref (a 23), .ref (a 28), .ref (a 33), .ref (a 37), .ref (a 41), .int (-1), .int 0])), (a 1, .inr (0, [.ref (a 2), .ref (a 3), .ref (a 4), .ref (a 5), .ref (a 6), .int 0])), (a 2, .inl (κ.1, 4, .inl (fun _ => 1000))), (a 3, .inl (κ.1, 10, .inl (fun _ => 0))), (a 4, .inl (κ.1, 10, .inl (fun _ => 0))), (a 5, .inl (κ.1, 10, .inl (fun _ => 0))), (a 6, .inl (κ.2.2.1, 10, .inl (fun _ => 0))), (a 7, .inr (1, [.ref (a 8), .int 0, .int 0, .int 0])), (a 8, .inr (4, [.ref (a 9), .ref (a 10), .ref (a 11), .int 0])), (a 9, .inl (κ.1, 10, .inl (fun _ => 0))), (a 10, .inl (κ.2.1, 10, .inr (.inl (fun _ => 0)))), (a 11, .inl (κ.2.1, 10, .inr (.inl (fun _ => 0)))), (a 12, .inr (3, [.ref (a 13), .ref (a 14), .ref (a 15), .ref (a 16), .ref (a 17), .ref (a 18), .int 0, .ref (a 19), .ref (a 20), .ref (a 21), .ref (a 22), .int 0])), (a 13, .inl (κ.1, 60, .inl (fun _ => 0))), (a 14, .inl (κ.1, 60, .inl (fun _ => 0))), (a 15, .inl (κ.1, 60, .inl (fun _ => 0))), (a 16, .inl (κ.1, 60, .inl (fun _ => 0))), (a 17, .inl (κ.2.2.1, 60, .inl (fun _ => 0))), (a 18, .inl (κ.2.2.1, 60, .inl (fun _ => 0))), (a 19, .inl (κ.1, 600, .inl (fun _ => 0))), (a 20, .inl (κ.1, 600, .inl (fun _ => 0))), (a 21, .inl (κ.2.1, 600, .inr (.inl (fun _ => 0)))), (a 22, .inl (κ.2.1, 600, .inr (.inl (fun _ => 0)))), (a 23, .inr (2, [.ref (a 24), .ref (a 25), .ref (a 26), .ref (a 27), .int 0])), (a 24, .inl (κ.1, 20, .inl (fun _ => 0))), (a 25, .inl (κ.1, 20, .inl (fun _ => 0))), (a 26, .inl (κ.1, 20, .inl (fun _ => 0))), (a 27, .inl (κ.2.2.1, 20, .inl (fun _ => 0))), (a 28, .inr (5, [.ref (a 29), .ref (a 30), .ref (a 31), .ref (a 32), .int 0])), (a 29, .inl (κ.1, 40, .inl (fun _ => 0))), (a 30, .inl (κ.1, 40, .inl (fun _ => 0))), (a 31, .inl (κ.1, 40, .inl (fun _ => 0))), (a 32, .inl (κ.1, 40, .inl (fun _ => 0))), (a 33, .inr (6, [.ref (a 12), .ref (a 28), .ref (a 34), .ref (a 35), .ref (a 36)])), (a 34, .inl (κ.1, 600, .inl (fun _ => (-1)))), (a 35, .inl (κ.1, 40, .inl (fun _ => (-1)))), (a 36, .inl (κ.1, 40, .inl (fun _ => (-1)))), (a 37, .inr (6, [.ref (a 12), .ref (a 28), .ref (a 38), .ref (a 39), .ref (a 40)])), (a 38, .inl (κ.1, 600, .inl (fun _ => (-1)))), (a 39, .inl (κ.1, 40, .inl (fun _ => (-1)))), (a 40, .inl (κ.1, 40, .inl (fun _ => (-1)))), (a 41, .inr (4, [.ref (a 42), .ref (a 43), .ref (a 44), .int 0])), (a 42, .inl (κ.1, 10, .inl (fun _ => 0))), (a 43, .inl (κ.2.1, 10, .inr (.inl (fun _ => 0)))), (a 44, .inl (κ.2.1, 10, .inr (.inl (fun _ => 0)))), (o, .inl (κ.2.1, 1, .inr (.inl (fun _ => 0))))]) ([(b 0, .inr (9, [.int 0, .ref (b 1), .ref (b 2), .ref (b 3), .ref (b 4), .ref (b 5), .ref (b 6), .ref (b 7), .null, .int 0, .int (-1), .int 0, .int 0, .int 0, .ref (b 8)])), (b 1, .inl (κ.1, 4, .inl (fun _ => 1000))), (b 2, .inr (10, [.int 0, .ref E0, .int 0])), (b 3, .inr (10, [.int 0, .ref E0, .int 0])), (b 4, .inr (10, [.int 0, .ref E0, .int 0])), (b 5, .inr (10, [.int 0, .ref E0, .int 0])), (b 6, .inr (10, [.int 0, .ref E0, .int 0])), (b 7, .inr (10, [.int 0, .ref E0, .int 0])), (b 8, .inr (10, [.int 0, .ref E0, .int 0]))]) := (Cut.idx [0, 1, 2, 3, 4, 5, 6, 7, 8, 9, 10, 11, 12, 13, 14, 15, 16, 17, 18, 19, 20, 21, 22, 23, 24, 25, 26, 27, 28, 29, 30, 31, 32, 33, 34, 35, 36, 37, 38, 39, 40, 41, 42, 43, 44, 45] [46, 47, 48, 49, 50, 51, 52, 53, 54] rfl rfl (by decide) (by decide) (by decide))
  refine zc_i hG cut258 (zr_H (n := 4) (As := [.ref (a 0), .int (xs 1), .int (xs 2), .ref o]) (rest := []) hC hG hE hT cut258 (z_44_account l hst D κ E0 H.size a (xs 1) (xs 2) o ⟨by omega, by omega⟩ ⟨by omega, by omega⟩) w204 w143 w206 w205 (by decide +kernel) ⟨Nat.le_of_ble_eq_true rfl, Nat.le_of_ble_eq_true rfl⟩ rfl hl.1 rfl (Nat.le_of_ble_eq_true rfl) dL_law_258 ⟨Nat.le_of_ble_eq_true rfl, Nat.le_of_ble_eq_true rfl⟩) (fun z1 H locs hG => ?_)
  have hG : BW D κ (([(b 0, .inr (9, [.int 0, .ref (b 1), .ref (b 2), .ref (b 3), .ref (b 4), .ref (b 5), .ref (b 6), .ref (b 7), .null, .int 0, .int (-1), .int 0, .int 0, .int 0, .ref (b 8)])), (b 1, .inl (κ.1, 4, .inl (fun _ => 1000))), (b 2, .inr (10, [.int 0, .ref E0, .int 0])), (b 3, .inr (10, [.int 0, .ref E0, .int 0])), (b 4, .inr (10, [.int 0, .ref E0, .int 0])), (b 5, .inr (10, [.int 0, .ref E0, .int 0])), (b 6, .inr (10, [.int 0, .ref E0, .int 0])), (b 7, .inr (10, [.int 0, .ref E0, .int 0])), (b 8, .inr (10, [.int 0, .ref E0, .int 0]))]) ++ ([(o, .inl (κ.2.1, 1, .inr (.inl (fun _ => 0))))])) _ s H locs := hG
  refine lv_istore (lv' := [(5, .int 1), (4, .int 0), (3, .ref o), (2, .ref (b 0)), (1, .ref (a 0)), (0, .ref sb)]) hx hb dL_law_261 hl (by decide) rfl (fun ls hl => ?_)
  refine lv_aload_n hx hb dL_law_263 rfl (lv_at hl 3 rfl) ?_
  refine lv_aload_n hx hb dL_law_264 rfl (lv_at hl 5 rfl) ?_
  refine lv_iload hx hb dL_law_265 (lv_at hl 1 rfl) ?_
  refine lv_iconst (v := 1) hx hb dL_law_267 (by decide) ?_
  refine lv_iadd hx hb dL_law_268 ?_
  refine W.eq (g2 := F0 m 269 ls [.int 1, .ref sb, .ref (b 0)]) rfl ?_
  refine va_sld hx hb hX hbl (Nat.not_le_of_lt hbl) hG.2.2.2.1 (vp_box (by decide) (by rw [hL4]; decide)) dL_law_269 ?_
  refine W.eq (g2 := F0 m 270 ls [.int (xs 1), .ref (b 0)]) rfl ?_
  refine lv_aload_n hx hb dL_law_270 rfl (lv_at hl 5 rfl) ?_
  refine lv_iload hx hb dL_law_271 (lv_at hl 1 rfl) ?_
  refine lv_iconst (v := 2) hx hb dL_law_273 (by decide) ?_
  refine lv_iadd hx hb dL_law_274 ?_
  refine W.eq (g2 := F0 m 275 ls [.int 2, .ref sb, .int (xs 1), .ref (b 0)]) rfl ?_
  refine va_sld hx hb hX hbl (Nat.not_le_of_lt hbl) hG.2.2.2.1 (vp_box (by decide) (by rw [hL4]; decide)) dL_law_275 ?_
  refine W.eq (g2 := F0 m 276 ls [.int (xs 2), .int (xs 1), .ref (b 0)]) rfl ?_
  have cut276 : Cut (([(b 0, .inr (9, [.int 0, .ref (b 1), .ref (b 2), .ref (b 3), .ref (b 4), .ref (b 5), .ref (b 6), .ref (b 7), .null, .int 0, .int (-1), .int 0, .int 0, .int 0, .ref (b 8)])), (b 1, .inl (κ.1, 4, .inl (fun _ => 1000))), (b 2, .inr (10, [.int 0, .ref E0, .int 0])), (b 3, .inr (10, [.int 0, .ref E0, .int 0])), (b 4, .inr (10, [.int 0, .ref E0, .int 0])), (b 5, .inr (10, [.int 0, .ref E0, .int 0])), (b 6, .inr (10, [.int 0, .ref E0, .int 0])), (b 7, .inr (10, [.int 0, .ref E0, .int 0])), (b 8, .inr (10, [.int 0, .ref E0, .int 0]))]) ++ ([(o, .inl (κ.2.1, 1, .inr (.inl (fun _ => 0))))])) (mw κ b E0 0) ([(o, .inl (κ.2.1, 1, .inr (.inl (fun _ => 0))))]) := (Cut.idx [0, 1, 2, 3, 4, 5, 6, 7, 8] [9] rfl rfl (by decide) (by decide) (by decide))
  refine zc_i hG cut276 (zr_V (k := 0) (ci := 9) (n := 2) (As := [.int (xs 1), .int (xs 2)]) (rest := []) hC hG hE hT cut276 (z_46_account l hst D κ E0 H.size b (xs 1) (xs 2) ⟨by omega, by omega⟩ ⟨by omega, by omega⟩) rfl rfl w216 w5 w219 w217 w218 (by decide +kernel) ⟨Nat.le_of_ble_eq_true rfl, Nat.le_of_ble_eq_true rfl⟩ rfl hl.1 rfl (Nat.le_of_ble_eq_true rfl) dL_law_276 ⟨Nat.le_of_ble_eq_true rfl, Nat.le_of_ble_eq_true rfl⟩) (fun z2 H locs hG => ?_)
  have hG : BW D κ (([(o, .inl (κ.2.1, 1, .inr (.inl (fun _ => 0))))]) ++ (mw κ b E0 1)) _ s H locs := hG
  refine lv_istore (lv' := [(6, .int 0), (5, .int 1), (4, .int 0), (3, .ref o), (2, .ref (b 0)), (1, .ref (a 0)), (0, .ref sb)]) hx hb dL_law_279 hl (by decide) rfl (fun ls hl => ?_)
  refine lv_aload_n hx hb dL_law_281 rfl (lv_at hl 4 rfl) ?_
  have cut282 : Cut (([(o, .inl (κ.2.1, 1, .inr (.inl (fun _ => 0))))]) ++ (mw κ b E0 1)) ([(b 0, .inr (9, [.int 1, .ref (b 1), .ref (b 2), .ref (b 3), .ref (b 4), .ref (b 5), .ref (b 6), .ref (b 7), .null, .int 0, .int (-1), .int 0, .int 0, .int 0, .ref (b 8)]))]) ([(o, .inl (κ.2.1, 1, .inr (.inl (fun _ => 0)))), (b 1, .inl (κ.1, 4, .inl (fun _ => 1000))), (b 2, .inr (10, [.int 0, .ref E0, .int 0])), (b 3, .inr (10, [.int 0, .ref E0, .int 0])), (b 4, .inr (10, [.int 0, .ref E0, .int 0])), (b 5, .inr (10, [.int 0, .ref E0, .int 0])), (b 6, .inr (10, [.int 0, .ref E0, .int 0])), (b 7, .inr (10, [.int 0, .ref E0, .int 0])), (b 8, .inr (10, [.int 0, .ref E0, .int 0]))]) := (Cut.idx [1] [0, 2, 3, 4, 5, 6, 7, 8, 9] rfl rfl (by decide) (by decide) (by decide))
  refine zc_i hG cut282 (zr_V (k := 1) (ci := 9) (n := 0) (As := []) (rest := []) hC hG hE hT cut282 (z_6_thrown l hst D κ E0 H.size b) rfl rfl w200 w5 w203 w201 w202 (by decide +kernel) ⟨Nat.le_of_ble_eq_true rfl, Nat.le_of_ble_eq_true rfl⟩ rfl hl.1 rfl (Nat.le_of_ble_eq_true rfl) dL_law_282 ⟨Nat.le_of_ble_eq_true rfl, Nat.le_of_ble_eq_true rfl⟩) (fun z3 H locs hG => ?_)
  have hG : BW D κ (([(o, .inl (κ.2.1, 1, .inr (.inl (fun _ => 0)))), (b 1, .inl (κ.1, 4, .inl (fun _ => 1000))), (b 2, .inr (10, [.int 0, .ref E0, .int 0])), (b 3, .inr (10, [.int 0, .ref E0, .int 0])), (b 4, .inr (10, [.int 0, .ref E0, .int 0])), (b 5, .inr (10, [.int 0, .ref E0, .int 0])), (b 6, .inr (10, [.int 0, .ref E0, .int 0])), (b 7, .inr (10, [.int 0, .ref E0, .int 0])), (b 8, .inr (10, [.int 0, .ref E0, .int 0]))]) ++ ([(b 0, .inr (9, [.int 1, .ref (b 1), .ref (b 2), .ref (b 3), .ref (b 4), .ref (b 5), .ref (b 6), .ref (b 7), .null, .int 0, .int (-1), .int 0, .int 0, .int 0, .ref (b 8)]))])) _ s H locs := hG
  refine lv_iload hx hb dL_law_285 (lv_at hl 1 rfl) ?_
  refine lv_icmp_eq (tgt := 292) hx hb dL_law_287 (by decide) (fun _ => ?_) (fun h287 => absurd (by decide) h287)
  refine lv_iload hx hb dL_law_292 (lv_at hl 1 rfl) ?_
  refine lv_if_ne (tgt := 309) hx hb dL_law_294 (by decide) (fun _ => ?_) (fun h294 => absurd h294 (by decide))
  refine lv_goto (tgt := 2042) hx hb dL_law_309 (by decide) ?_
  refine lv_iinc (v := 4) (lv' := [(4, .int 4), (6, .int 0), (5, .int 1), (3, .ref o), (2, .ref (b 0)), (1, .ref (a 0)), (0, .ref sb)]) hx hb dL_law_2042 hl (k := 2) rfl (by decide) (by decide) rfl (fun ls hl => ?_)
  refine lv_goto (tgt := 23) hx hb dL_law_2045 (by decide) ?_
  refine lv_iload hx hb dL_law_23 (lv_at hl 0 rfl) ?_
  refine lv_aload_n hx hb dL_law_25 rfl (lv_at hl 6 rfl) ?_
  refine va_slen hx hb hX hbl (Nat.not_le_of_lt hbl) hG.2.2.2.1 dL_law_26 ?_
  refine W.eq (g2 := F0 m 27 ls [.int 4, .int 4]) (by rw [hL4]; rfl) ?_
  refine lv_iconst (v := 4) hx hb dL_law_27 (by decide) ?_
  refine lv_isub hx hb dL_law_28 ?_
  refine W.eq (g2 := F0 m 29 ls [.int 0, .int 4]) rfl ?_
  refine lv_icmp_gt (tgt := 2048) hx hb dL_law_29 (by decide) (fun _ => ?_) (fun h29 => absurd (by decide) h29)
  refine lv_iconst (v := 1) hx hb dL_law_2048 (by decide) ?_
  refine W.widen (k := 600002) (n := 7302232) (Nat.le_of_ble_eq_true rfl) (Nat.le_of_ble_eq_true rfl) ?_
  refine va_forget (fun q hq => hG.2.2.2.1.2.2 q hq) ?_
  refine W.base ?_
  exact lw_ret (Drawn.sameBut.refl s.drawn lw_cs) hx hb hr hlocks dL_law_2049
theorem dL_law_297 : decode code 297 = .ok (.aload_n 3, 1) := by decide +kernel
theorem dL_law_298 : decode code 298 = .ok (.iconst 0, 1) := by decide +kernel
theorem dL_law_299 : decode code 299 = .ok (.laload, 1) := by decide +kernel
theorem dL_law_300 : decode code 300 = .ok (.iload 6, 2) := by decide +kernel
theorem dL_law_302 : decode code 302 = .ok (.i2l, 1) := by decide +kernel
theorem dL_law_303 : decode code 303 = .ok (.lcmp, 1) := by decide +kernel
theorem dL_law_304 : decode code 304 = .ok (.ifCond .eq 5, 3) := by decide +kernel
set_option maxHeartbeats 4000000 in
set_option maxRecDepth 100000 in
theorem leaf_9 {p : Program} {e : Env} {s : State} {m : MethodId} {below : List Frame} {meth : Method} {c : Code} (l : Launch) (hst : l.stackTraces = false) {D : va_G} {κ : K4} {E0 : Nat} {a b : Nat → Nat} {o sb L : Nat} {xs : Nat → Int32} (hC : CallFix p m c code 9 s #[Value.ref sb] WALL RL) (hr : meth.sig.returnType = ret) (hlocks : meth.locks = false) (hX : va_X sb L xs s s.heap) (hbl : sb < s.heap.size) (hL4 : L = 4) (hE : EA E0 D κ (fun q => s.heap.size ≤ q) s s.heap) (hT : ET s) (k_1 : 0 ≤ (xs 1).toInt ∧ (xs 1).toInt ≤ 4) (k_2 : 0 ≤ (xs 2).toInt ∧ (xs 2).toInt ≤ 3) (H : Heap) (locs : List Loc) (hG : BW D κ ((xw κ a ++ [(o, .inl (κ.2.1, 1, .inr (.inl (fun _ => 0))))]) ++ mw κ b E0 0) (fun q => s.heap.size ≤ q) s H locs) (ls : Array Slot) (hl : lv_has ls 9 [(4, .int 0), (3, .ref o), (2, .ref (b 0)), (1, .ref (a 0)), (0, .ref sb)]) : W p l e room_1 s m #[Value.ref sb] below meth c H locs 100 6000 (lw_Z below #[Value.ref sb] s) (F0 m 244 ls []) := by
  have hx := hC.1
  have hb := hC.2.1
  refine lv_aload_n hx hb dL_law_244 rfl (lv_at hl 3 rfl) ?_
  refine lv_aload_n hx hb dL_law_245 rfl (lv_at hl 4 rfl) ?_
  refine lv_iload hx hb dL_law_246 (lv_at hl 0 rfl) ?_
  refine lv_iconst (v := 1) hx hb dL_law_248 (by decide) ?_
  refine lv_iadd hx hb dL_law_249 ?_
  refine W.eq (g2 := F0 m 250 ls [.int 1, .ref sb, .ref (a 0)]) rfl ?_
  refine va_sld hx hb hX hbl (Nat.not_le_of_lt hbl) hG.2.2.2.1 (vp_box (by decide) (by rw [hL4]; decide)) dL_law_250 ?_
  refine W.eq (g2 := F0 m 251 ls [.int (xs 1), .ref (a 0)]) rfl ?_
  refine lv_aload_n hx hb dL_law_251 rfl (lv_at hl 4 rfl) ?_
  refine lv_iload hx hb dL_law_252 (lv_at hl 0 rfl) ?_
  refine lv_iconst (v := 2) hx hb dL_law_254 (by decide) ?_
  refine lv_iadd hx hb dL_law_255 ?_
  refine W.eq (g2 := F0 m 256 ls [.int 2, .ref sb, .int (xs 1), .ref (a 0)]) rfl ?_
  refine va_sld hx hb hX hbl (Nat.not_le_of_lt hbl) hG.2.2.2.1 (vp_box (by decide) (by rw [hL4]; decide)) dL_law_256 ?_
  refine W.eq (g2 := F0 m 257 ls [.int (xs 2), .int (xs 1), .ref (a 0)]) rfl ?_
  refine lv_aload_n hx hb dL_law_257 rfl (lv_at hl 1 rfl) ?_
  have cut258 : Cut ((xw κ a ++ [(o, .inl (κ.2.1, 1, .inr (.inl (fun _ => 0))))]) ++ mw κ b E0 0) ([(a 0, .inr (7, [.ref (a 1), .ref (a 7), .ref (a 12), .ref (a 23), .ref (a 28), .ref (a 33), .ref (a 37), .ref (a 41), .int (-1), .int 0])), (a 1, .inr (0, [.ref (a 2), .ref (a 3), .ref (a 4), .ref (a 5), .ref (a 6), .int 0])), (a 2, .inl (κ.1, 4, .inl (fun _ => 1000))), (a 3, .inl (κ.1, 10, .inl (fun _ => 0))), (a 4, .inl (κ.1, 10, .inl (fun _ => 0))), (a 5, .inl (κ.1, 10, .inl (fun _ => 0))), (a 6, .inl (κ.2.2.1, 10, .inl (fun _ => 0))), (a 7, .inr (1, [.ref (a 8), .int 0, .int 0, .int 0])), (a 8, .inr (4, [.ref (a 9), .ref (a 10), .ref (a 11), .int 0])), (a 9, .inl (κ.1, 10, .inl (fun _ => 0))), (a 10, .inl (κ.2.1, 10, .inr (.inl (fun _ => 0)))), (a 11, .inl (κ.2.1, 10, .inr (.inl (fun _ => 0)))), (a 12, .inr (3, [.ref (a 13), .ref (a 14), .ref (a 15), .ref (a 16), .ref (a 17), .ref (a 18), .int 0, .ref (a 19), .ref (a 20), .ref (a 21), .ref (a 22), .int 0])), (a 13, .inl (κ.1, 60, .inl (fun _ => 0))), (a 14, .inl (κ.1, 60, .inl (fun _ => 0))), (a 15, .inl (κ.1, 60, .inl (fun _ => 0))), (a 16, .inl (κ.1, 60, .inl (fun _ => 0))), (a 17, .inl (κ.2.2.1, 60, .inl (fun _ => 0))), (a 18, .inl (κ.2.2.1, 60, .inl (fun _ => 0))), (a 19, .inl (κ.1, 600, .inl (fun _ => 0))), (a 20, .inl (κ.1, 600, .inl (fun _ => 0))), (a 21, .inl (κ.2.1, 600, .inr (.inl (fun _ => 0)))), (a 22, .inl (κ.2.1, 600, .inr (.inl (fun _ => 0)))), (a 23, .inr (2, [.ref (a 24), .ref (a 25), .ref (a 26), .ref (a 27), .int 0])), (a 24, .inl (κ.1, 20, .inl (fun _ => 0))), (a 25, .inl (κ.1, 20, .inl (fun _ => 0))), (a 26, .inl (κ.1, 20, .inl (fun _ => 0))), (a 27, .inl (κ.2.2.1, 20, .inl (fun _ => 0))), (a 28, .inr (5, [.ref (a 29), .ref (a 30), .ref (a 31), .ref (a 32), .int 0])), (a 29, .inl (κ.1, 40, .inl (fun _ => 0))), (a 30, .inl (κ.1, 40, .inl (fun _ => 0))), (a 31, .inl (κ.1, 40, .inl (fun _ => 0))), (a 32, .inl (κ.1, 40, .inl (fun _ => 0))), (a 33, .inr (6, [.ref (a 12), .ref (a 28), .ref (a 34), .ref (a 35), .ref (a 36)])), (a 34, .inl (κ.1, 600, .inl (fun _ => (-1)))), (a 35, .inl (κ.1, 40, .inl (fun _ => (-1)))), (a 36, .inl (κ.1, 40, .inl (fun _ => (-1)))), (a 37, .inr (6, [.ref (a 12), .ref (a 28), .ref (a 38), .ref (a 39), .ref (a 40)])), (a 38, .inl (κ.1, 600, .inl (fun _ => (-1)))), (a 39, .inl (κ.1, 40, .inl (fun _ => (-1)))), (a 40, .inl (κ.1, 40, .inl (fun _ => (-1)))), (a 41, .inr (4, [.ref (a 42), .ref (a 43), .ref (a 44), .int 0])), (a 42, .inl (κ.1, 10, .inl (fun _ => 0))), (a 43, .inl (κ.2.1, 10, .inr (.inl (fun _ => 0)))), (a 44, .inl (κ.2.1, 10, .inr (.inl (fun _ => 0)))), (o, .inl (κ.2.1, 1, .inr (.inl (fun _ => 0))))]) ([(b 0, .inr (9, [.int 0, .ref (b 1), .ref (b 2), .ref (b 3), .ref (b 4), .ref (b 5), .ref (b 6), .ref (b 7), .null, .int 0, .int (-1), .int 0, .int 0, .int 0, .ref (b 8)])), (b 1, .inl (κ.1, 4, .inl (fun _ => 1000))), (b 2, .inr (10, [.int 0, .ref E0, .int 0])), (b 3, .inr (10, [.int 0, .ref E0, .int 0])), (b 4, .inr (10, [.int 0, .ref E0, .int 0])), (b 5, .inr (10, [.int 0, .ref E0, .int 0])), (b 6, .inr (10, [.int 0, .ref E0, .int 0])), (b 7, .inr (10, [.int 0, .ref E0, .int 0])), (b 8, .inr (10, [.int 0, .ref E0, .int 0]))]) := (Cut.idx [0, 1, 2, 3, 4, 5, 6, 7, 8, 9, 10, 11, 12, 13, 14, 15, 16, 17, 18, 19, 20, 21, 22, 23, 24, 25, 26, 27, 28, 29, 30, 31, 32, 33, 34, 35, 36, 37, 38, 39, 40, 41, 42, 43, 44, 45] [46, 47, 48, 49, 50, 51, 52, 53, 54] rfl rfl (by decide) (by decide) (by decide))
  refine zc_i hG cut258 (zr_H (n := 4) (As := [.ref (a 0), .int (xs 1), .int (xs 2), .ref o]) (rest := []) hC hG hE hT cut258 (z_49_account l hst D κ E0 H.size a (xs 1) (xs 2) o ⟨by omega, by omega⟩ ⟨by omega, by omega⟩) w204 w143 w206 w205 (by decide +kernel) ⟨Nat.le_of_ble_eq_true rfl, Nat.le_of_ble_eq_true rfl⟩ rfl hl.1 rfl (Nat.le_of_ble_eq_true rfl) dL_law_258 ⟨Nat.le_of_ble_eq_true rfl, Nat.le_of_ble_eq_true rfl⟩) (fun z1 H locs hG => ?_)
  have hG : BW D κ (([(b 0, .inr (9, [.int 0, .ref (b 1), .ref (b 2), .ref (b 3), .ref (b 4), .ref (b 5), .ref (b 6), .ref (b 7), .null, .int 0, .int (-1), .int 0, .int 0, .int 0, .ref (b 8)])), (b 1, .inl (κ.1, 4, .inl (fun _ => 1000))), (b 2, .inr (10, [.int 0, .ref E0, .int 0])), (b 3, .inr (10, [.int 0, .ref E0, .int 0])), (b 4, .inr (10, [.int 0, .ref E0, .int 0])), (b 5, .inr (10, [.int 0, .ref E0, .int 0])), (b 6, .inr (10, [.int 0, .ref E0, .int 0])), (b 7, .inr (10, [.int 0, .ref E0, .int 0])), (b 8, .inr (10, [.int 0, .ref E0, .int 0]))]) ++ ([(o, .inl (κ.2.1, 1, .inr (.inl (va_up (fun _ => 0) ((0 : Int32).toNatClampNeg) 0))))])) _ s H locs := hG
  refine lv_istore (lv' := [(5, .int 0), (4, .int 0), (3, .ref o), (2, .ref (b 0)), (1, .ref (a 0)), (0, .ref sb)]) hx hb dL_law_261 hl (by decide) rfl (fun ls hl => ?_)
  refine lv_aload_n hx hb dL_law_263 rfl (lv_at hl 3 rfl) ?_
  refine lv_aload_n hx hb dL_law_264 rfl (lv_at hl 5 rfl) ?_
  refine lv_iload hx hb dL_law_265 (lv_at hl 1 rfl) ?_
  refine lv_iconst (v := 1) hx hb dL_law_267 (by decide) ?_
  refine lv_iadd hx hb dL_law_268 ?_
  refine W.eq (g2 := F0 m 269 ls [.int 1, .ref sb, .ref (b 0)]) rfl ?_
  refine va_sld hx hb hX hbl (Nat.not_le_of_lt hbl) hG.2.2.2.1 (vp_box (by decide) (by rw [hL4]; decide)) dL_law_269 ?_
  refine W.eq (g2 := F0 m 270 ls [.int (xs 1), .ref (b 0)]) rfl ?_
  refine lv_aload_n hx hb dL_law_270 rfl (lv_at hl 5 rfl) ?_
  refine lv_iload hx hb dL_law_271 (lv_at hl 1 rfl) ?_
  refine lv_iconst (v := 2) hx hb dL_law_273 (by decide) ?_
  refine lv_iadd hx hb dL_law_274 ?_
  refine W.eq (g2 := F0 m 275 ls [.int 2, .ref sb, .int (xs 1), .ref (b 0)]) rfl ?_
  refine va_sld hx hb hX hbl (Nat.not_le_of_lt hbl) hG.2.2.2.1 (vp_box (by decide) (by rw [hL4]; decide)) dL_law_275 ?_
  refine W.eq (g2 := F0 m 276 ls [.int (xs 2), .int (xs 1), .ref (b 0)]) rfl ?_
  have cut276 : Cut (([(b 0, .inr (9, [.int 0, .ref (b 1), .ref (b 2), .ref (b 3), .ref (b 4), .ref (b 5), .ref (b 6), .ref (b 7), .null, .int 0, .int (-1), .int 0, .int 0, .int 0, .ref (b 8)])), (b 1, .inl (κ.1, 4, .inl (fun _ => 1000))), (b 2, .inr (10, [.int 0, .ref E0, .int 0])), (b 3, .inr (10, [.int 0, .ref E0, .int 0])), (b 4, .inr (10, [.int 0, .ref E0, .int 0])), (b 5, .inr (10, [.int 0, .ref E0, .int 0])), (b 6, .inr (10, [.int 0, .ref E0, .int 0])), (b 7, .inr (10, [.int 0, .ref E0, .int 0])), (b 8, .inr (10, [.int 0, .ref E0, .int 0]))]) ++ ([(o, .inl (κ.2.1, 1, .inr (.inl (va_up (fun _ => 0) ((0 : Int32).toNatClampNeg) 0))))])) (mw κ b E0 0) ([(o, .inl (κ.2.1, 1, .inr (.inl (va_up (fun _ => 0) ((0 : Int32).toNatClampNeg) 0))))]) := (Cut.idx [0, 1, 2, 3, 4, 5, 6, 7, 8] [9] rfl rfl (by decide) (by decide) (by decide))
  refine zc_i hG cut276 (zr_V (k := 0) (ci := 9) (n := 2) (As := [.int (xs 1), .int (xs 2)]) (rest := []) hC hG hE hT cut276 (z_57_account l hst D κ E0 H.size b (xs 1) (xs 2) ⟨by omega, by omega⟩ ⟨by omega, by omega⟩) rfl rfl w216 w5 w219 w217 w218 (by decide +kernel) ⟨Nat.le_of_ble_eq_true rfl, Nat.le_of_ble_eq_true rfl⟩ rfl hl.1 rfl (Nat.le_of_ble_eq_true rfl) dL_law_276 ⟨Nat.le_of_ble_eq_true rfl, Nat.le_of_ble_eq_true rfl⟩) (fun z2 H locs hG => ?_)
  have hG : BW D κ (([(o, .inl (κ.2.1, 1, .inr (.inl (va_up (fun _ => 0) ((0 : Int32).toNatClampNeg) 0))))]) ++ ([(b 0, .inr (9, [.int 0, .ref (b 1), .ref (b 2), .ref (b 3), .ref (b 4), .ref (b 5), .ref (b 6), .ref (b 7), .null, .int 0, .int (-1), .int 0, .int 0, .int 0, .ref (b 8)]))])) _ s H locs := hG
  refine lv_istore (lv' := [(6, .int 0), (5, .int 0), (4, .int 0), (3, .ref o), (2, .ref (b 0)), (1, .ref (a 0)), (0, .ref sb)]) hx hb dL_law_279 hl (by decide) rfl (fun ls hl => ?_)
  refine lv_aload_n hx hb dL_law_281 rfl (lv_at hl 4 rfl) ?_
  have cut282 : Cut (([(o, .inl (κ.2.1, 1, .inr (.inl (va_up (fun _ => 0) ((0 : Int32).toNatClampNeg) 0))))]) ++ ([(b 0, .inr (9, [.int 0, .ref (b 1), .ref (b 2), .ref (b 3), .ref (b 4), .ref (b 5), .ref (b 6), .ref (b 7), .null, .int 0, .int (-1), .int 0, .int 0, .int 0, .ref (b 8)]))])) ([(b 0, .inr (9, [.int 0, .ref (b 1), .ref (b 2), .ref (b 3), .ref (b 4), .ref (b 5), .ref (b 6), .ref (b 7), .null, .int 0, .int (-1), .int 0, .int 0, .int 0, .ref (b 8)]))]) ([(o, .inl (κ.2.1, 1, .inr (.inl (va_up (fun _ => 0) ((0 : Int32).toNatClampNeg) 0))))]) := (Cut.idx [1] [0] rfl rfl (by decide) (by decide) (by decide))
  refine zc_i hG cut282 (zr_V (k := 1) (ci := 9) (n := 0) (As := []) (rest := []) hC hG hE hT cut282 (z_29_thrown l hst D κ E0 H.size b) rfl rfl w200 w5 w203 w201 w202 (by decide +kernel) ⟨Nat.le_of_ble_eq_true rfl, Nat.le_of_ble_eq_true rfl⟩ rfl hl.1 rfl (Nat.le_of_ble_eq_true rfl) dL_law_282 ⟨Nat.le_of_ble_eq_true rfl, Nat.le_of_ble_eq_true rfl⟩) (fun z3 H locs hG => ?_)
  have hG : BW D κ (([(o, .inl (κ.2.1, 1, .inr (.inl (va_up (fun _ => 0) ((0 : Int32).toNatClampNeg) 0))))]) ++ ([(b 0, .inr (9, [.int 0, .ref (b 1), .ref (b 2), .ref (b 3), .ref (b 4), .ref (b 5), .ref (b 6), .ref (b 7), .null, .int 0, .int (-1), .int 0, .int 0, .int 0, .ref (b 8)]))])) _ s H locs := hG
  refine lv_iload hx hb dL_law_285 (lv_at hl 1 rfl) ?_
  refine lv_icmp_eq (tgt := 292) hx hb dL_law_287 (by decide) (fun _ => ?_) (fun h287 => absurd (by decide) h287)
  refine lv_iload hx hb dL_law_292 (lv_at hl 1 rfl) ?_
  refine lv_if_ne (tgt := 309) hx hb dL_law_294 (by decide) (fun h294 => absurd (by decide) h294) (fun _ => ?_)
  refine lv_aload_n hx hb dL_law_297 rfl (lv_at hl 3 rfl) ?_
  refine lv_iconst (v := 0) hx hb dL_law_298 (by decide) ?_
  refine zs_lld 0 (v := 0) hC hG rfl (vp_box (by have e0 : (0 : Int32).toInt = 0 := (by decide); omega) (by have e0 : (0 : Int32).toInt = 0 := (by decide); omega)) rfl dL_law_299 ?_
  refine lv_iload hx hb dL_law_300 (lv_at hl 0 rfl) ?_
  refine lv_i2l (v := 0) hx hb dL_law_302 (by decide) ?_
  refine bl_eq (tgt := 309) hx hb dL_law_303 dL_law_304 (by decide) (fun _ => ?_) (fun h9 => absurd (rfl) h9)
  refine lv_goto (tgt := 2042) hx hb dL_law_309 (by decide) ?_
  refine lv_iinc (v := 4) (lv' := [(4, .int 4), (6, .int 0), (5, .int 0), (3, .ref o), (2, .ref (b 0)), (1, .ref (a 0)), (0, .ref sb)]) hx hb dL_law_2042 hl (k := 2) rfl (by decide) (by decide) rfl (fun ls hl => ?_)
  refine lv_goto (tgt := 23) hx hb dL_law_2045 (by decide) ?_
  refine lv_iload hx hb dL_law_23 (lv_at hl 0 rfl) ?_
  refine lv_aload_n hx hb dL_law_25 rfl (lv_at hl 6 rfl) ?_
  refine va_slen hx hb hX hbl (Nat.not_le_of_lt hbl) hG.2.2.2.1 dL_law_26 ?_
  refine W.eq (g2 := F0 m 27 ls [.int 4, .int 4]) (by rw [hL4]; rfl) ?_
  refine lv_iconst (v := 4) hx hb dL_law_27 (by decide) ?_
  refine lv_isub hx hb dL_law_28 ?_
  refine W.eq (g2 := F0 m 29 ls [.int 0, .int 4]) rfl ?_
  refine lv_icmp_gt (tgt := 2048) hx hb dL_law_29 (by decide) (fun _ => ?_) (fun h29 => absurd (by decide) h29)
  refine lv_iconst (v := 1) hx hb dL_law_2048 (by decide) ?_
  refine W.widen (k := 600002) (n := 7302232) (Nat.le_of_ble_eq_true rfl) (Nat.le_of_ble_eq_true rfl) ?_
  refine va_forget (fun q hq => hG.2.2.2.1.2.2 q hq) ?_
  refine W.base ?_
  exact lw_ret (Drawn.sameBut.refl s.drawn lw_cs) hx hb hr hlocks dL_law_2049
