theorem dL_law_1730 : decode code 1730 = .ok (.aload_n 1, 1) := by decide +kernel
theorem dL_law_1731 : decode code 1731 = .ok (.aload_n 0, 1) := by decide +kernel
theorem dL_law_1732 : decode code 1732 = .ok (.iload 4, 2) := by decide +kernel
theorem dL_law_1734 : decode code 1734 = .ok (.iconst 1, 1) := by decide +kernel
theorem dL_law_1735 : decode code 1735 = .ok (.iadd, 1) := by decide +kernel
theorem dL_law_1736 : decode code 1736 = .ok (.iaload, 1) := by decide +kernel
theorem dL_law_1737 : decode code 1737 = .ok (.aload_n 0, 1) := by decide +kernel
theorem dL_law_1738 : decode code 1738 = .ok (.iload 4, 2) := by decide +kernel
theorem dL_law_1740 : decode code 1740 = .ok (.iconst 2, 1) := by decide +kernel
theorem dL_law_1741 : decode code 1741 = .ok (.iadd, 1) := by decide +kernel
theorem dL_law_1742 : decode code 1742 = .ok (.iaload, 1) := by decide +kernel
theorem dL_law_1743 : decode code 1743 = .ok (.aload_n 3, 1) := by decide +kernel
theorem dL_law_1744 : decode code 1744 = .ok (.invokestatic 195, 3) := by decide +kernel
theorem dL_law_1747 : decode code 1747 = .ok (.istore 5, 2) := by decide +kernel
theorem dL_law_1749 : decode code 1749 = .ok (.aload_n 2, 1) := by decide +kernel
theorem dL_law_1750 : decode code 1750 = .ok (.aload_n 0, 1) := by decide +kernel
theorem dL_law_1751 : decode code 1751 = .ok (.iload 4, 2) := by decide +kernel
theorem dL_law_1753 : decode code 1753 = .ok (.iconst 1, 1) := by decide +kernel
theorem dL_law_1754 : decode code 1754 = .ok (.iadd, 1) := by decide +kernel
theorem dL_law_1755 : decode code 1755 = .ok (.iaload, 1) := by decide +kernel
theorem dL_law_1756 : decode code 1756 = .ok (.aload_n 0, 1) := by decide +kernel
theorem dL_law_1757 : decode code 1757 = .ok (.iload 4, 2) := by decide +kernel
theorem dL_law_1759 : decode code 1759 = .ok (.iconst 2, 1) := by decide +kernel
theorem dL_law_1760 : decode code 1760 = .ok (.iadd, 1) := by decide +kernel
theorem dL_law_1761 : decode code 1761 = .ok (.iaload, 1) := by decide +kernel
theorem dL_law_1762 : decode code 1762 = .ok (.invokevirtual 197, 3) := by decide +kernel
theorem dL_law_1765 : decode code 1765 = .ok (.lstore 6, 2) := by decide +kernel
theorem dL_law_1767 : decode code 1767 = .ok (.aload_n 2, 1) := by decide +kernel
theorem dL_law_1768 : decode code 1768 = .ok (.invokevirtual 116, 3) := by decide +kernel
theorem dL_law_1771 : decode code 1771 = .ok (.iload 5, 2) := by decide +kernel
theorem dL_law_1773 : decode code 1773 = .ok (.if_icmp .eq 5, 3) := by decide +kernel
theorem dL_law_1778 : decode code 1778 = .ok (.iload 5, 2) := by decide +kernel
theorem dL_law_1780 : decode code 1780 = .ok (.ifCond .ne 14, 3) := by decide +kernel
theorem dL_law_1794 : decode code 1794 = .ok (.goto 248, 3) := by decide +kernel
set_option maxHeartbeats 4000000 in
set_option maxRecDepth 100000 in
theorem leaf_50 {p : Program} {e : Env} {s : State} {m : MethodId} {below : List Frame} {meth : Method} {c : Code} (l : Launch) (hst : l.stackTraces = false) {D : va_G} {κ : K4} {E0 : Nat} {a b : Nat → Nat} {o sb L : Nat} {xs : Nat → Int32} (hC : CallFix p m c code 9 s #[Value.ref sb] WALL RL) (hr : meth.sig.returnType = ret) (hlocks : meth.locks = false) (hX : va_X sb L xs s s.heap) (hbl : sb < s.heap.size) (hL4 : L = 4) (hE : EA E0 D κ (fun q => s.heap.size ≤ q) s s.heap) (hT : ET s) (k_1 : -2147483648 ≤ (xs 1).toInt ∧ (xs 1).toInt ≤ -1) (k_2 : -2147483648 ≤ (xs 2).toInt ∧ (xs 2).toInt ≤ 2147483647) (H : Heap) (locs : List Loc) (hG : BW D κ ((xw κ a ++ [(o, .inl (κ.2.1, 1, .inr (.inl (fun _ => 0))))]) ++ mw κ b E0 0) (fun q => s.heap.size ≤ q) s H locs) (ls : Array Slot) (hl : lv_has ls 9 [(4, .int 0), (3, .ref o), (2, .ref (b 0)), (1, .ref (a 0)), (0, .ref sb)]) : W p l e room_1 s m #[Value.ref sb] below meth c H locs 100 6000 (lw_Z below #[Value.ref sb] s) (F0 m 1730 ls []) := by
  have hx := hC.1
  have hb := hC.2.1
  refine lv_aload_n hx hb dL_law_1730 rfl (lv_at hl 3 rfl) ?_
  refine lv_aload_n hx hb dL_law_1731 rfl (lv_at hl 4 rfl) ?_
  refine lv_iload hx hb dL_law_1732 (lv_at hl 0 rfl) ?_
  refine lv_iconst (v := 1) hx hb dL_law_1734 (by decide) ?_
  refine lv_iadd hx hb dL_law_1735 ?_
  refine W.eq (g2 := F0 m 1736 ls [.int 1, .ref sb, .ref (a 0)]) rfl ?_
  refine va_sld hx hb hX hbl (Nat.not_le_of_lt hbl) hG.2.2.2.1 (vp_box (by decide) (by rw [hL4]; decide)) dL_law_1736 ?_
  refine W.eq (g2 := F0 m 1737 ls [.int (xs 1), .ref (a 0)]) rfl ?_
  refine lv_aload_n hx hb dL_law_1737 rfl (lv_at hl 4 rfl) ?_
  refine lv_iload hx hb dL_law_1738 (lv_at hl 0 rfl) ?_
  refine lv_iconst (v := 2) hx hb dL_law_1740 (by decide) ?_
  refine lv_iadd hx hb dL_law_1741 ?_
  refine W.eq (g2 := F0 m 1742 ls [.int 2, .ref sb, .int (xs 1), .ref (a 0)]) rfl ?_
  refine va_sld hx hb hX hbl (Nat.not_le_of_lt hbl) hG.2.2.2.1 (vp_box (by decide) (by rw [hL4]; decide)) dL_law_1742 ?_
  refine W.eq (g2 := F0 m 1743 ls [.int (xs 2), .int (xs 1), .ref (a 0)]) rfl ?_
  refine lv_aload_n hx hb dL_law_1743 rfl (lv_at hl 1 rfl) ?_
  have cut1744 : Cut ((xw κ a ++ [(o, .inl (κ.2.1, 1, .inr (.inl (fun _ => 0))))]) ++ mw κ b E0 0) ([(a 0, .inr (7, [.ref (a 1), .ref (a 7), .ref (a 12), .ref (a 23), .ref (a 28), .ref (a 33), .ref (a 37), .ref (a 41), .int (-1), .int 0])), (a 1, .inr (0, [.ref (a 2), .ref (a 3), .ref (a 4), .ref (a 5), .ref (a 6), .int 0])), (a 2, .inl (κ.1, 4, .inl (fun _ => 1000))), (a 3, .inl (κ.1, 10, .inl (fun _ => 0))), (a 4, .inl (κ.1, 10, .inl (fun _ => 0))), (a 5, .inl (κ.1, 10, .inl (fun _ => 0))), (a 6, .inl (κ.2.2.1, 10, .inl (fun _ => 0))), (a 7, .inr (1, [.ref (a 8), .int 0, .int 0, .int 0])), (a 8, .inr (4, [.ref (a 9), .ref (a 10), .ref (a 11), .int 0])), (a 9, .inl (κ.1, 10, .inl (fun _ => 0))), (a 10, .inl (κ.2.1, 10, .inr (.inl (fun _ => 0)))), (a 11, .inl (κ.2.1, 10, .inr (.inl (fun _ => 0)))), (a 12, .inr (3, [.ref (a 13), .ref (a 14), .ref (a 15), .ref (a 16), .ref (a 17), .ref (a 18), .int 0, .ref (a 19), .ref (a 20), .ref (a 21), .ref (a 22), .int 0])), (a 13, .inl (κ.1, 60, .inl (fun _ => 0))), (a 14, .inl (κ.1, 60, .inl (fun _ => 0))), (a 15, .inl (κ.1, 60, .inl (fun _ => 0))), (a 16, .inl (κ.1, 60, .inl (fun _ => 0))), (a 17, .inl (κ.2.2.1, 60, .inl (fun _ => 0))), (a 18, .inl (κ.2.2.1, 60, .inl (fun _ => 0))), (a 19, .inl (κ.1, 600, .inl (fun _ => 0))), (a 20, .inl (κ.1, 600, .inl (fun _ => 0))), (a 21, .inl (κ.2.1, 600, .inr (.inl (fun _ => 0)))), (a 22, .inl (κ.2.1, 600, .inr (.inl (fun _ => 0)))), (a 23, .inr (2, [.ref (a 24), .ref (a 25), .ref (a 26), .ref (a 27), .int 0])), (a 24, .inl (κ.1, 20, .inl (fun _ => 0))), (a 25, .inl (κ.1, 20, .inl (fun _ => 0))), (a 26, .inl (κ.1, 20, .inl (fun _ => 0))), (a 27, .inl (κ.2.2.1, 20, .inl (fun _ => 0))), (a 28, .inr (5, [.ref (a 29), .ref (a 30), .ref (a 31), .ref (a 32), .int 0])), (a 29, .inl (κ.1, 40, .inl (fun _ => 0))), (a 30, .inl (κ.1, 40, .inl (fun _ => 0))), (a 31, .inl (κ.1, 40, .inl (fun _ => 0))), (a 32, .inl (κ.1, 40, .inl (fun _ => 0))), (a 33, .inr (6, [.ref (a 12), .ref (a 28), .ref (a 34), .ref (a 35), .ref (a 36)])), (a 34, .inl (κ.1, 600, .inl (fun _ => (-1)))), (a 35, .inl (κ.1, 40, .inl (fun _ => (-1)))), (a 36, .inl (κ.1, 40, .inl (fun _ => (-1)))), (a 37, .inr (6, [.ref (a 12), .ref (a 28), .ref (a 38), .ref (a 39), .ref (a 40)])), (a 38, .inl (κ.1, 600, .inl (fun _ => (-1)))), (a 39, .inl (κ.1, 40, .inl (fun _ => (-1)))), (a 40, .inl (κ.1, 40, .inl (fun _ => (-1)))), (a 41, .inr (4, [.ref (a 42), .ref (a 43), .ref (a 44), .int 0])), (a 42, .inl (κ.1, 10, .inl (fun _ => 0))), (a 43, .inl (κ.2.1, 10, .inr (.inl (fun _ => 0)))), (a 44, .inl (κ.2.1, 10, .inr (.inl (fun _ => 0)))), (o, .inl (κ.2.1, 1, .inr (.inl (fun _ => 0))))]) ([(b 0, .inr (9, [.int 0, .ref (b 1), .ref (b 2), .ref (b 3), .ref (b 4), .ref (b 5), .ref (b 6), .ref (b 7), .null, .int 0, .int (-1), .int 0, .int 0, .int 0, .ref (b 8)])), (b 1, .inl (κ.1, 4, .inl (fun _ => 1000))), (b 2, .inr (10, [.int 0, .ref E0, .int 0])), (b 3, .inr (10, [.int 0, .ref E0, .int 0])), (b 4, .inr (10, [.int 0, .ref E0, .int 0])), (b 5, .inr (10, [.int 0, .ref E0, .int 0])), (b 6, .inr (10, [.int 0, .ref E0, .int 0])), (b 7, .inr (10, [.int 0, .ref E0, .int 0])), (b 8, .inr (10, [.int 0, .ref E0, .int 0]))]) := (Cut.idx [0, 1, 2, 3, 4, 5, 6, 7, 8, 9, 10, 11, 12, 13, 14, 15, 16, 17, 18, 19, 20, 21, 22, 23, 24, 25, 26, 27, 28, 29, 30, 31, 32, 33, 34, 35, 36, 37, 38, 39, 40, 41, 42, 43, 44, 45] [46, 47, 48, 49, 50, 51, 52, 53, 54] rfl rfl (by decide) (by decide) (by decide))
  refine zc_i hG cut1744 (zr_H (n := 4) (As := [.ref (a 0), .int (xs 1), .int (xs 2), .ref o]) (rest := []) hC hG hE hT cut1744 (z_228_earned l hst D κ E0 H.size a (xs 1) (xs 2) o ⟨by omega, by omega⟩ ⟨by omega, by omega⟩) w1130 w143 w1132 w1131 (by decide +kernel) ⟨Nat.le_of_ble_eq_true rfl, Nat.le_of_ble_eq_true rfl⟩ rfl hl.1 rfl (Nat.le_of_ble_eq_true rfl) dL_law_1744 ⟨Nat.le_of_ble_eq_true rfl, Nat.le_of_ble_eq_true rfl⟩) (fun z1 H locs hG => ?_)
  have hG : BW D κ (([(b 0, .inr (9, [.int 0, .ref (b 1), .ref (b 2), .ref (b 3), .ref (b 4), .ref (b 5), .ref (b 6), .ref (b 7), .null, .int 0, .int (-1), .int 0, .int 0, .int 0, .ref (b 8)])), (b 1, .inl (κ.1, 4, .inl (fun _ => 1000))), (b 2, .inr (10, [.int 0, .ref E0, .int 0])), (b 3, .inr (10, [.int 0, .ref E0, .int 0])), (b 4, .inr (10, [.int 0, .ref E0, .int 0])), (b 5, .inr (10, [.int 0, .ref E0, .int 0])), (b 6, .inr (10, [.int 0, .ref E0, .int 0])), (b 7, .inr (10, [.int 0, .ref E0, .int 0])), (b 8, .inr (10, [.int 0, .ref E0, .int 0]))]) ++ ([(o, .inl (κ.2.1, 1, .inr (.inl (fun _ => 0))))])) _ s H locs := hG
  refine lv_istore (lv' := [(5, .int 1), (4, .int 0), (3, .ref o), (2, .ref (b 0)), (1, .ref (a 0)), (0, .ref sb)]) hx hb dL_law_1747 hl (by decide) rfl (fun ls hl => ?_)
  refine lv_aload_n hx hb dL_law_1749 rfl (lv_at hl 3 rfl) ?_
  refine lv_aload_n hx hb dL_law_1750 rfl (lv_at hl 5 rfl) ?_
  refine lv_iload hx hb dL_law_1751 (lv_at hl 1 rfl) ?_
  refine lv_iconst (v := 1) hx hb dL_law_1753 (by decide) ?_
  refine lv_iadd hx hb dL_law_1754 ?_
  refine W.eq (g2 := F0 m 1755 ls [.int 1, .ref sb, .ref (b 0)]) rfl ?_
  refine va_sld hx hb hX hbl (Nat.not_le_of_lt hbl) hG.2.2.2.1 (vp_box (by decide) (by rw [hL4]; decide)) dL_law_1755 ?_
  refine W.eq (g2 := F0 m 1756 ls [.int (xs 1), .ref (b 0)]) rfl ?_
  refine lv_aload_n hx hb dL_law_1756 rfl (lv_at hl 5 rfl) ?_
  refine lv_iload hx hb dL_law_1757 (lv_at hl 1 rfl) ?_
  refine lv_iconst (v := 2) hx hb dL_law_1759 (by decide) ?_
  refine lv_iadd hx hb dL_law_1760 ?_
  refine W.eq (g2 := F0 m 1761 ls [.int 2, .ref sb, .int (xs 1), .ref (b 0)]) rfl ?_
  refine va_sld hx hb hX hbl (Nat.not_le_of_lt hbl) hG.2.2.2.1 (vp_box (by decide) (by rw [hL4]; decide)) dL_law_1761 ?_
  refine W.eq (g2 := F0 m 1762 ls [.int (xs 2), .int (xs 1), .ref (b 0)]) rfl ?_
  have cut1762 : Cut (([(b 0, .inr (9, [.int 0, .ref (b 1), .ref (b 2), .ref (b 3), .ref (b 4), .ref (b 5), .ref (b 6), .ref (b 7), .null, .int 0, .int (-1), .int 0, .int 0, .int 0, .ref (b 8)])), (b 1, .inl (κ.1, 4, .inl (fun _ => 1000))), (b 2, .inr (10, [.int 0, .ref E0, .int 0])), (b 3, .inr (10, [.int 0, .ref E0, .int 0])), (b 4, .inr (10, [.int 0, .ref E0, .int 0])), (b 5, .inr (10, [.int 0, .ref E0, .int 0])), (b 6, .inr (10, [.int 0, .ref E0, .int 0])), (b 7, .inr (10, [.int 0, .ref E0, .int 0])), (b 8, .inr (10, [.int 0, .ref E0, .int 0]))]) ++ ([(o, .inl (κ.2.1, 1, .inr (.inl (fun _ => 0))))])) (mw κ b E0 0) ([(o, .inl (κ.2.1, 1, .inr (.inl (fun _ => 0))))]) := (Cut.idx [0, 1, 2, 3, 4, 5, 6, 7, 8] [9] rfl rfl (by decide) (by decide) (by decide))
  refine zc_l hG cut1762 (zr_V (k := 0) (ci := 9) (n := 2) (As := [.int (xs 1), .int (xs 2)]) (rest := []) hC hG hE hT cut1762 (z_230_earned l hst D κ E0 H.size b (xs 1) (xs 2) ⟨by omega, by omega⟩ ⟨by omega, by omega⟩) rfl rfl w1141 w5 w1144 w1142 w1143 (by decide +kernel) ⟨Nat.le_of_ble_eq_true rfl, Nat.le_of_ble_eq_true rfl⟩ rfl hl.1 rfl (Nat.le_of_ble_eq_true rfl) dL_law_1762 ⟨Nat.le_of_ble_eq_true rfl, Nat.le_of_ble_eq_true rfl⟩) (fun z2 H locs hG => ?_)
  have hG : BW D κ (([(o, .inl (κ.2.1, 1, .inr (.inl (fun _ => 0))))]) ++ (mw κ b E0 1)) _ s H locs := hG
  refine lv_lstore (lv' := [(6, .long 0), (5, .int 1), (4, .int 0), (3, .ref o), (2, .ref (b 0)), (1, .ref (a 0)), (0, .ref sb)]) hx hb dL_law_1765 hl (by decide) rfl (fun ls hl => ?_)
  refine lv_aload_n hx hb dL_law_1767 rfl (lv_at hl 4 rfl) ?_
  have cut1768 : Cut (([(o, .inl (κ.2.1, 1, .inr (.inl (fun _ => 0))))]) ++ (mw κ b E0 1)) ([(b 0, .inr (9, [.int 1, .ref (b 1), .ref (b 2), .ref (b 3), .ref (b 4), .ref (b 5), .ref (b 6), .ref (b 7), .null, .int 0, .int (-1), .int 0, .int 0, .int 0, .ref (b 8)]))]) ([(o, .inl (κ.2.1, 1, .inr (.inl (fun _ => 0)))), (b 1, .inl (κ.1, 4, .inl (fun _ => 1000))), (b 2, .inr (10, [.int 0, .ref E0, .int 0])), (b 3, .inr (10, [.int 0, .ref E0, .int 0])), (b 4, .inr (10, [.int 0, .ref E0, .int 0])), (b 5, .inr (10, [.int 0, .ref E0, .int 0])), (b 6, .inr (10, [.int 0, .ref E0, .int 0])), (b 7, .inr (10, [.int 0, .ref E0, .int 0])), (b 8, .inr (10, [.int 0, .ref E0, .int 0]))]) := (Cut.idx [1] [0, 2, 3, 4, 5, 6, 7, 8, 9] rfl rfl (by decide) (by decide) (by decide))
  refine zc_i hG cut1768 (zr_V (k := 1) (ci := 9) (n := 0) (As := []) (rest := []) hC hG hE hT cut1768 (z_6_thrown l hst D κ E0 H.size b) rfl rfl w200 w5 w203 w201 w202 (by decide +kernel) ⟨Nat.le_of_ble_eq_true rfl, Nat.le_of_ble_eq_true rfl⟩ rfl hl.1 rfl (Nat.le_of_ble_eq_true rfl) dL_law_1768 ⟨Nat.le_of_ble_eq_true rfl, Nat.le_of_ble_eq_true rfl⟩) (fun z3 H locs hG => ?_)
  have hG : BW D κ (([(o, .inl (κ.2.1, 1, .inr (.inl (fun _ => 0)))), (b 1, .inl (κ.1, 4, .inl (fun _ => 1000))), (b 2, .inr (10, [.int 0, .ref E0, .int 0])), (b 3, .inr (10, [.int 0, .ref E0, .int 0])), (b 4, .inr (10, [.int 0, .ref E0, .int 0])), (b 5, .inr (10, [.int 0, .ref E0, .int 0])), (b 6, .inr (10, [.int 0, .ref E0, .int 0])), (b 7, .inr (10, [.int 0, .ref E0, .int 0])), (b 8, .inr (10, [.int 0, .ref E0, .int 0]))]) ++ ([(b 0, .inr (9, [.int 1, .ref (b 1), .ref (b 2), .ref (b 3), .ref (b 4), .ref (b 5), .ref (b 6), .ref (b 7), .null, .int 0, .int (-1), .int 0, .int 0, .int 0, .ref (b 8)]))])) _ s H locs := hG
  refine lv_iload hx hb dL_law_1771 (lv_at hl 1 rfl) ?_
  refine lv_icmp_eq (tgt := 1778) hx hb dL_law_1773 (by decide) (fun _ => ?_) (fun h1773 => absurd (by decide) h1773)
  refine lv_iload hx hb dL_law_1778 (lv_at hl 1 rfl) ?_
  refine lv_if_ne (tgt := 1794) hx hb dL_law_1780 (by decide) (fun _ => ?_) (fun h1780 => absurd h1780 (by decide))
  refine lv_goto (tgt := 2042) hx hb dL_law_1794 (by decide) ?_
  refine lv_iinc (v := 4) (lv' := [(4, .int 4), (6, .long 0), (5, .int 1), (3, .ref o), (2, .ref (b 0)), (1, .ref (a 0)), (0, .ref sb)]) hx hb dL_law_2042 hl (k := 2) rfl (by decide) (by decide) rfl (fun ls hl => ?_)
  refine lv_goto (tgt := 23) hx hb dL_law_2045 (by decide) ?_
  refine lv_iload hx hb dL_law_23 (lv_at hl 0 rfl) ?_
  refine lv_aload_n hx hb dL_law_25 rfl (lv_at hl 6 rfl) ?_
  refine va_slen hx hb hX hbl (Nat.not_le_of_lt hbl) hG.2.2.2.1 dL_law_26 ?_
  refine W.eq (g2 := F0 m 27 ls [.int 4, .int 4]) (by rw [hL4]; rfl) ?_
  refine lv_iconst (v := 4) hx hb dL_law_27 (by decide) ?_
  refine lv_isub hx hb dL_law_28 ?_
  refine W.eq (g2 := F0 m 29 ls [.int 0, .int 4]) rfl ?_
  refine lv_icmp_gt (tgt := 2048) hx hb dL_law_29 (by decide) (fun _ => ?_) (fun h29 => absurd (by decide) h29)
  refine lv_iconst (v := 1) hx hb dL_law_2048 (by decide) ?_
  refine W.widen (k := 600002) (n := 7302232) (Nat.le_of_ble_eq_true rfl) (Nat.le_of_ble_eq_true rfl) ?_
  refine va_forget (fun q hq => hG.2.2.2.1.2.2 q hq) ?_
  refine W.base ?_
  exact lw_ret (Drawn.sameBut.refl s.drawn lw_cs) hx hb hr hlocks dL_law_2049
set_option maxHeartbeats 4000000 in
set_option maxRecDepth 100000 in
theorem leaf_51 {p : Program} {e : Env} {s : State} {m : MethodId} {below : List Frame} {meth : Method} {c : Code} (l : Launch) (hst : l.stackTraces = false) {D : va_G} {κ : K4} {E0 : Nat} {a b : Nat → Nat} {o sb L : Nat} {xs : Nat → Int32} (hC : CallFix p m c code 9 s #[Value.ref sb] WALL RL) (hr : meth.sig.returnType = ret) (hlocks : meth.locks = false) (hX : va_X sb L xs s s.heap) (hbl : sb < s.heap.size) (hL4 : L = 4) (hE : EA E0 D κ (fun q => s.heap.size ≤ q) s s.heap) (hT : ET s) (k_1 : 365 ≤ (xs 1).toInt ∧ (xs 1).toInt ≤ 2147483647) (k_2 : -2147483648 ≤ (xs 2).toInt ∧ (xs 2).toInt ≤ 2147483647) (H : Heap) (locs : List Loc) (hG : BW D κ ((xw κ a ++ [(o, .inl (κ.2.1, 1, .inr (.inl (fun _ => 0))))]) ++ mw κ b E0 0) (fun q => s.heap.size ≤ q) s H locs) (ls : Array Slot) (hl : lv_has ls 9 [(4, .int 0), (3, .ref o), (2, .ref (b 0)), (1, .ref (a 0)), (0, .ref sb)]) : W p l e room_1 s m #[Value.ref sb] below meth c H locs 100 6000 (lw_Z below #[Value.ref sb] s) (F0 m 1730 ls []) := by
  have hx := hC.1
  have hb := hC.2.1
  refine lv_aload_n hx hb dL_law_1730 rfl (lv_at hl 3 rfl) ?_
  refine lv_aload_n hx hb dL_law_1731 rfl (lv_at hl 4 rfl) ?_
  refine lv_iload hx hb dL_law_1732 (lv_at hl 0 rfl) ?_
  refine lv_iconst (v := 1) hx hb dL_law_1734 (by decide) ?_
  refine lv_iadd hx hb dL_law_1735 ?_
  refine W.eq (g2 := F0 m 1736 ls [.int 1, .ref sb, .ref (a 0)]) rfl ?_
  refine va_sld hx hb hX hbl (Nat.not_le_of_lt hbl) hG.2.2.2.1 (vp_box (by decide) (by rw [hL4]; decide)) dL_law_1736 ?_
  refine W.eq (g2 := F0 m 1737 ls [.int (xs 1), .ref (a 0)]) rfl ?_
  refine lv_aload_n hx hb dL_law_1737 rfl (lv_at hl 4 rfl) ?_
  refine lv_iload hx hb dL_law_1738 (lv_at hl 0 rfl) ?_
  refine lv_iconst (v := 2) hx hb dL_law_1740 (by decide) ?_
  refine lv_iadd hx hb dL_law_1741 ?_
  refine W.eq (g2 := F0 m 1742 ls [.int 2, .ref sb, .int (xs 1), .ref (a 0)]) rfl ?_
  refine va_sld hx hb hX hbl (Nat.not_le_of_lt hbl) hG.2.2.2.1 (vp_box (by decide) (by rw [hL4]; decide)) dL_law_1742 ?_
  refine W.eq (g2 := F0 m 1743 ls [.int (xs 2), .int (xs 1), .ref (a 0)]) rfl ?_
  refine lv_aload_n hx hb dL_law_1743 rfl (lv_at hl 1 rfl) ?_
  have cut1744 : Cut ((xw κ a ++ [(o, .inl (κ.2.1, 1, .inr (.inl (fun _ => 0))))]) ++ mw κ b E0 0) ([(a 0, .inr (7, [.ref (a 1), .ref (a 7), .ref (a 12), .ref (a 23), .ref (a 28), .ref (a 33), .ref (a 37), .ref (a 41), .int (-1), .int 0])), (a 1, .inr (0, [.ref (a 2), .ref (a 3), .ref (a 4), .ref (a 5), .ref (a 6), .int 0])), (a 2, .inl (κ.1, 4, .inl (fun _ => 1000))), (a 3, .inl (κ.1, 10, .inl (fun _ => 0))), (a 4, .inl (κ.1, 10, .inl (fun _ => 0))), (a 5, .inl (κ.1, 10, .inl (fun _ => 0))), (a 6, .inl (κ.2.2.1, 10, .inl (fun _ => 0))), (a 7, .inr (1, [.ref (a 8), .int 0, .int 0, .int 0])), (a 8, .inr (4, [.ref (a 9), .ref (a 10), .ref (a 11), .int 0])), (a 9, .inl (κ.1, 10, .inl (fun _ => 0))), (a 10, .inl (κ.2.1, 10, .inr (.inl (fun _ => 0)))), (a 11, .inl (κ.2.1, 10, .inr (.inl (fun _ => 0)))), (a 12, .inr (3, [.ref (a 13), .ref (a 14), .ref (a 15), .ref (a 16), .ref (a 17), .ref (a 18), .int 0, .ref (a 19), .ref (a 20), .ref (a 21), .ref (a 22), .int 0])), (a 13, .inl (κ.1, 60, .inl (fun _ => 0))), (a 14, .inl (κ.1, 60, .inl (fun _ => 0))), (a 15, .inl (κ.1, 60, .inl (fun _ => 0))), (a 16, .inl (κ.1, 60, .inl (fun _ => 0))), (a 17, .inl (κ.2.2.1, 60, .inl (fun _ => 0))), (a 18, .inl (κ.2.2.1, 60, .inl (fun _ => 0))), (a 19, .inl (κ.1, 600, .inl (fun _ => 0))), (a 20, .inl (κ.1, 600, .inl (fun _ => 0))), (a 21, .inl (κ.2.1, 600, .inr (.inl (fun _ => 0)))), (a 22, .inl (κ.2.1, 600, .inr (.inl (fun _ => 0)))), (a 23, .inr (2, [.ref (a 24), .ref (a 25), .ref (a 26), .ref (a 27), .int 0])), (a 24, .inl (κ.1, 20, .inl (fun _ => 0))), (a 25, .inl (κ.1, 20, .inl (fun _ => 0))), (a 26, .inl (κ.1, 20, .inl (fun _ => 0))), (a 27, .inl (κ.2.2.1, 20, .inl (fun _ => 0))), (a 28, .inr (5, [.ref (a 29), .ref (a 30), .ref (a 31), .ref (a 32), .int 0])), (a 29, .inl (κ.1, 40, .inl (fun _ => 0))), (a 30, .inl (κ.1, 40, .inl (fun _ => 0))), (a 31, .inl (κ.1, 40, .inl (fun _ => 0))), (a 32, .inl (κ.1, 40, .inl (fun _ => 0))), (a 33, .inr (6, [.ref (a 12), .ref (a 28), .ref (a 34), .ref (a 35), .ref (a 36)])), (a 34, .inl (κ.1, 600, .inl (fun _ => (-1)))), (a 35, .inl (κ.1, 40, .inl (fun _ => (-1)))), (a 36, .inl (κ.1, 40, .inl (fun _ => (-1)))), (a 37, .inr (6, [.ref (a 12), .ref (a 28), .ref (a 38), .ref (a 39), .ref (a 40)])), (a 38, .inl (κ.1, 600, .inl (fun _ => (-1)))), (a 39, .inl (κ.1, 40, .inl (fun _ => (-1)))), (a 40, .inl (κ.1, 40, .inl (fun _ => (-1)))), (a 41, .inr (4, [.ref (a 42), .ref (a 43), .ref (a 44), .int 0])), (a 42, .inl (κ.1, 10, .inl (fun _ => 0))), (a 43, .inl (κ.2.1, 10, .inr (.inl (fun _ => 0)))), (a 44, .inl (κ.2.1, 10, .inr (.inl (fun _ => 0)))), (o, .inl (κ.2.1, 1, .inr (.inl (fun _ => 0))))]) ([(b 0, .inr (9, [.int 0, .ref (b 1), .ref (b 2), .ref (b 3), .ref (b 4), .ref (b 5), .ref (b 6), .ref (b 7), .null, .int 0, .int (-1), .int 0, .int 0, .int 0, .ref (b 8)])), (b 1, .inl (κ.1, 4, .inl (fun _ => 1000))), (b 2, .inr (10, [.int 0, .ref E0, .int 0])), (b 3, .inr (10, [.int 0, .ref E0, .int 0])), (b 4, .inr (10, [.int 0, .ref E0, .int 0])), (b 5, .inr (10, [.int 0, .ref E0, .int 0])), (b 6, .inr (10, [.int 0, .ref E0, .int 0])), (b 7, .inr (10, [.int 0, .ref E0, .int 0])), (b 8, .inr (10, [.int 0, .ref E0, .int 0]))]) := (Cut.idx [0, 1, 2, 3, 4, 5, 6, 7, 8, 9, 10, 11, 12, 13, 14, 15, 16, 17, 18, 19, 20, 21, 22, 23, 24, 25, 26, 27, 28, 29, 30, 31, 32, 33, 34, 35, 36, 37, 38, 39, 40, 41, 42, 43, 44, 45] [46, 47, 48, 49, 50, 51, 52, 53, 54] rfl rfl (by decide) (by decide) (by decide))
  refine zc_i hG cut1744 (zr_H (n := 4) (As := [.ref (a 0), .int (xs 1), .int (xs 2), .ref o]) (rest := []) hC hG hE hT cut1744 (z_232_earned l hst D κ E0 H.size a (xs 1) (xs 2) o ⟨by omega, by omega⟩ ⟨by omega, by omega⟩) w1130 w143 w1132 w1131 (by decide +kernel) ⟨Nat.le_of_ble_eq_true rfl, Nat.le_of_ble_eq_true rfl⟩ rfl hl.1 rfl (Nat.le_of_ble_eq_true rfl) dL_law_1744 ⟨Nat.le_of_ble_eq_true rfl, Nat.le_of_ble_eq_true rfl⟩) (fun z1 H locs hG => ?_)
  have hG : BW D κ (([(b 0, .inr (9, [.int 0, .ref (b 1), .ref (b 2), .ref (b 3), .ref (b 4), .ref (b 5), .ref (b 6), .ref (b 7), .null, .int 0, .int (-1), .int 0, .int 0, .int 0, .ref (b 8)])), (b 1, .inl (κ.1, 4, .inl (fun _ => 1000))), (b 2, .inr (10, [.int 0, .ref E0, .int 0])), (b 3, .inr (10, [.int 0, .ref E0, .int 0])), (b 4, .inr (10, [.int 0, .ref E0, .int 0])), (b 5, .inr (10, [.int 0, .ref E0, .int 0])), (b 6, .inr (10, [.int 0, .ref E0, .int 0])), (b 7, .inr (10, [.int 0, .ref E0, .int 0])), (b 8, .inr (10, [.int 0, .ref E0, .int 0]))]) ++ ([(o, .inl (κ.2.1, 1, .inr (.inl (fun _ => 0))))])) _ s H locs := hG
  refine lv_istore (lv' := [(5, .int 1), (4, .int 0), (3, .ref o), (2, .ref (b 0)), (1, .ref (a 0)), (0, .ref sb)]) hx hb dL_law_1747 hl (by decide) rfl (fun ls hl => ?_)
  refine lv_aload_n hx hb dL_law_1749 rfl (lv_at hl 3 rfl) ?_
  refine lv_aload_n hx hb dL_law_1750 rfl (lv_at hl 5 rfl) ?_
  refine lv_iload hx hb dL_law_1751 (lv_at hl 1 rfl) ?_
  refine lv_iconst (v := 1) hx hb dL_law_1753 (by decide) ?_
  refine lv_iadd hx hb dL_law_1754 ?_
  refine W.eq (g2 := F0 m 1755 ls [.int 1, .ref sb, .ref (b 0)]) rfl ?_
  refine va_sld hx hb hX hbl (Nat.not_le_of_lt hbl) hG.2.2.2.1 (vp_box (by decide) (by rw [hL4]; decide)) dL_law_1755 ?_
  refine W.eq (g2 := F0 m 1756 ls [.int (xs 1), .ref (b 0)]) rfl ?_
  refine lv_aload_n hx hb dL_law_1756 rfl (lv_at hl 5 rfl) ?_
  refine lv_iload hx hb dL_law_1757 (lv_at hl 1 rfl) ?_
  refine lv_iconst (v := 2) hx hb dL_law_1759 (by decide) ?_
  refine lv_iadd hx hb dL_law_1760 ?_
  refine W.eq (g2 := F0 m 1761 ls [.int 2, .ref sb, .int (xs 1), .ref (b 0)]) rfl ?_
  refine va_sld hx hb hX hbl (Nat.not_le_of_lt hbl) hG.2.2.2.1 (vp_box (by decide) (by rw [hL4]; decide)) dL_law_1761 ?_
  refine W.eq (g2 := F0 m 1762 ls [.int (xs 2), .int (xs 1), .ref (b 0)]) rfl ?_
  have cut1762 : Cut (([(b 0, .inr (9, [.int 0, .ref (b 1), .ref (b 2), .ref (b 3), .ref (b 4), .ref (b 5), .ref (b 6), .ref (b 7), .null, .int 0, .int (-1), .int 0, .int 0, .int 0, .ref (b 8)])), (b 1, .inl (κ.1, 4, .inl (fun _ => 1000))), (b 2, .inr (10, [.int 0, .ref E0, .int 0])), (b 3, .inr (10, [.int 0, .ref E0, .int 0])), (b 4, .inr (10, [.int 0, .ref E0, .int 0])), (b 5, .inr (10, [.int 0, .ref E0, .int 0])), (b 6, .inr (10, [.int 0, .ref E0, .int 0])), (b 7, .inr (10, [.int 0, .ref E0, .int 0])), (b 8, .inr (10, [.int 0, .ref E0, .int 0]))]) ++ ([(o, .inl (κ.2.1, 1, .inr (.inl (fun _ => 0))))])) (mw κ b E0 0) ([(o, .inl (κ.2.1, 1, .inr (.inl (fun _ => 0))))]) := (Cut.idx [0, 1, 2, 3, 4, 5, 6, 7, 8] [9] rfl rfl (by decide) (by decide) (by decide))
  refine zc_l hG cut1762 (zr_V (k := 0) (ci := 9) (n := 2) (As := [.int (xs 1), .int (xs 2)]) (rest := []) hC hG hE hT cut1762 (z_234_earned l hst D κ E0 H.size b (xs 1) (xs 2) ⟨by omega, by omega⟩ ⟨by omega, by omega⟩) rfl rfl w1141 w5 w1144 w1142 w1143 (by decide +kernel) ⟨Nat.le_of_ble_eq_true rfl, Nat.le_of_ble_eq_true rfl⟩ rfl hl.1 rfl (Nat.le_of_ble_eq_true rfl) dL_law_1762 ⟨Nat.le_of_ble_eq_true rfl, Nat.le_of_ble_eq_true rfl⟩) (fun z2 H locs hG => ?_)
  have hG : BW D κ (([(o, .inl (κ.2.1, 1, .inr (.inl (fun _ => 0))))]) ++ (mw κ b E0 1)) _ s H locs := hG
  refine lv_lstore (lv' := [(6, .long 0), (5, .int 1), (4, .int 0), (3, .ref o), (2, .ref (b 0)), (1, .ref (a 0)), (0, .ref sb)]) hx hb dL_law_1765 hl (by decide) rfl (fun ls hl => ?_)
  refine lv_aload_n hx hb dL_law_1767 rfl (lv_at hl 4 rfl) ?_
  have cut1768 : Cut (([(o, .inl (κ.2.1, 1, .inr (.inl (fun _ => 0))))]) ++ (mw κ b E0 1)) ([(b 0, .inr (9, [.int 1, .ref (b 1), .ref (b 2), .ref (b 3), .ref (b 4), .ref (b 5), .ref (b 6), .ref (b 7), .null, .int 0, .int (-1), .int 0, .int 0, .int 0, .ref (b 8)]))]) ([(o, .inl (κ.2.1, 1, .inr (.inl (fun _ => 0)))), (b 1, .inl (κ.1, 4, .inl (fun _ => 1000))), (b 2, .inr (10, [.int 0, .ref E0, .int 0])), (b 3, .inr (10, [.int 0, .ref E0, .int 0])), (b 4, .inr (10, [.int 0, .ref E0, .int 0])), (b 5, .inr (10, [.int 0, .ref E0, .int 0])), (b 6, .inr (10, [.int 0, .ref E0, .int 0])), (b 7, .inr (10, [.int 0, .ref E0, .int 0])), (b 8, .inr (10, [.int 0, .ref E0, .int 0]))]) := (Cut.idx [1] [0, 2, 3, 4, 5, 6, 7, 8, 9] rfl rfl (by decide) (by decide) (by decide))
  refine zc_i hG cut1768 (zr_V (k := 1) (ci := 9) (n := 0) (As := []) (rest := []) hC hG hE hT cut1768 (z_6_thrown l hst D κ E0 H.size b) rfl rfl w200 w5 w203 w201 w202 (by decide +kernel) ⟨Nat.le_of_ble_eq_true rfl, Nat.le_of_ble_eq_true rfl⟩ rfl hl.1 rfl (Nat.le_of_ble_eq_true rfl) dL_law_1768 ⟨Nat.le_of_ble_eq_true rfl, Nat.le_of_ble_eq_true rfl⟩) (fun z3 H locs hG => ?_)
  have hG : BW D κ (([(o, .inl (κ.2.1, 1, .inr (.inl (fun _ => 0)))), (b 1, .inl (κ.1, 4, .inl (fun _ => 1000))), (b 2, .inr (10, [.int 0, .ref E0, .int 0])), (b 3, .inr (10, [.int 0, .ref E0, .int 0])), (b 4, .inr (10, [.int 0, .ref E0, .int 0])), (b 5, .inr (10, [.int 0, .ref E0, .int 0])), (b 6, .inr (10, [.int 0, .ref E0, .int 0])), (b 7, .inr (10, [.int 0, .ref E0, .int 0])), (b 8, .inr (10, [.int 0, .ref E0, .int 0]))]) ++ ([(b 0, .inr (9, [.int 1, .ref (b 1), .ref (b 2), .ref (b 3), .ref (b 4), .ref (b 5), .ref (b 6), .ref (b 7), .null, .int 0, .int (-1), .int 0, .int 0, .int 0, .ref (b 8)]))])) _ s H locs := hG
  refine lv_iload hx hb dL_law_1771 (lv_at hl 1 rfl) ?_
  refine lv_icmp_eq (tgt := 1778) hx hb dL_law_1773 (by decide) (fun _ => ?_) (fun h1773 => absurd (by decide) h1773)
  refine lv_iload hx hb dL_law_1778 (lv_at hl 1 rfl) ?_
  refine lv_if_ne (tgt := 1794) hx hb dL_law_1780 (by decide) (fun _ => ?_) (fun h1780 => absurd h1780 (by decide))
  refine lv_goto (tgt := 2042) hx hb dL_law_1794 (by decide) ?_
  refine lv_iinc (v := 4) (lv' := [(4, .int 4), (6, .long 0), (5, .int 1), (3, .ref o), (2, .ref (b 0)), (1, .ref (a 0)), (0, .ref sb)]) hx hb dL_law_2042 hl (k := 2) rfl (by decide) (by decide) rfl (fun ls hl => ?_)
  refine lv_goto (tgt := 23) hx hb dL_law_2045 (by decide) ?_
  refine lv_iload hx hb dL_law_23 (lv_at hl 0 rfl) ?_
  refine lv_aload_n hx hb dL_law_25 rfl (lv_at hl 6 rfl) ?_
  refine va_slen hx hb hX hbl (Nat.not_le_of_lt hbl) hG.2.2.2.1 dL_law_26 ?_
  refine W.eq (g2 := F0 m 27 ls [.int 4, .int 4]) (by rw [hL4]; rfl) ?_
  refine lv_iconst (v := 4) hx hb dL_law_27 (by decide) ?_
  refine lv_isub hx hb dL_law_28 ?_
  refine W.eq (g2 := F0 m 29 ls [.int 0, .int 4]) rfl ?_
  refine lv_icmp_gt (tgt := 2048) hx hb dL_law_29 (by decide) (fun _ => ?_) (fun h29 => absurd (by decide) h29)
  refine lv_iconst (v := 1) hx hb dL_law_2048 (by decide) ?_
  refine W.widen (k := 600002) (n := 7302232) (Nat.le_of_ble_eq_true rfl) (Nat.le_of_ble_eq_true rfl) ?_
  refine va_forget (fun q hq => hG.2.2.2.1.2.2 q hq) ?_
  refine W.base ?_
  exact lw_ret (Drawn.sameBut.refl s.drawn lw_cs) hx hb hr hlocks dL_law_2049
set_option maxHeartbeats 4000000 in
set_option maxRecDepth 100000 in
theorem leaf_52 {p : Program} {e : Env} {s : State} {m : MethodId} {below : List Frame} {meth : Method} {c : Code} (l : Launch) (hst : l.stackTraces = false) {D : va_G} {κ : K4} {E0 : Nat} {a b : Nat → Nat} {o sb L : Nat} {xs : Nat → Int32} (hC : CallFix p m c code 9 s #[Value.ref sb] WALL RL) (hr : meth.sig.returnType = ret) (hlocks : meth.locks = false) (hX : va_X sb L xs s s.heap) (hbl : sb < s.heap.size) (hL4 : L = 4) (hE : EA E0 D κ (fun q => s.heap.size ≤ q) s s.heap) (hT : ET s) (k_1 : 0 ≤ (xs 1).toInt ∧ (xs 1).toInt ≤ 364) (k_2 : -2147483648 ≤ (xs 2).toInt ∧ (xs 2).toInt ≤ -1) (H : Heap) (locs : List Loc) (hG : BW D κ ((xw κ a ++ [(o, .inl (κ.2.1, 1, .inr (.inl (fun _ => 0))))]) ++ mw κ b E0 0) (fun q => s.heap.size ≤ q) s H locs) (ls : Array Slot) (hl : lv_has ls 9 [(4, .int 0), (3, .ref o), (2, .ref (b 0)), (1, .ref (a 0)), (0, .ref sb)]) : W p l e room_1 s m #[Value.ref sb] below meth c H locs 100 6000 (lw_Z below #[Value.ref sb] s) (F0 m 1730 ls []) := by
  have hx := hC.1
  have hb := hC.2.1
  refine lv_aload_n hx hb dL_law_1730 rfl (lv_at hl 3 rfl) ?_
  refine lv_aload_n hx hb dL_law_1731 rfl (lv_at hl 4 rfl) ?_
  refine lv_iload hx hb dL_law_1732 (lv_at hl 0 rfl) ?_
  refine lv_iconst (v := 1) hx hb dL_law_1734 (by decide) ?_
  refine lv_iadd hx hb dL_law_1735 ?_
  refine W.eq (g2 := F0 m 1736 ls [.int 1, .ref sb, .ref (a 0)]) rfl ?_
  refine va_sld hx hb hX hbl (Nat.not_le_of_lt hbl) hG.2.2.2.1 (vp_box (by decide) (by rw [hL4]; decide)) dL_law_1736 ?_
  refine W.eq (g2 := F0 m 1737 ls [.int (xs 1), .ref (a 0)]) rfl ?_
  refine lv_aload_n hx hb dL_law_1737 rfl (lv_at hl 4 rfl) ?_
  refine lv_iload hx hb dL_law_1738 (lv_at hl 0 rfl) ?_
  refine lv_iconst (v := 2) hx hb dL_law_1740 (by decide) ?_
  refine lv_iadd hx hb dL_law_1741 ?_
  refine W.eq (g2 := F0 m 1742 ls [.int 2, .ref sb, .int (xs 1), .ref (a 0)]) rfl ?_
  refine va_sld hx hb hX hbl (Nat.not_le_of_lt hbl) hG.2.2.2.1 (vp_box (by decide) (by rw [hL4]; decide)) dL_law_1742 ?_
  refine W.eq (g2 := F0 m 1743 ls [.int (xs 2), .int (xs 1), .ref (a 0)]) rfl ?_
  refine lv_aload_n hx hb dL_law_1743 rfl (lv_at hl 1 rfl) ?_
  have cut1744 : Cut ((xw κ a ++ [(o, .inl (κ.2.1, 1, .inr (.inl (fun _ => 0))))]) ++ mw κ b E0 0) ([(a 0, .inr (7, [.ref (a 1), .ref (a 7), .ref (a 12), .ref (a 23), .ref (a 28), .ref (a 33), .ref (a 37), .ref (a 41), .int (-1), .int 0])), (a 1, .inr (0, [.ref (a 2), .ref (a 3), .ref (a 4), .ref (a 5), .ref (a 6), .int 0])), (a 2, .inl (κ.1, 4, .inl (fun _ => 1000))), (a 3, .inl (κ.1, 10, .inl (fun _ => 0))), (a 4, .inl (κ.1, 10, .inl (fun _ => 0))), (a 5, .inl (κ.1, 10, .inl (fun _ => 0))), (a 6, .inl (κ.2.2.1, 10, .inl (fun _ => 0))), (a 7, .inr (1, [.ref (a 8), .int 0, .int 0, .int 0])), (a 8, .inr (4, [.ref (a 9), .ref (a 10), .ref (a 11), .int 0])), (a 9, .inl (κ.1, 10, .inl (fun _ => 0))), (a 10, .inl (κ.2.1, 10, .inr (.inl (fun _ => 0)))), (a 11, .inl (κ.2.1, 10, .inr (.inl (fun _ => 0)))), (a 12, .inr (3, [.ref (a 13), .ref (a 14), .ref (a 15), .ref (a 16), .ref (a 17), .ref (a 18), .int 0, .ref (a 19), .ref (a 20), .ref (a 21), .ref (a 22), .int 0])), (a 13, .inl (κ.1, 60, .inl (fun _ => 0))), (a 14, .inl (κ.1, 60, .inl (fun _ => 0))), (a 15, .inl (κ.1, 60, .inl (fun _ => 0))), (a 16, .inl (κ.1, 60, .inl (fun _ => 0))), (a 17, .inl (κ.2.2.1, 60, .inl (fun _ => 0))), (a 18, .inl (κ.2.2.1, 60, .inl (fun _ => 0))), (a 19, .inl (κ.1, 600, .inl (fun _ => 0))), (a 20, .inl (κ.1, 600, .inl (fun _ => 0))), (a 21, .inl (κ.2.1, 600, .inr (.inl (fun _ => 0)))), (a 22, .inl (κ.2.1, 600, .inr (.inl (fun _ => 0)))), (a 23, .inr (2, [.ref (a 24), .ref (a 25), .ref (a 26), .ref (a 27), .int 0])), (a 24, .inl (κ.1, 20, .inl (fun _ => 0))), (a 25, .inl (κ.1, 20, .inl (fun _ => 0))), (a 26, .inl (κ.1, 20, .inl (fun _ => 0))), (a 27, .inl (κ.2.2.1, 20, .inl (fun _ => 0))), (a 28, .inr (5, [.ref (a 29), .ref (a 30), .ref (a 31), .ref (a 32), .int 0])), (a 29, .inl (κ.1, 40, .inl (fun _ => 0))), (a 30, .inl (κ.1, 40, .inl (fun _ => 0))), (a 31, .inl (κ.1, 40, .inl (fun _ => 0))), (a 32, .inl (κ.1, 40, .inl (fun _ => 0))), (a 33, .inr (6, [.ref (a 12), .ref (a 28), .ref (a 34), .ref (a 35), .ref (a 36)])), (a 34, .inl (κ.1, 600, .inl (fun _ => (-1)))), (a 35, .inl (κ.1, 40, .inl (fun _ => (-1)))), (a 36, .inl (κ.1, 40, .inl (fun _ => (-1)))), (a 37, .inr (6, [.ref (a 12), .ref (a 28), .ref (a 38), .ref (a 39), .ref (a 40)])), (a 38, .inl (κ.1, 600, .inl (fun _ => (-1)))), (a 39, .inl (κ.1, 40, .inl (fun _ => (-1)))), (a 40, .inl (κ.1, 40, .inl (fun _ => (-1)))), (a 41, .inr (4, [.ref (a 42), .ref (a 43), .ref (a 44), .int 0])), (a 42, .inl (κ.1, 10, .inl (fun _ => 0))), (a 43, .inl (κ.2.1, 10, .inr (.inl (fun _ => 0)))), (a 44, .inl (κ.2.1, 10, .inr (.inl (fun _ => 0)))), (o, .inl (κ.2.1, 1, .inr (.inl (fun _ => 0))))]) ([(b 0, .inr (9, [.int 0, .ref (b 1), .ref (b 2), .ref (b 3), .ref (b 4), .ref (b 5), .ref (b 6), .ref (b 7), .null, .int 0, .int (-1), .int 0, .int 0, .int 0, .ref (b 8)])), (b 1, .inl (κ.1, 4, .inl (fun _ => 1000))), (b 2, .inr (10, [.int 0, .ref E0, .int 0])), (b 3, .inr (10, [.int 0, .ref E0, .int 0])), (b 4, .inr (10, [.int 0, .ref E0, .int 0])), (b 5, .inr (10, [.int 0, .ref E0, .int 0])), (b 6, .inr (10, [.int 0, .ref E0, .int 0])), (b 7, .inr (10, [.int 0, .ref E0, .int 0])), (b 8, .inr (10, [.int 0, .ref E0, .int 0]))]) := (Cut.idx [0, 1, 2, 3, 4, 5, 6, 7, 8, 9, 10, 11, 12, 13, 14, 15, 16, 17, 18, 19, 20, 21, 22, 23, 24, 25, 26, 27, 28, 29, 30, 31, 32, 33, 34, 35, 36, 37, 38, 39, 40, 41, 42, 43, 44, 45] [46, 47, 48, 49, 50, 51, 52, 53, 54] rfl rfl (by decide) (by decide) (by decide))
  refine zc_i hG cut1744 (zr_H (n := 4) (As := [.ref (a 0), .int (xs 1), .int (xs 2), .ref o]) (rest := []) hC hG hE hT cut1744 (z_236_earned l hst D κ E0 H.size a (xs 1) (xs 2) o ⟨by omega, by omega⟩ ⟨by omega, by omega⟩) w1130 w143 w1132 w1131 (by decide +kernel) ⟨Nat.le_of_ble_eq_true rfl, Nat.le_of_ble_eq_true rfl⟩ rfl hl.1 rfl (Nat.le_of_ble_eq_true rfl) dL_law_1744 ⟨Nat.le_of_ble_eq_true rfl, Nat.le_of_ble_eq_true rfl⟩) (fun z1 H locs hG => ?_)
  have hG : BW D κ (([(b 0, .inr (9, [.int 0, .ref (b 1), .ref (b 2), .ref (b 3), .ref (b 4), .ref (b 5), .ref (b 6), .ref (b 7), .null, .int 0, .int (-1), .int 0, .int 0, .int 0, .ref (b 8)])), (b 1, .inl (κ.1, 4, .inl (fun _ => 1000))), (b 2, .inr (10, [.int 0, .ref E0, .int 0])), (b 3, .inr (10, [.int 0, .ref E0, .int 0])), (b 4, .inr (10, [.int 0, .ref E0, .int 0])), (b 5, .inr (10, [.int 0, .ref E0, .int 0])), (b 6, .inr (10, [.int 0, .ref E0, .int 0])), (b 7, .inr (10, [.int 0, .ref E0, .int 0])), (b 8, .inr (10, [.int 0, .ref E0, .int 0]))]) ++ ([(o, .inl (κ.2.1, 1, .inr (.inl (fun _ => 0))))])) _ s H locs := hG
  refine lv_istore (lv' := [(5, .int 1), (4, .int 0), (3, .ref o), (2, .ref (b 0)), (1, .ref (a 0)), (0, .ref sb)]) hx hb dL_law_1747 hl (by decide) rfl (fun ls hl => ?_)
  refine lv_aload_n hx hb dL_law_1749 rfl (lv_at hl 3 rfl) ?_
  refine lv_aload_n hx hb dL_law_1750 rfl (lv_at hl 5 rfl) ?_
  refine lv_iload hx hb dL_law_1751 (lv_at hl 1 rfl) ?_
  refine lv_iconst (v := 1) hx hb dL_law_1753 (by decide) ?_
  refine lv_iadd hx hb dL_law_1754 ?_
  refine W.eq (g2 := F0 m 1755 ls [.int 1, .ref sb, .ref (b 0)]) rfl ?_
  refine va_sld hx hb hX hbl (Nat.not_le_of_lt hbl) hG.2.2.2.1 (vp_box (by decide) (by rw [hL4]; decide)) dL_law_1755 ?_
  refine W.eq (g2 := F0 m 1756 ls [.int (xs 1), .ref (b 0)]) rfl ?_
  refine lv_aload_n hx hb dL_law_1756 rfl (lv_at hl 5 rfl) ?_
  refine lv_iload hx hb dL_law_1757 (lv_at hl 1 rfl) ?_
  refine lv_iconst (v := 2) hx hb dL_law_1759 (by decide) ?_
  refine lv_iadd hx hb dL_law_1760 ?_
  refine W.eq (g2 := F0 m 1761 ls [.int 2, .ref sb, .int (xs 1), .ref (b 0)]) rfl ?_
  refine va_sld hx hb hX hbl (Nat.not_le_of_lt hbl) hG.2.2.2.1 (vp_box (by decide) (by rw [hL4]; decide)) dL_law_1761 ?_
  refine W.eq (g2 := F0 m 1762 ls [.int (xs 2), .int (xs 1), .ref (b 0)]) rfl ?_
  have cut1762 : Cut (([(b 0, .inr (9, [.int 0, .ref (b 1), .ref (b 2), .ref (b 3), .ref (b 4), .ref (b 5), .ref (b 6), .ref (b 7), .null, .int 0, .int (-1), .int 0, .int 0, .int 0, .ref (b 8)])), (b 1, .inl (κ.1, 4, .inl (fun _ => 1000))), (b 2, .inr (10, [.int 0, .ref E0, .int 0])), (b 3, .inr (10, [.int 0, .ref E0, .int 0])), (b 4, .inr (10, [.int 0, .ref E0, .int 0])), (b 5, .inr (10, [.int 0, .ref E0, .int 0])), (b 6, .inr (10, [.int 0, .ref E0, .int 0])), (b 7, .inr (10, [.int 0, .ref E0, .int 0])), (b 8, .inr (10, [.int 0, .ref E0, .int 0]))]) ++ ([(o, .inl (κ.2.1, 1, .inr (.inl (fun _ => 0))))])) (mw κ b E0 0) ([(o, .inl (κ.2.1, 1, .inr (.inl (fun _ => 0))))]) := (Cut.idx [0, 1, 2, 3, 4, 5, 6, 7, 8] [9] rfl rfl (by decide) (by decide) (by decide))
  refine zc_l hG cut1762 (zr_V (k := 0) (ci := 9) (n := 2) (As := [.int (xs 1), .int (xs 2)]) (rest := []) hC hG hE hT cut1762 (z_238_earned l hst D κ E0 H.size b (xs 1) (xs 2) ⟨by omega, by omega⟩ ⟨by omega, by omega⟩) rfl rfl w1141 w5 w1144 w1142 w1143 (by decide +kernel) ⟨Nat.le_of_ble_eq_true rfl, Nat.le_of_ble_eq_true rfl⟩ rfl hl.1 rfl (Nat.le_of_ble_eq_true rfl) dL_law_1762 ⟨Nat.le_of_ble_eq_true rfl, Nat.le_of_ble_eq_true rfl⟩) (fun z2 H locs hG => ?_)
  have hG : BW D κ (([(o, .inl (κ.2.1, 1, .inr (.inl (fun _ => 0))))]) ++ (mw κ b E0 1)) _ s H locs := hG
  refine lv_lstore (lv' := [(6, .long 0), (5, .int 1), (4, .int 0), (3, .ref o), (2, .ref (b 0)), (1, .ref (a 0)), (0, .ref sb)]) hx hb dL_law_1765 hl (by decide) rfl (fun ls hl => ?_)
  refine lv_aload_n hx hb dL_law_1767 rfl (lv_at hl 4 rfl) ?_
  have cut1768 : Cut (([(o, .inl (κ.2.1, 1, .inr (.inl (fun _ => 0))))]) ++ (mw κ b E0 1)) ([(b 0, .inr (9, [.int 1, .ref (b 1), .ref (b 2), .ref (b 3), .ref (b 4), .ref (b 5), .ref (b 6), .ref (b 7), .null, .int 0, .int (-1), .int 0, .int 0, .int 0, .ref (b 8)]))]) ([(o, .inl (κ.2.1, 1, .inr (.inl (fun _ => 0)))), (b 1, .inl (κ.1, 4, .inl (fun _ => 1000))), (b 2, .inr (10, [.int 0, .ref E0, .int 0])), (b 3, .inr (10, [.int 0, .ref E0, .int 0])), (b 4, .inr (10, [.int 0, .ref E0, .int 0])), (b 5, .inr (10, [.int 0, .ref E0, .int 0])), (b 6, .inr (10, [.int 0, .ref E0, .int 0])), (b 7, .inr (10, [.int 0, .ref E0, .int 0])), (b 8, .inr (10, [.int 0, .ref E0, .int 0]))]) := (Cut.idx [1] [0, 2, 3, 4, 5, 6, 7, 8, 9] rfl rfl (by decide) (by decide) (by decide))
  refine zc_i hG cut1768 (zr_V (k := 1) (ci := 9) (n := 0) (As := []) (rest := []) hC hG hE hT cut1768 (z_6_thrown l hst D κ E0 H.size b) rfl rfl w200 w5 w203 w201 w202 (by decide +kernel) ⟨Nat.le_of_ble_eq_true rfl, Nat.le_of_ble_eq_true rfl⟩ rfl hl.1 rfl (Nat.le_of_ble_eq_true rfl) dL_law_1768 ⟨Nat.le_of_ble_eq_true rfl, Nat.le_of_ble_eq_true rfl⟩) (fun z3 H locs hG => ?_)
  have hG : BW D κ (([(o, .inl (κ.2.1, 1, .inr (.inl (fun _ => 0)))), (b 1, .inl (κ.1, 4, .inl (fun _ => 1000))), (b 2, .inr (10, [.int 0, .ref E0, .int 0])), (b 3, .inr (10, [.int 0, .ref E0, .int 0])), (b 4, .inr (10, [.int 0, .ref E0, .int 0])), (b 5, .inr (10, [.int 0, .ref E0, .int 0])), (b 6, .inr (10, [.int 0, .ref E0, .int 0])), (b 7, .inr (10, [.int 0, .ref E0, .int 0])), (b 8, .inr (10, [.int 0, .ref E0, .int 0]))]) ++ ([(b 0, .inr (9, [.int 1, .ref (b 1), .ref (b 2), .ref (b 3), .ref (b 4), .ref (b 5), .ref (b 6), .ref (b 7), .null, .int 0, .int (-1), .int 0, .int 0, .int 0, .ref (b 8)]))])) _ s H locs := hG
  refine lv_iload hx hb dL_law_1771 (lv_at hl 1 rfl) ?_
  refine lv_icmp_eq (tgt := 1778) hx hb dL_law_1773 (by decide) (fun _ => ?_) (fun h1773 => absurd (by decide) h1773)
  refine lv_iload hx hb dL_law_1778 (lv_at hl 1 rfl) ?_
  refine lv_if_ne (tgt := 1794) hx hb dL_law_1780 (by decide) (fun _ => ?_) (fun h1780 => absurd h1780 (by decide))
  refine lv_goto (tgt := 2042) hx hb dL_law_1794 (by decide) ?_
  refine lv_iinc (v := 4) (lv' := [(4, .int 4), (6, .long 0), (5, .int 1), (3, .ref o), (2, .ref (b 0)), (1, .ref (a 0)), (0, .ref sb)]) hx hb dL_law_2042 hl (k := 2) rfl (by decide) (by decide) rfl (fun ls hl => ?_)
  refine lv_goto (tgt := 23) hx hb dL_law_2045 (by decide) ?_
  refine lv_iload hx hb dL_law_23 (lv_at hl 0 rfl) ?_
  refine lv_aload_n hx hb dL_law_25 rfl (lv_at hl 6 rfl) ?_
  refine va_slen hx hb hX hbl (Nat.not_le_of_lt hbl) hG.2.2.2.1 dL_law_26 ?_
  refine W.eq (g2 := F0 m 27 ls [.int 4, .int 4]) (by rw [hL4]; rfl) ?_
  refine lv_iconst (v := 4) hx hb dL_law_27 (by decide) ?_
  refine lv_isub hx hb dL_law_28 ?_
  refine W.eq (g2 := F0 m 29 ls [.int 0, .int 4]) rfl ?_
  refine lv_icmp_gt (tgt := 2048) hx hb dL_law_29 (by decide) (fun _ => ?_) (fun h29 => absurd (by decide) h29)
  refine lv_iconst (v := 1) hx hb dL_law_2048 (by decide) ?_
  refine W.widen (k := 600002) (n := 7302232) (Nat.le_of_ble_eq_true rfl) (Nat.le_of_ble_eq_true rfl) ?_
  refine va_forget (fun q hq => hG.2.2.2.1.2.2 q hq) ?_
  refine W.base ?_
  exact lw_ret (Drawn.sameBut.refl s.drawn lw_cs) hx hb hr hlocks dL_law_2049
set_option maxHeartbeats 4000000 in
set_option maxRecDepth 100000 in
theorem leaf_53 {p : Program} {e : Env} {s : State} {m : MethodId} {below : List Frame} {meth : Method} {c : Code} (l : Launch) (hst : l.stackTraces = false) {D : va_G} {κ : K4} {E0 : Nat} {a b : Nat → Nat} {o sb L : Nat} {xs : Nat → Int32} (hC : CallFix p m c code 9 s #[Value.ref sb] WALL RL) (hr : meth.sig.returnType = ret) (hlocks : meth.locks = false) (hX : va_X sb L xs s s.heap) (hbl : sb < s.heap.size) (hL4 : L = 4) (hE : EA E0 D κ (fun q => s.heap.size ≤ q) s s.heap) (hT : ET s) (k_1 : 0 ≤ (xs 1).toInt ∧ (xs 1).toInt ≤ 364) (k_2 : 365 ≤ (xs 2).toInt ∧ (xs 2).toInt ≤ 2147483647) (H : Heap) (locs : List Loc) (hG : BW D κ ((xw κ a ++ [(o, .inl (κ.2.1, 1, .inr (.inl (fun _ => 0))))]) ++ mw κ b E0 0) (fun q => s.heap.size ≤ q) s H locs) (ls : Array Slot) (hl : lv_has ls 9 [(4, .int 0), (3, .ref o), (2, .ref (b 0)), (1, .ref (a 0)), (0, .ref sb)]) : W p l e room_1 s m #[Value.ref sb] below meth c H locs 100 6000 (lw_Z below #[Value.ref sb] s) (F0 m 1730 ls []) := by
  have hx := hC.1
  have hb := hC.2.1
  refine lv_aload_n hx hb dL_law_1730 rfl (lv_at hl 3 rfl) ?_
  refine lv_aload_n hx hb dL_law_1731 rfl (lv_at hl 4 rfl) ?_
  refine lv_iload hx hb dL_law_1732 (lv_at hl 0 rfl) ?_
  refine lv_iconst (v := 1) hx hb dL_law_1734 (by decide) ?_
  refine lv_iadd hx hb dL_law_1735 ?_
  refine W.eq (g2 := F0 m 1736 ls [.int 1, .ref sb, .ref (a 0)]) rfl ?_
  refine va_sld hx hb hX hbl (Nat.not_le_of_lt hbl) hG.2.2.2.1 (vp_box (by decide) (by rw [hL4]; decide)) dL_law_1736 ?_
  refine W.eq (g2 := F0 m 1737 ls [.int (xs 1), .ref (a 0)]) rfl ?_
  refine lv_aload_n hx hb dL_law_1737 rfl (lv_at hl 4 rfl) ?_
  refine lv_iload hx hb dL_law_1738 (lv_at hl 0 rfl) ?_
  refine lv_iconst (v := 2) hx hb dL_law_1740 (by decide) ?_
  refine lv_iadd hx hb dL_law_1741 ?_
  refine W.eq (g2 := F0 m 1742 ls [.int 2, .ref sb, .int (xs 1), .ref (a 0)]) rfl ?_
  refine va_sld hx hb hX hbl (Nat.not_le_of_lt hbl) hG.2.2.2.1 (vp_box (by decide) (by rw [hL4]; decide)) dL_law_1742 ?_
  refine W.eq (g2 := F0 m 1743 ls [.int (xs 2), .int (xs 1), .ref (a 0)]) rfl ?_
  refine lv_aload_n hx hb dL_law_1743 rfl (lv_at hl 1 rfl) ?_
  have cut1744 : Cut ((xw κ a ++ [(o, .inl (κ.2.1, 1, .inr (.inl (fun _ => 0))))]) ++ mw κ b E0 0) ([(a 0, .inr (7, [.ref (a 1), .ref (a 7), .ref (a 12), .ref (a 23), .ref (a 28), .ref (a 33), .ref (a 37), .ref (a 41), .int (-1), .int 0])), (a 1, .inr (0, [.ref (a 2), .ref (a 3), .ref (a 4), .ref (a 5), .ref (a 6), .int 0])), (a 2, .inl (κ.1, 4, .inl (fun _ => 1000))), (a 3, .inl (κ.1, 10, .inl (fun _ => 0))), (a 4, .inl (κ.1, 10, .inl (fun _ => 0))), (a 5, .inl (κ.1, 10, .inl (fun _ => 0))), (a 6, .inl (κ.2.2.1, 10, .inl (fun _ => 0))), (a 7, .inr (1, [.ref (a 8), .int 0, .int 0, .int 0])), (a 8, .inr (4, [.ref (a 9), .ref (a 10), .ref (a 11), .int 0])), (a 9, .inl (κ.1, 10, .inl (fun _ => 0))), (a 10, .inl (κ.2.1, 10, .inr (.inl (fun _ => 0)))), (a 11, .inl (κ.2.1, 10, .inr (.inl (fun _ => 0)))), (a 12, .inr (3, [.ref (a 13), .ref (a 14), .ref (a 15), .ref (a 16), .ref (a 17), .ref (a 18), .int 0, .ref (a 19), .ref (a 20), .ref (a 21), .ref (a 22), .int 0])), (a 13, .inl (κ.1, 60, .inl (fun _ => 0))), (a 14, .inl (κ.1, 60, .inl (fun _ => 0))), (a 15, .inl (κ.1, 60, .inl (fun _ => 0))), (a 16, .inl (κ.1, 60, .inl (fun _ => 0))), (a 17, .inl (κ.2.2.1, 60, .inl (fun _ => 0))), (a 18, .inl (κ.2.2.1, 60, .inl (fun _ => 0))), (a 19, .inl (κ.1, 600, .inl (fun _ => 0))), (a 20, .inl (κ.1, 600, .inl (fun _ => 0))), (a 21, .inl (κ.2.1, 600, .inr (.inl (fun _ => 0)))), (a 22, .inl (κ.2.1, 600, .inr (.inl (fun _ => 0)))), (a 23, .inr (2, [.ref (a 24), .ref (a 25), .ref (a 26), .ref (a 27), .int 0])), (a 24, .inl (κ.1, 20, .inl (fun _ => 0))), (a 25, .inl (κ.1, 20, .inl (fun _ => 0))), (a 26, .inl (κ.1, 20, .inl (fun _ => 0))), (a 27, .inl (κ.2.2.1, 20, .inl (fun _ => 0))), (a 28, .inr (5, [.ref (a 29), .ref (a 30), .ref (a 31), .ref (a 32), .int 0])), (a 29, .inl (κ.1, 40, .inl (fun _ => 0))), (a 30, .inl (κ.1, 40, .inl (fun _ => 0))), (a 31, .inl (κ.1, 40, .inl (fun _ => 0))), (a 32, .inl (κ.1, 40, .inl (fun _ => 0))), (a 33, .inr (6, [.ref (a 12), .ref (a 28), .ref (a 34), .ref (a 35), .ref (a 36)])), (a 34, .inl (κ.1, 600, .inl (fun _ => (-1)))), (a 35, .inl (κ.1, 40, .inl (fun _ => (-1)))), (a 36, .inl (κ.1, 40, .inl (fun _ => (-1)))), (a 37, .inr (6, [.ref (a 12), .ref (a 28), .ref (a 38), .ref (a 39), .ref (a 40)])), (a 38, .inl (κ.1, 600, .inl (fun _ => (-1)))), (a 39, .inl (κ.1, 40, .inl (fun _ => (-1)))), (a 40, .inl (κ.1, 40, .inl (fun _ => (-1)))), (a 41, .inr (4, [.ref (a 42), .ref (a 43), .ref (a 44), .int 0])), (a 42, .inl (κ.1, 10, .inl (fun _ => 0))), (a 43, .inl (κ.2.1, 10, .inr (.inl (fun _ => 0)))), (a 44, .inl (κ.2.1, 10, .inr (.inl (fun _ => 0)))), (o, .inl (κ.2.1, 1, .inr (.inl (fun _ => 0))))]) ([(b 0, .inr (9, [.int 0, .ref (b 1), .ref (b 2), .ref (b 3), .ref (b 4), .ref (b 5), .ref (b 6), .ref (b 7), .null, .int 0, .int (-1), .int 0, .int 0, .int 0, .ref (b 8)])), (b 1, .inl (κ.1, 4, .inl (fun _ => 1000))), (b 2, .inr (10, [.int 0, .ref E0, .int 0])), (b 3, .inr (10, [.int 0, .ref E0, .int 0])), (b 4, .inr (10, [.int 0, .ref E0, .int 0])), (b 5, .inr (10, [.int 0, .ref E0, .int 0])), (b 6, .inr (10, [.int 0, .ref E0, .int 0])), (b 7, .inr (10, [.int 0, .ref E0, .int 0])), (b 8, .inr (10, [.int 0, .ref E0, .int 0]))]) := (Cut.idx [0, 1, 2, 3, 4, 5, 6, 7, 8, 9, 10, 11, 12, 13, 14, 15, 16, 17, 18, 19, 20, 21, 22, 23, 24, 25, 26, 27, 28, 29, 30, 31, 32, 33, 34, 35, 36, 37, 38, 39, 40, 41, 42, 43, 44, 45] [46, 47, 48, 49, 50, 51, 52, 53, 54] rfl rfl (by decide) (by decide) (by decide))
  refine zc_i hG cut1744 (zr_H (n := 4) (As := [.ref (a 0), .int (xs 1), .int (xs 2), .ref o]) (rest := []) hC hG hE hT cut1744 (z_240_earned l hst D κ E0 H.size a (xs 1) (xs 2) o ⟨by omega, by omega⟩ ⟨by omega, by omega⟩) w1130 w143 w1132 w1131 (by decide +kernel) ⟨Nat.le_of_ble_eq_true rfl, Nat.le_of_ble_eq_true rfl⟩ rfl hl.1 rfl (Nat.le_of_ble_eq_true rfl) dL_law_1744 ⟨Nat.le_of_ble_eq_true rfl, Nat.le_of_ble_eq_true rfl⟩) (fun z1 H locs hG => ?_)
  have hG : BW D κ (([(b 0, .inr (9, [.int 0, .ref (b 1), .ref (b 2), .ref (b 3), .ref (b 4), .ref (b 5), .ref (b 6), .ref (b 7), .null, .int 0, .int (-1), .int 0, .int 0, .int 0, .ref (b 8)])), (b 1, .inl (κ.1, 4, .inl (fun _ => 1000))), (b 2, .inr (10, [.int 0, .ref E0, .int 0])), (b 3, .inr (10, [.int 0, .ref E0, .int 0])), (b 4, .inr (10, [.int 0, .ref E0, .int 0])), (b 5, .inr (10, [.int 0, .ref E0, .int 0])), (b 6, .inr (10, [.int 0, .ref E0, .int 0])), (b 7, .inr (10, [.int 0, .ref E0, .int 0])), (b 8, .inr (10, [.int 0, .ref E0, .int 0]))]) ++ ([(o, .inl (κ.2.1, 1, .inr (.inl (fun _ => 0))))])) _ s H locs := hG
  refine lv_istore (lv' := [(5, .int 1), (4, .int 0), (3, .ref o), (2, .ref (b 0)), (1, .ref (a 0)), (0, .ref sb)]) hx hb dL_law_1747 hl (by decide) rfl (fun ls hl => ?_)
  refine lv_aload_n hx hb dL_law_1749 rfl (lv_at hl 3 rfl) ?_
  refine lv_aload_n hx hb dL_law_1750 rfl (lv_at hl 5 rfl) ?_
  refine lv_iload hx hb dL_law_1751 (lv_at hl 1 rfl) ?_
  refine lv_iconst (v := 1) hx hb dL_law_1753 (by decide) ?_
  refine lv_iadd hx hb dL_law_1754 ?_
  refine W.eq (g2 := F0 m 1755 ls [.int 1, .ref sb, .ref (b 0)]) rfl ?_
  refine va_sld hx hb hX hbl (Nat.not_le_of_lt hbl) hG.2.2.2.1 (vp_box (by decide) (by rw [hL4]; decide)) dL_law_1755 ?_
  refine W.eq (g2 := F0 m 1756 ls [.int (xs 1), .ref (b 0)]) rfl ?_
  refine lv_aload_n hx hb dL_law_1756 rfl (lv_at hl 5 rfl) ?_
  refine lv_iload hx hb dL_law_1757 (lv_at hl 1 rfl) ?_
  refine lv_iconst (v := 2) hx hb dL_law_1759 (by decide) ?_
  refine lv_iadd hx hb dL_law_1760 ?_
  refine W.eq (g2 := F0 m 1761 ls [.int 2, .ref sb, .int (xs 1), .ref (b 0)]) rfl ?_
  refine va_sld hx hb hX hbl (Nat.not_le_of_lt hbl) hG.2.2.2.1 (vp_box (by decide) (by rw [hL4]; decide)) dL_law_1761 ?_
  refine W.eq (g2 := F0 m 1762 ls [.int (xs 2), .int (xs 1), .ref (b 0)]) rfl ?_
  have cut1762 : Cut (([(b 0, .inr (9, [.int 0, .ref (b 1), .ref (b 2), .ref (b 3), .ref (b 4), .ref (b 5), .ref (b 6), .ref (b 7), .null, .int 0, .int (-1), .int 0, .int 0, .int 0, .ref (b 8)])), (b 1, .inl (κ.1, 4, .inl (fun _ => 1000))), (b 2, .inr (10, [.int 0, .ref E0, .int 0])), (b 3, .inr (10, [.int 0, .ref E0, .int 0])), (b 4, .inr (10, [.int 0, .ref E0, .int 0])), (b 5, .inr (10, [.int 0, .ref E0, .int 0])), (b 6, .inr (10, [.int 0, .ref E0, .int 0])), (b 7, .inr (10, [.int 0, .ref E0, .int 0])), (b 8, .inr (10, [.int 0, .ref E0, .int 0]))]) ++ ([(o, .inl (κ.2.1, 1, .inr (.inl (fun _ => 0))))])) (mw κ b E0 0) ([(o, .inl (κ.2.1, 1, .inr (.inl (fun _ => 0))))]) := (Cut.idx [0, 1, 2, 3, 4, 5, 6, 7, 8] [9] rfl rfl (by decide) (by decide) (by decide))
  refine zc_l hG cut1762 (zr_V (k := 0) (ci := 9) (n := 2) (As := [.int (xs 1), .int (xs 2)]) (rest := []) hC hG hE hT cut1762 (z_241_earned l hst D κ E0 H.size b (xs 1) (xs 2) ⟨by omega, by omega⟩ ⟨by omega, by omega⟩) rfl rfl w1141 w5 w1144 w1142 w1143 (by decide +kernel) ⟨Nat.le_of_ble_eq_true rfl, Nat.le_of_ble_eq_true rfl⟩ rfl hl.1 rfl (Nat.le_of_ble_eq_true rfl) dL_law_1762 ⟨Nat.le_of_ble_eq_true rfl, Nat.le_of_ble_eq_true rfl⟩) (fun z2 H locs hG => ?_)
  have hG : BW D κ (([(o, .inl (κ.2.1, 1, .inr (.inl (fun _ => 0))))]) ++ (mw κ b E0 1)) _ s H locs := hG
  refine lv_lstore (lv' := [(6, .long 0), (5, .int 1), (4, .int 0), (3, .ref o), (2, .ref (b 0)), (1, .ref (a 0)), (0, .ref sb)]) hx hb dL_law_1765 hl (by decide) rfl (fun ls hl => ?_)
  refine lv_aload_n hx hb dL_law_1767 rfl (lv_at hl 4 rfl) ?_
  have cut1768 : Cut (([(o, .inl (κ.2.1, 1, .inr (.inl (fun _ => 0))))]) ++ (mw κ b E0 1)) ([(b 0, .inr (9, [.int 1, .ref (b 1), .ref (b 2), .ref (b 3), .ref (b 4), .ref (b 5), .ref (b 6), .ref (b 7), .null, .int 0, .int (-1), .int 0, .int 0, .int 0, .ref (b 8)]))]) ([(o, .inl (κ.2.1, 1, .inr (.inl (fun _ => 0)))), (b 1, .inl (κ.1, 4, .inl (fun _ => 1000))), (b 2, .inr (10, [.int 0, .ref E0, .int 0])), (b 3, .inr (10, [.int 0, .ref E0, .int 0])), (b 4, .inr (10, [.int 0, .ref E0, .int 0])), (b 5, .inr (10, [.int 0, .ref E0, .int 0])), (b 6, .inr (10, [.int 0, .ref E0, .int 0])), (b 7, .inr (10, [.int 0, .ref E0, .int 0])), (b 8, .inr (10, [.int 0, .ref E0, .int 0]))]) := (Cut.idx [1] [0, 2, 3, 4, 5, 6, 7, 8, 9] rfl rfl (by decide) (by decide) (by decide))
  refine zc_i hG cut1768 (zr_V (k := 1) (ci := 9) (n := 0) (As := []) (rest := []) hC hG hE hT cut1768 (z_6_thrown l hst D κ E0 H.size b) rfl rfl w200 w5 w203 w201 w202 (by decide +kernel) ⟨Nat.le_of_ble_eq_true rfl, Nat.le_of_ble_eq_true rfl⟩ rfl hl.1 rfl (Nat.le_of_ble_eq_true rfl) dL_law_1768 ⟨Nat.le_of_ble_eq_true rfl, Nat.le_of_ble_eq_true rfl⟩) (fun z3 H locs hG => ?_)
  have hG : BW D κ (([(o, .inl (κ.2.1, 1, .inr (.inl (fun _ => 0)))), (b 1, .inl (κ.1, 4, .inl (fun _ => 1000))), (b 2, .inr (10, [.int 0, .ref E0, .int 0])), (b 3, .inr (10, [.int 0, .ref E0, .int 0])), (b 4, .inr (10, [.int 0, .ref E0, .int 0])), (b 5, .inr (10, [.int 0, .ref E0, .int 0])), (b 6, .inr (10, [.int 0, .ref E0, .int 0])), (b 7, .inr (10, [.int 0, .ref E0, .int 0])), (b 8, .inr (10, [.int 0, .ref E0, .int 0]))]) ++ ([(b 0, .inr (9, [.int 1, .ref (b 1), .ref (b 2), .ref (b 3), .ref (b 4), .ref (b 5), .ref (b 6), .ref (b 7), .null, .int 0, .int (-1), .int 0, .int 0, .int 0, .ref (b 8)]))])) _ s H locs := hG
  refine lv_iload hx hb dL_law_1771 (lv_at hl 1 rfl) ?_
  refine lv_icmp_eq (tgt := 1778) hx hb dL_law_1773 (by decide) (fun _ => ?_) (fun h1773 => absurd (by decide) h1773)
  refine lv_iload hx hb dL_law_1778 (lv_at hl 1 rfl) ?_
  refine lv_if_ne (tgt := 1794) hx hb dL_law_1780 (by decide) (fun _ => ?_) (fun h1780 => absurd h1780 (by decide))
  refine lv_goto (tgt := 2042) hx hb dL_law_1794 (by decide) ?_
  refine lv_iinc (v := 4) (lv' := [(4, .int 4), (6, .long 0), (5, .int 1), (3, .ref o), (2, .ref (b 0)), (1, .ref (a 0)), (0, .ref sb)]) hx hb dL_law_2042 hl (k := 2) rfl (by decide) (by decide) rfl (fun ls hl => ?_)
  refine lv_goto (tgt := 23) hx hb dL_law_2045 (by decide) ?_
  refine lv_iload hx hb dL_law_23 (lv_at hl 0 rfl) ?_
  refine lv_aload_n hx hb dL_law_25 rfl (lv_at hl 6 rfl) ?_
  refine va_slen hx hb hX hbl (Nat.not_le_of_lt hbl) hG.2.2.2.1 dL_law_26 ?_
  refine W.eq (g2 := F0 m 27 ls [.int 4, .int 4]) (by rw [hL4]; rfl) ?_
  refine lv_iconst (v := 4) hx hb dL_law_27 (by decide) ?_
  refine lv_isub hx hb dL_law_28 ?_
  refine W.eq (g2 := F0 m 29 ls [.int 0, .int 4]) rfl ?_
  refine lv_icmp_gt (tgt := 2048) hx hb dL_law_29 (by decide) (fun _ => ?_) (fun h29 => absurd (by decide) h29)
  refine lv_iconst (v := 1) hx hb dL_law_2048 (by decide) ?_
  refine W.widen (k := 600002) (n := 7302232) (Nat.le_of_ble_eq_true rfl) (Nat.le_of_ble_eq_true rfl) ?_
  refine va_forget (fun q hq => hG.2.2.2.1.2.2 q hq) ?_
  refine W.base ?_
  exact lw_ret (Drawn.sameBut.refl s.drawn lw_cs) hx hb hr hlocks dL_law_2049
theorem dL_law_1783 : decode code 1783 = .ok (.aload_n 3, 1) := by decide +kernel
theorem dL_law_1784 : decode code 1784 = .ok (.iconst 0, 1) := by decide +kernel
theorem dL_law_1785 : decode code 1785 = .ok (.laload, 1) := by decide +kernel
theorem dL_law_1786 : decode code 1786 = .ok (.lload 6, 2) := by decide +kernel
theorem dL_law_1788 : decode code 1788 = .ok (.lcmp, 1) := by decide +kernel
theorem dL_law_1789 : decode code 1789 = .ok (.ifCond .eq 5, 3) := by decide +kernel
set_option maxHeartbeats 4000000 in
set_option maxRecDepth 100000 in
theorem leaf_54 {p : Program} {e : Env} {s : State} {m : MethodId} {below : List Frame} {meth : Method} {c : Code} (l : Launch) (hst : l.stackTraces = false) {D : va_G} {κ : K4} {E0 : Nat} {a b : Nat → Nat} {o sb L : Nat} {xs : Nat → Int32} (hC : CallFix p m c code 9 s #[Value.ref sb] WALL RL) (hr : meth.sig.returnType = ret) (hlocks : meth.locks = false) (hX : va_X sb L xs s s.heap) (hbl : sb < s.heap.size) (hL4 : L = 4) (hE : EA E0 D κ (fun q => s.heap.size ≤ q) s s.heap) (hT : ET s) (k_1 : 0 ≤ (xs 1).toInt ∧ (xs 1).toInt ≤ 364) (k_2 : 0 ≤ (xs 2).toInt ∧ (xs 2).toInt ≤ 364) (H : Heap) (locs : List Loc) (hG : BW D κ ((xw κ a ++ [(o, .inl (κ.2.1, 1, .inr (.inl (fun _ => 0))))]) ++ mw κ b E0 0) (fun q => s.heap.size ≤ q) s H locs) (ls : Array Slot) (hl : lv_has ls 9 [(4, .int 0), (3, .ref o), (2, .ref (b 0)), (1, .ref (a 0)), (0, .ref sb)]) : W p l e room_1 s m #[Value.ref sb] below meth c H locs 100 6000 (lw_Z below #[Value.ref sb] s) (F0 m 1730 ls []) := by
  have hx := hC.1
  have hb := hC.2.1
  refine lv_aload_n hx hb dL_law_1730 rfl (lv_at hl 3 rfl) ?_
  refine lv_aload_n hx hb dL_law_1731 rfl (lv_at hl 4 rfl) ?_
  refine lv_iload hx hb dL_law_1732 (lv_at hl 0 rfl) ?_
  refine lv_iconst (v := 1) hx hb dL_law_1734 (by decide) ?_
  refine lv_iadd hx hb dL_law_1735 ?_
  refine W.eq (g2 := F0 m 1736 ls [.int 1, .ref sb, .ref (a 0)]) rfl ?_
  refine va_sld hx hb hX hbl (Nat.not_le_of_lt hbl) hG.2.2.2.1 (vp_box (by decide) (by rw [hL4]; decide)) dL_law_1736 ?_
  refine W.eq (g2 := F0 m 1737 ls [.int (xs 1), .ref (a 0)]) rfl ?_
  refine lv_aload_n hx hb dL_law_1737 rfl (lv_at hl 4 rfl) ?_
  refine lv_iload hx hb dL_law_1738 (lv_at hl 0 rfl) ?_
  refine lv_iconst (v := 2) hx hb dL_law_1740 (by decide) ?_
  refine lv_iadd hx hb dL_law_1741 ?_
  refine W.eq (g2 := F0 m 1742 ls [.int 2, .ref sb, .int (xs 1), .ref (a 0)]) rfl ?_
  refine va_sld hx hb hX hbl (Nat.not_le_of_lt hbl) hG.2.2.2.1 (vp_box (by decide) (by rw [hL4]; decide)) dL_law_1742 ?_
  refine W.eq (g2 := F0 m 1743 ls [.int (xs 2), .int (xs 1), .ref (a 0)]) rfl ?_
  refine lv_aload_n hx hb dL_law_1743 rfl (lv_at hl 1 rfl) ?_
  have cut1744 : Cut ((xw κ a ++ [(o, .inl (κ.2.1, 1, .inr (.inl (fun _ => 0))))]) ++ mw κ b E0 0) ([(a 0, .inr (7, [.ref (a 1), .ref (a 7), .ref (a 12), .ref (a 23), .ref (a 28), .ref (a 33), .ref (a 37), .ref (a 41), .int (-1), .int 0])), (a 1, .inr (0, [.ref (a 2), .ref (a 3), .ref (a 4), .ref (a 5), .ref (a 6), .int 0])), (a 2, .inl (κ.1, 4, .inl (fun _ => 1000))), (a 3, .inl (κ.1, 10, .inl (fun _ => 0))), (a 4, .inl (κ.1, 10, .inl (fun _ => 0))), (a 5, .inl (κ.1, 10, .inl (fun _ => 0))), (a 6, .inl (κ.2.2.1, 10, .inl (fun _ => 0))), (a 7, .inr (1, [.ref (a 8), .int 0, .int 0, .int 0])), (a 8, .inr (4, [.ref (a 9), .ref (a 10), .ref (a 11), .int 0])), (a 9, .inl (κ.1, 10, .inl (fun _ => 0))), (a 10, .inl (κ.2.1, 10, .inr (.inl (fun _ => 0)))), (a 11, .inl (κ.2.1, 10, .inr (.inl (fun _ => 0)))), (a 12, .inr (3, [.ref (a 13), .ref (a 14), .ref (a 15), .ref (a 16), .ref (a 17), .ref (a 18), .int 0, .ref (a 19), .ref (a 20), .ref (a 21), .ref (a 22), .int 0])), (a 13, .inl (κ.1, 60, .inl (fun _ => 0))), (a 14, .inl (κ.1, 60, .inl (fun _ => 0))), (a 15, .inl (κ.1, 60, .inl (fun _ => 0))), (a 16, .inl (κ.1, 60, .inl (fun _ => 0))), (a 17, .inl (κ.2.2.1, 60, .inl (fun _ => 0))), (a 18, .inl (κ.2.2.1, 60, .inl (fun _ => 0))), (a 19, .inl (κ.1, 600, .inl (fun _ => 0))), (a 20, .inl (κ.1, 600, .inl (fun _ => 0))), (a 21, .inl (κ.2.1, 600, .inr (.inl (fun _ => 0)))), (a 22, .inl (κ.2.1, 600, .inr (.inl (fun _ => 0)))), (a 23, .inr (2, [.ref (a 24), .ref (a 25), .ref (a 26), .ref (a 27), .int 0])), (a 24, .inl (κ.1, 20, .inl (fun _ => 0))), (a 25, .inl (κ.1, 20, .inl (fun _ => 0))), (a 26, .inl (κ.1, 20, .inl (fun _ => 0))), (a 27, .inl (κ.2.2.1, 20, .inl (fun _ => 0))), (a 28, .inr (5, [.ref (a 29), .ref (a 30), .ref (a 31), .ref (a 32), .int 0])), (a 29, .inl (κ.1, 40, .inl (fun _ => 0))), (a 30, .inl (κ.1, 40, .inl (fun _ => 0))), (a 31, .inl (κ.1, 40, .inl (fun _ => 0))), (a 32, .inl (κ.1, 40, .inl (fun _ => 0))), (a 33, .inr (6, [.ref (a 12), .ref (a 28), .ref (a 34), .ref (a 35), .ref (a 36)])), (a 34, .inl (κ.1, 600, .inl (fun _ => (-1)))), (a 35, .inl (κ.1, 40, .inl (fun _ => (-1)))), (a 36, .inl (κ.1, 40, .inl (fun _ => (-1)))), (a 37, .inr (6, [.ref (a 12), .ref (a 28), .ref (a 38), .ref (a 39), .ref (a 40)])), (a 38, .inl (κ.1, 600, .inl (fun _ => (-1)))), (a 39, .inl (κ.1, 40, .inl (fun _ => (-1)))), (a 40, .inl (κ.1, 40, .inl (fun _ => (-1)))), (a 41, .inr (4, [.ref (a 42), .ref (a 43), .ref (a 44), .int 0])), (a 42, .inl (κ.1, 10, .inl (fun _ => 0))), (a 43, .inl (κ.2.1, 10, .inr (.inl (fun _ => 0)))), (a 44, .inl (κ.2.1, 10, .inr (.inl (fun _ => 0)))), (o, .inl (κ.2.1, 1, .inr (.inl (fun _ => 0))))]) ([(b 0, .inr (9, [.int 0, .ref (b 1), .ref (b 2), .ref (b 3), .ref (b 4), .ref (b 5), .ref (b 6), .ref (b 7), .null, .int 0, .int (-1), .int 0, .int 0, .int 0, .ref (b 8)])), (b 1, .inl (κ.1, 4, .inl (fun _ => 1000))), (b 2, .inr (10, [.int 0, .ref E0, .int 0])), (b 3, .inr (10, [.int 0, .ref E0, .int 0])), (b 4, .inr (10, [.int 0, .ref E0, .int 0])), (b 5, .inr (10, [.int 0, .ref E0, .int 0])), (b 6, .inr (10, [.int 0, .ref E0, .int 0])), (b 7, .inr (10, [.int 0, .ref E0, .int 0])), (b 8, .inr (10, [.int 0, .ref E0, .int 0]))]) := (Cut.idx [0, 1, 2, 3, 4, 5, 6, 7, 8, 9, 10, 11, 12, 13, 14, 15, 16, 17, 18, 19, 20, 21, 22, 23, 24, 25, 26, 27, 28, 29, 30, 31, 32, 33, 34, 35, 36, 37, 38, 39, 40, 41, 42, 43, 44, 45] [46, 47, 48, 49, 50, 51, 52, 53, 54] rfl rfl (by decide) (by decide) (by decide))
  refine zc_i hG cut1744 (zr_H (n := 4) (As := [.ref (a 0), .int (xs 1), .int (xs 2), .ref o]) (rest := []) hC hG hE hT cut1744 (z_243_earned l hst D κ E0 H.size a (xs 1) (xs 2) o ⟨by omega, by omega⟩ ⟨by omega, by omega⟩) w1130 w143 w1132 w1131 (by decide +kernel) ⟨Nat.le_of_ble_eq_true rfl, Nat.le_of_ble_eq_true rfl⟩ rfl hl.1 rfl (Nat.le_of_ble_eq_true rfl) dL_law_1744 ⟨Nat.le_of_ble_eq_true rfl, Nat.le_of_ble_eq_true rfl⟩) (fun z1 H locs hG => ?_)
  have hG : BW D κ (([(b 0, .inr (9, [.int 0, .ref (b 1), .ref (b 2), .ref (b 3), .ref (b 4), .ref (b 5), .ref (b 6), .ref (b 7), .null, .int 0, .int (-1), .int 0, .int 0, .int 0, .ref (b 8)])), (b 1, .inl (κ.1, 4, .inl (fun _ => 1000))), (b 2, .inr (10, [.int 0, .ref E0, .int 0])), (b 3, .inr (10, [.int 0, .ref E0, .int 0])), (b 4, .inr (10, [.int 0, .ref E0, .int 0])), (b 5, .inr (10, [.int 0, .ref E0, .int 0])), (b 6, .inr (10, [.int 0, .ref E0, .int 0])), (b 7, .inr (10, [.int 0, .ref E0, .int 0])), (b 8, .inr (10, [.int 0, .ref E0, .int 0]))]) ++ ([(o, .inl (κ.2.1, 1, .inr (.inl (va_up (fun _ => 0) ((0 : Int32).toNatClampNeg) 0))))])) _ s H locs := hG
  refine lv_istore (lv' := [(5, .int 0), (4, .int 0), (3, .ref o), (2, .ref (b 0)), (1, .ref (a 0)), (0, .ref sb)]) hx hb dL_law_1747 hl (by decide) rfl (fun ls hl => ?_)
  refine lv_aload_n hx hb dL_law_1749 rfl (lv_at hl 3 rfl) ?_
  refine lv_aload_n hx hb dL_law_1750 rfl (lv_at hl 5 rfl) ?_
  refine lv_iload hx hb dL_law_1751 (lv_at hl 1 rfl) ?_
  refine lv_iconst (v := 1) hx hb dL_law_1753 (by decide) ?_
  refine lv_iadd hx hb dL_law_1754 ?_
  refine W.eq (g2 := F0 m 1755 ls [.int 1, .ref sb, .ref (b 0)]) rfl ?_
  refine va_sld hx hb hX hbl (Nat.not_le_of_lt hbl) hG.2.2.2.1 (vp_box (by decide) (by rw [hL4]; decide)) dL_law_1755 ?_
  refine W.eq (g2 := F0 m 1756 ls [.int (xs 1), .ref (b 0)]) rfl ?_
  refine lv_aload_n hx hb dL_law_1756 rfl (lv_at hl 5 rfl) ?_
  refine lv_iload hx hb dL_law_1757 (lv_at hl 1 rfl) ?_
  refine lv_iconst (v := 2) hx hb dL_law_1759 (by decide) ?_
  refine lv_iadd hx hb dL_law_1760 ?_
  refine W.eq (g2 := F0 m 1761 ls [.int 2, .ref sb, .int (xs 1), .ref (b 0)]) rfl ?_
  refine va_sld hx hb hX hbl (Nat.not_le_of_lt hbl) hG.2.2.2.1 (vp_box (by decide) (by rw [hL4]; decide)) dL_law_1761 ?_
  refine W.eq (g2 := F0 m 1762 ls [.int (xs 2), .int (xs 1), .ref (b 0)]) rfl ?_
  have cut1762 : Cut (([(b 0, .inr (9, [.int 0, .ref (b 1), .ref (b 2), .ref (b 3), .ref (b 4), .ref (b 5), .ref (b 6), .ref (b 7), .null, .int 0, .int (-1), .int 0, .int 0, .int 0, .ref (b 8)])), (b 1, .inl (κ.1, 4, .inl (fun _ => 1000))), (b 2, .inr (10, [.int 0, .ref E0, .int 0])), (b 3, .inr (10, [.int 0, .ref E0, .int 0])), (b 4, .inr (10, [.int 0, .ref E0, .int 0])), (b 5, .inr (10, [.int 0, .ref E0, .int 0])), (b 6, .inr (10, [.int 0, .ref E0, .int 0])), (b 7, .inr (10, [.int 0, .ref E0, .int 0])), (b 8, .inr (10, [.int 0, .ref E0, .int 0]))]) ++ ([(o, .inl (κ.2.1, 1, .inr (.inl (va_up (fun _ => 0) ((0 : Int32).toNatClampNeg) 0))))])) (mw κ b E0 0) ([(o, .inl (κ.2.1, 1, .inr (.inl (va_up (fun _ => 0) ((0 : Int32).toNatClampNeg) 0))))]) := (Cut.idx [0, 1, 2, 3, 4, 5, 6, 7, 8] [9] rfl rfl (by decide) (by decide) (by decide))
  refine zc_l hG cut1762 (zr_V (k := 0) (ci := 9) (n := 2) (As := [.int (xs 1), .int (xs 2)]) (rest := []) hC hG hE hT cut1762 (z_244_earned l hst D κ E0 H.size b (xs 1) (xs 2) ⟨by omega, by omega⟩ ⟨by omega, by omega⟩) rfl rfl w1141 w5 w1144 w1142 w1143 (by decide +kernel) ⟨Nat.le_of_ble_eq_true rfl, Nat.le_of_ble_eq_true rfl⟩ rfl hl.1 rfl (Nat.le_of_ble_eq_true rfl) dL_law_1762 ⟨Nat.le_of_ble_eq_true rfl, Nat.le_of_ble_eq_true rfl⟩) (fun z2 H locs hG => ?_)
  have hG : BW D κ (([(o, .inl (κ.2.1, 1, .inr (.inl (va_up (fun _ => 0) ((0 : Int32).toNatClampNeg) 0))))]) ++ (mw κ b E0 0)) _ s H locs := hG
  refine lv_lstore (lv' := [(6, .long 0), (5, .int 0), (4, .int 0), (3, .ref o), (2, .ref (b 0)), (1, .ref (a 0)), (0, .ref sb)]) hx hb dL_law_1765 hl (by decide) rfl (fun ls hl => ?_)
  refine lv_aload_n hx hb dL_law_1767 rfl (lv_at hl 4 rfl) ?_
  have cut1768 : Cut (([(o, .inl (κ.2.1, 1, .inr (.inl (va_up (fun _ => 0) ((0 : Int32).toNatClampNeg) 0))))]) ++ (mw κ b E0 0)) ([(b 0, .inr (9, [.int 0, .ref (b 1), .ref (b 2), .ref (b 3), .ref (b 4), .ref (b 5), .ref (b 6), .ref (b 7), .null, .int 0, .int (-1), .int 0, .int 0, .int 0, .ref (b 8)]))]) ([(o, .inl (κ.2.1, 1, .inr (.inl (va_up (fun _ => 0) ((0 : Int32).toNatClampNeg) 0)))), (b 1, .inl (κ.1, 4, .inl (fun _ => 1000))), (b 2, .inr (10, [.int 0, .ref E0, .int 0])), (b 3, .inr (10, [.int 0, .ref E0, .int 0])), (b 4, .inr (10, [.int 0, .ref E0, .int 0])), (b 5, .inr (10, [.int 0, .ref E0, .int 0])), (b 6, .inr (10, [.int 0, .ref E0, .int 0])), (b 7, .inr (10, [.int 0, .ref E0, .int 0])), (b 8, .inr (10, [.int 0, .ref E0, .int 0]))]) := (Cut.idx [1] [0, 2, 3, 4, 5, 6, 7, 8, 9] rfl rfl (by decide) (by decide) (by decide))
  refine zc_i hG cut1768 (zr_V (k := 1) (ci := 9) (n := 0) (As := []) (rest := []) hC hG hE hT cut1768 (z_29_thrown l hst D κ E0 H.size b) rfl rfl w200 w5 w203 w201 w202 (by decide +kernel) ⟨Nat.le_of_ble_eq_true rfl, Nat.le_of_ble_eq_true rfl⟩ rfl hl.1 rfl (Nat.le_of_ble_eq_true rfl) dL_law_1768 ⟨Nat.le_of_ble_eq_true rfl, Nat.le_of_ble_eq_true rfl⟩) (fun z3 H locs hG => ?_)
  have hG : BW D κ (([(o, .inl (κ.2.1, 1, .inr (.inl (va_up (fun _ => 0) ((0 : Int32).toNatClampNeg) 0)))), (b 1, .inl (κ.1, 4, .inl (fun _ => 1000))), (b 2, .inr (10, [.int 0, .ref E0, .int 0])), (b 3, .inr (10, [.int 0, .ref E0, .int 0])), (b 4, .inr (10, [.int 0, .ref E0, .int 0])), (b 5, .inr (10, [.int 0, .ref E0, .int 0])), (b 6, .inr (10, [.int 0, .ref E0, .int 0])), (b 7, .inr (10, [.int 0, .ref E0, .int 0])), (b 8, .inr (10, [.int 0, .ref E0, .int 0]))]) ++ ([(b 0, .inr (9, [.int 0, .ref (b 1), .ref (b 2), .ref (b 3), .ref (b 4), .ref (b 5), .ref (b 6), .ref (b 7), .null, .int 0, .int (-1), .int 0, .int 0, .int 0, .ref (b 8)]))])) _ s H locs := hG
  refine lv_iload hx hb dL_law_1771 (lv_at hl 1 rfl) ?_
  refine lv_icmp_eq (tgt := 1778) hx hb dL_law_1773 (by decide) (fun _ => ?_) (fun h1773 => absurd (by decide) h1773)
  refine lv_iload hx hb dL_law_1778 (lv_at hl 1 rfl) ?_
  refine lv_if_ne (tgt := 1794) hx hb dL_law_1780 (by decide) (fun h1780 => absurd (by decide) h1780) (fun _ => ?_)
  refine lv_aload_n hx hb dL_law_1783 rfl (lv_at hl 3 rfl) ?_
  refine lv_iconst (v := 0) hx hb dL_law_1784 (by decide) ?_
  refine zs_lld 0 (v := 0) hC hG rfl (vp_box (by have e0 : (0 : Int32).toInt = 0 := (by decide); omega) (by have e0 : (0 : Int32).toInt = 0 := (by decide); omega)) rfl dL_law_1785 ?_
  refine lv_lload hx hb dL_law_1786 (lv_at hl 0 rfl) ?_
  refine bl_eq (tgt := 1794) hx hb dL_law_1788 dL_law_1789 (by decide) (fun _ => ?_) (fun h9 => absurd (rfl) h9)
  refine lv_goto (tgt := 2042) hx hb dL_law_1794 (by decide) ?_
  refine lv_iinc (v := 4) (lv' := [(4, .int 4), (6, .long 0), (5, .int 0), (3, .ref o), (2, .ref (b 0)), (1, .ref (a 0)), (0, .ref sb)]) hx hb dL_law_2042 hl (k := 2) rfl (by decide) (by decide) rfl (fun ls hl => ?_)
  refine lv_goto (tgt := 23) hx hb dL_law_2045 (by decide) ?_
  refine lv_iload hx hb dL_law_23 (lv_at hl 0 rfl) ?_
  refine lv_aload_n hx hb dL_law_25 rfl (lv_at hl 6 rfl) ?_
  refine va_slen hx hb hX hbl (Nat.not_le_of_lt hbl) hG.2.2.2.1 dL_law_26 ?_
  refine W.eq (g2 := F0 m 27 ls [.int 4, .int 4]) (by rw [hL4]; rfl) ?_
  refine lv_iconst (v := 4) hx hb dL_law_27 (by decide) ?_
  refine lv_isub hx hb dL_law_28 ?_
  refine W.eq (g2 := F0 m 29 ls [.int 0, .int 4]) rfl ?_
  refine lv_icmp_gt (tgt := 2048) hx hb dL_law_29 (by decide) (fun _ => ?_) (fun h29 => absurd (by decide) h29)
  refine lv_iconst (v := 1) hx hb dL_law_2048 (by decide) ?_
  refine W.widen (k := 600002) (n := 7302232) (Nat.le_of_ble_eq_true rfl) (Nat.le_of_ble_eq_true rfl) ?_
  refine va_forget (fun q hq => hG.2.2.2.1.2.2 q hq) ?_
  refine W.base ?_
  exact lw_ret (Drawn.sameBut.refl s.drawn lw_cs) hx hb hr hlocks dL_law_2049
theorem dL_law_1932 : decode code 1932 = .ok (.aload_n 1, 1) := by decide +kernel
theorem dL_law_1933 : decode code 1933 = .ok (.aload_n 0, 1) := by decide +kernel
theorem dL_law_1934 : decode code 1934 = .ok (.iload 4, 2) := by decide +kernel
theorem dL_law_1936 : decode code 1936 = .ok (.iconst 1, 1) := by decide +kernel
theorem dL_law_1937 : decode code 1937 = .ok (.iadd, 1) := by decide +kernel
theorem dL_law_1938 : decode code 1938 = .ok (.iaload, 1) := by decide +kernel
theorem dL_law_1939 : decode code 1939 = .ok (.aload_n 3, 1) := by decide +kernel
theorem dL_law_1940 : decode code 1940 = .ok (.invokestatic 204, 3) := by decide +kernel
theorem dL_law_1943 : decode code 1943 = .ok (.istore 5, 2) := by decide +kernel
theorem dL_law_1945 : decode code 1945 = .ok (.aload_n 2, 1) := by decide +kernel
theorem dL_law_1946 : decode code 1946 = .ok (.aload_n 0, 1) := by decide +kernel
theorem dL_law_1947 : decode code 1947 = .ok (.iload 4, 2) := by decide +kernel
theorem dL_law_1949 : decode code 1949 = .ok (.iconst 1, 1) := by decide +kernel
theorem dL_law_1950 : decode code 1950 = .ok (.iadd, 1) := by decide +kernel
theorem dL_law_1951 : decode code 1951 = .ok (.iaload, 1) := by decide +kernel
theorem dL_law_1952 : decode code 1952 = .ok (.invokevirtual 206, 3) := by decide +kernel
theorem dL_law_1955 : decode code 1955 = .ok (.lstore 6, 2) := by decide +kernel
theorem dL_law_1957 : decode code 1957 = .ok (.aload_n 2, 1) := by decide +kernel
theorem dL_law_1958 : decode code 1958 = .ok (.invokevirtual 116, 3) := by decide +kernel
theorem dL_law_1961 : decode code 1961 = .ok (.iload 5, 2) := by decide +kernel
theorem dL_law_1963 : decode code 1963 = .ok (.if_icmp .eq 5, 3) := by decide +kernel
theorem dL_law_1968 : decode code 1968 = .ok (.iload 5, 2) := by decide +kernel
theorem dL_law_1970 : decode code 1970 = .ok (.ifCond .ne 14, 3) := by decide +kernel
theorem dL_law_1984 : decode code 1984 = .ok (.goto 58, 3) := by decide +kernel
set_option maxHeartbeats 4000000 in
set_option maxRecDepth 100000 in
theorem leaf_55 {p : Program} {e : Env} {s : State} {m : MethodId} {below : List Frame} {meth : Method} {c : Code} (l : Launch) (hst : l.stackTraces = false) {D : va_G} {κ : K4} {E0 : Nat} {a b : Nat → Nat} {o sb L : Nat} {xs : Nat → Int32} (hC : CallFix p m c code 9 s #[Value.ref sb] WALL RL) (hr : meth.sig.returnType = ret) (hlocks : meth.locks = false) (hX : va_X sb L xs s s.heap) (hbl : sb < s.heap.size) (hL4 : L = 4) (hE : EA E0 D κ (fun q => s.heap.size ≤ q) s s.heap) (hT : ET s) (k_1 : -2147483648 ≤ (xs 1).toInt ∧ (xs 1).toInt ≤ -1) (H : Heap) (locs : List Loc) (hG : BW D κ ((xw κ a ++ [(o, .inl (κ.2.1, 1, .inr (.inl (fun _ => 0))))]) ++ mw κ b E0 0) (fun q => s.heap.size ≤ q) s H locs) (ls : Array Slot) (hl : lv_has ls 9 [(4, .int 0), (3, .ref o), (2, .ref (b 0)), (1, .ref (a 0)), (0, .ref sb)]) : W p l e room_1 s m #[Value.ref sb] below meth c H locs 100 6000 (lw_Z below #[Value.ref sb] s) (F0 m 1932 ls []) := by
  have hx := hC.1
  have hb := hC.2.1
  refine lv_aload_n hx hb dL_law_1932 rfl (lv_at hl 3 rfl) ?_
  refine lv_aload_n hx hb dL_law_1933 rfl (lv_at hl 4 rfl) ?_
  refine lv_iload hx hb dL_law_1934 (lv_at hl 0 rfl) ?_
  refine lv_iconst (v := 1) hx hb dL_law_1936 (by decide) ?_
  refine lv_iadd hx hb dL_law_1937 ?_
  refine W.eq (g2 := F0 m 1938 ls [.int 1, .ref sb, .ref (a 0)]) rfl ?_
  refine va_sld hx hb hX hbl (Nat.not_le_of_lt hbl) hG.2.2.2.1 (vp_box (by decide) (by rw [hL4]; decide)) dL_law_1938 ?_
  refine W.eq (g2 := F0 m 1939 ls [.int (xs 1), .ref (a 0)]) rfl ?_
  refine lv_aload_n hx hb dL_law_1939 rfl (lv_at hl 1 rfl) ?_
  have cut1940 : Cut ((xw κ a ++ [(o, .inl (κ.2.1, 1, .inr (.inl (fun _ => 0))))]) ++ mw κ b E0 0) ([(a 0, .inr (7, [.ref (a 1), .ref (a 7), .ref (a 12), .ref (a 23), .ref (a 28), .ref (a 33), .ref (a 37), .ref (a 41), .int (-1), .int 0])), (a 1, .inr (0, [.ref (a 2), .ref (a 3), .ref (a 4), .ref (a 5), .ref (a 6), .int 0])), (a 2, .inl (κ.1, 4, .inl (fun _ => 1000))), (a 3, .inl (κ.1, 10, .inl (fun _ => 0))), (a 4, .inl (κ.1, 10, .inl (fun _ => 0))), (a 5, .inl (κ.1, 10, .inl (fun _ => 0))), (a 6, .inl (κ.2.2.1, 10, .inl (fun _ => 0))), (a 7, .inr (1, [.ref (a 8), .int 0, .int 0, .int 0])), (a 8, .inr (4, [.ref (a 9), .ref (a 10), .ref (a 11), .int 0])), (a 9, .inl (κ.1, 10, .inl (fun _ => 0))), (a 10, .inl (κ.2.1, 10, .inr (.inl (fun _ => 0)))), (a 11, .inl (κ.2.1, 10, .inr (.inl (fun _ => 0)))), (a 12, .inr (3, [.ref (a 13), .ref (a 14), .ref (a 15), .ref (a 16), .ref (a 17), .ref (a 18), .int 0, .ref (a 19), .ref (a 20), .ref (a 21), .ref (a 22), .int 0])), (a 13, .inl (κ.1, 60, .inl (fun _ => 0))), (a 14, .inl (κ.1, 60, .inl (fun _ => 0))), (a 15, .inl (κ.1, 60, .inl (fun _ => 0))), (a 16, .inl (κ.1, 60, .inl (fun _ => 0))), (a 17, .inl (κ.2.2.1, 60, .inl (fun _ => 0))), (a 18, .inl (κ.2.2.1, 60, .inl (fun _ => 0))), (a 19, .inl (κ.1, 600, .inl (fun _ => 0))), (a 20, .inl (κ.1, 600, .inl (fun _ => 0))), (a 21, .inl (κ.2.1, 600, .inr (.inl (fun _ => 0)))), (a 22, .inl (κ.2.1, 600, .inr (.inl (fun _ => 0)))), (a 23, .inr (2, [.ref (a 24), .ref (a 25), .ref (a 26), .ref (a 27), .int 0])), (a 24, .inl (κ.1, 20, .inl (fun _ => 0))), (a 25, .inl (κ.1, 20, .inl (fun _ => 0))), (a 26, .inl (κ.1, 20, .inl (fun _ => 0))), (a 27, .inl (κ.2.2.1, 20, .inl (fun _ => 0))), (a 28, .inr (5, [.ref (a 29), .ref (a 30), .ref (a 31), .ref (a 32), .int 0])), (a 29, .inl (κ.1, 40, .inl (fun _ => 0))), (a 30, .inl (κ.1, 40, .inl (fun _ => 0))), (a 31, .inl (κ.1, 40, .inl (fun _ => 0))), (a 32, .inl (κ.1, 40, .inl (fun _ => 0))), (a 33, .inr (6, [.ref (a 12), .ref (a 28), .ref (a 34), .ref (a 35), .ref (a 36)])), (a 34, .inl (κ.1, 600, .inl (fun _ => (-1)))), (a 35, .inl (κ.1, 40, .inl (fun _ => (-1)))), (a 36, .inl (κ.1, 40, .inl (fun _ => (-1)))), (a 37, .inr (6, [.ref (a 12), .ref (a 28), .ref (a 38), .ref (a 39), .ref (a 40)])), (a 38, .inl (κ.1, 600, .inl (fun _ => (-1)))), (a 39, .inl (κ.1, 40, .inl (fun _ => (-1)))), (a 40, .inl (κ.1, 40, .inl (fun _ => (-1)))), (a 41, .inr (4, [.ref (a 42), .ref (a 43), .ref (a 44), .int 0])), (a 42, .inl (κ.1, 10, .inl (fun _ => 0))), (a 43, .inl (κ.2.1, 10, .inr (.inl (fun _ => 0)))), (a 44, .inl (κ.2.1, 10, .inr (.inl (fun _ => 0)))), (o, .inl (κ.2.1, 1, .inr (.inl (fun _ => 0))))]) ([(b 0, .inr (9, [.int 0, .ref (b 1), .ref (b 2), .ref (b 3), .ref (b 4), .ref (b 5), .ref (b 6), .ref (b 7), .null, .int 0, .int (-1), .int 0, .int 0, .int 0, .ref (b 8)])), (b 1, .inl (κ.1, 4, .inl (fun _ => 1000))), (b 2, .inr (10, [.int 0, .ref E0, .int 0])), (b 3, .inr (10, [.int 0, .ref E0, .int 0])), (b 4, .inr (10, [.int 0, .ref E0, .int 0])), (b 5, .inr (10, [.int 0, .ref E0, .int 0])), (b 6, .inr (10, [.int 0, .ref E0, .int 0])), (b 7, .inr (10, [.int 0, .ref E0, .int 0])), (b 8, .inr (10, [.int 0, .ref E0, .int 0]))]) := (Cut.idx [0, 1, 2, 3, 4, 5, 6, 7, 8, 9, 10, 11, 12, 13, 14, 15, 16, 17, 18, 19, 20, 21, 22, 23, 24, 25, 26, 27, 28, 29, 30, 31, 32, 33, 34, 35, 36, 37, 38, 39, 40, 41, 42, 43, 44, 45] [46, 47, 48, 49, 50, 51, 52, 53, 54] rfl rfl (by decide) (by decide) (by decide))
  refine zc_i hG cut1940 (zr_H (n := 3) (As := [.ref (a 0), .int (xs 1), .ref o]) (rest := []) hC hG hE hT cut1940 (z_246_wouldClose l hst D κ E0 H.size a (xs 1) o ⟨by omega, by omega⟩) w1171 w143 w1173 w1172 (by decide +kernel) ⟨Nat.le_of_ble_eq_true rfl, Nat.le_of_ble_eq_true rfl⟩ rfl hl.1 rfl (Nat.le_of_ble_eq_true rfl) dL_law_1940 ⟨Nat.le_of_ble_eq_true rfl, Nat.le_of_ble_eq_true rfl⟩) (fun z1 H locs hG => ?_)
  have hG : BW D κ (([(b 0, .inr (9, [.int 0, .ref (b 1), .ref (b 2), .ref (b 3), .ref (b 4), .ref (b 5), .ref (b 6), .ref (b 7), .null, .int 0, .int (-1), .int 0, .int 0, .int 0, .ref (b 8)])), (b 1, .inl (κ.1, 4, .inl (fun _ => 1000))), (b 2, .inr (10, [.int 0, .ref E0, .int 0])), (b 3, .inr (10, [.int 0, .ref E0, .int 0])), (b 4, .inr (10, [.int 0, .ref E0, .int 0])), (b 5, .inr (10, [.int 0, .ref E0, .int 0])), (b 6, .inr (10, [.int 0, .ref E0, .int 0])), (b 7, .inr (10, [.int 0, .ref E0, .int 0])), (b 8, .inr (10, [.int 0, .ref E0, .int 0]))]) ++ ([(o, .inl (κ.2.1, 1, .inr (.inl (fun _ => 0))))])) _ s H locs := hG
  refine lv_istore (lv' := [(5, .int 1), (4, .int 0), (3, .ref o), (2, .ref (b 0)), (1, .ref (a 0)), (0, .ref sb)]) hx hb dL_law_1943 hl (by decide) rfl (fun ls hl => ?_)
  refine lv_aload_n hx hb dL_law_1945 rfl (lv_at hl 3 rfl) ?_
  refine lv_aload_n hx hb dL_law_1946 rfl (lv_at hl 5 rfl) ?_
  refine lv_iload hx hb dL_law_1947 (lv_at hl 1 rfl) ?_
  refine lv_iconst (v := 1) hx hb dL_law_1949 (by decide) ?_
  refine lv_iadd hx hb dL_law_1950 ?_
  refine W.eq (g2 := F0 m 1951 ls [.int 1, .ref sb, .ref (b 0)]) rfl ?_
  refine va_sld hx hb hX hbl (Nat.not_le_of_lt hbl) hG.2.2.2.1 (vp_box (by decide) (by rw [hL4]; decide)) dL_law_1951 ?_
  refine W.eq (g2 := F0 m 1952 ls [.int (xs 1), .ref (b 0)]) rfl ?_
  have cut1952 : Cut (([(b 0, .inr (9, [.int 0, .ref (b 1), .ref (b 2), .ref (b 3), .ref (b 4), .ref (b 5), .ref (b 6), .ref (b 7), .null, .int 0, .int (-1), .int 0, .int 0, .int 0, .ref (b 8)])), (b 1, .inl (κ.1, 4, .inl (fun _ => 1000))), (b 2, .inr (10, [.int 0, .ref E0, .int 0])), (b 3, .inr (10, [.int 0, .ref E0, .int 0])), (b 4, .inr (10, [.int 0, .ref E0, .int 0])), (b 5, .inr (10, [.int 0, .ref E0, .int 0])), (b 6, .inr (10, [.int 0, .ref E0, .int 0])), (b 7, .inr (10, [.int 0, .ref E0, .int 0])), (b 8, .inr (10, [.int 0, .ref E0, .int 0]))]) ++ ([(o, .inl (κ.2.1, 1, .inr (.inl (fun _ => 0))))])) (mw κ b E0 0) ([(o, .inl (κ.2.1, 1, .inr (.inl (fun _ => 0))))]) := (Cut.idx [0, 1, 2, 3, 4, 5, 6, 7, 8] [9] rfl rfl (by decide) (by decide) (by decide))
  refine zc_l hG cut1952 (zr_V (k := 0) (ci := 9) (n := 1) (As := [.int (xs 1)]) (rest := []) hC hG hE hT cut1952 (z_247_wouldClose l hst D κ E0 H.size b (xs 1) ⟨by omega, by omega⟩) rfl rfl w1178 w5 w1181 w1179 w1180 (by decide +kernel) ⟨Nat.le_of_ble_eq_true rfl, Nat.le_of_ble_eq_true rfl⟩ rfl hl.1 rfl (Nat.le_of_ble_eq_true rfl) dL_law_1952 ⟨Nat.le_of_ble_eq_true rfl, Nat.le_of_ble_eq_true rfl⟩) (fun z2 H locs hG => ?_)
  have hG : BW D κ (([(o, .inl (κ.2.1, 1, .inr (.inl (fun _ => 0))))]) ++ (mw κ b E0 1)) _ s H locs := hG
  refine lv_lstore (lv' := [(6, .long 0), (5, .int 1), (4, .int 0), (3, .ref o), (2, .ref (b 0)), (1, .ref (a 0)), (0, .ref sb)]) hx hb dL_law_1955 hl (by decide) rfl (fun ls hl => ?_)
  refine lv_aload_n hx hb dL_law_1957 rfl (lv_at hl 4 rfl) ?_
  have cut1958 : Cut (([(o, .inl (κ.2.1, 1, .inr (.inl (fun _ => 0))))]) ++ (mw κ b E0 1)) ([(b 0, .inr (9, [.int 1, .ref (b 1), .ref (b 2), .ref (b 3), .ref (b 4), .ref (b 5), .ref (b 6), .ref (b 7), .null, .int 0, .int (-1), .int 0, .int 0, .int 0, .ref (b 8)]))]) ([(o, .inl (κ.2.1, 1, .inr (.inl (fun _ => 0)))), (b 1, .inl (κ.1, 4, .inl (fun _ => 1000))), (b 2, .inr (10, [.int 0, .ref E0, .int 0])), (b 3, .inr (10, [.int 0, .ref E0, .int 0])), (b 4, .inr (10, [.int 0, .ref E0, .int 0])), (b 5, .inr (10, [.int 0, .ref E0, .int 0])), (b 6, .inr (10, [.int 0, .ref E0, .int 0])), (b 7, .inr (10, [.int 0, .ref E0, .int 0])), (b 8, .inr (10, [.int 0, .ref E0, .int 0]))]) := (Cut.idx [1] [0, 2, 3, 4, 5, 6, 7, 8, 9] rfl rfl (by decide) (by decide) (by decide))
  refine zc_i hG cut1958 (zr_V (k := 1) (ci := 9) (n := 0) (As := []) (rest := []) hC hG hE hT cut1958 (z_6_thrown l hst D κ E0 H.size b) rfl rfl w200 w5 w203 w201 w202 (by decide +kernel) ⟨Nat.le_of_ble_eq_true rfl, Nat.le_of_ble_eq_true rfl⟩ rfl hl.1 rfl (Nat.le_of_ble_eq_true rfl) dL_law_1958 ⟨Nat.le_of_ble_eq_true rfl, Nat.le_of_ble_eq_true rfl⟩) (fun z3 H locs hG => ?_)
  have hG : BW D κ (([(o, .inl (κ.2.1, 1, .inr (.inl (fun _ => 0)))), (b 1, .inl (κ.1, 4, .inl (fun _ => 1000))), (b 2, .inr (10, [.int 0, .ref E0, .int 0])), (b 3, .inr (10, [.int 0, .ref E0, .int 0])), (b 4, .inr (10, [.int 0, .ref E0, .int 0])), (b 5, .inr (10, [.int 0, .ref E0, .int 0])), (b 6, .inr (10, [.int 0, .ref E0, .int 0])), (b 7, .inr (10, [.int 0, .ref E0, .int 0])), (b 8, .inr (10, [.int 0, .ref E0, .int 0]))]) ++ ([(b 0, .inr (9, [.int 1, .ref (b 1), .ref (b 2), .ref (b 3), .ref (b 4), .ref (b 5), .ref (b 6), .ref (b 7), .null, .int 0, .int (-1), .int 0, .int 0, .int 0, .ref (b 8)]))])) _ s H locs := hG
  refine lv_iload hx hb dL_law_1961 (lv_at hl 1 rfl) ?_
  refine lv_icmp_eq (tgt := 1968) hx hb dL_law_1963 (by decide) (fun _ => ?_) (fun h1963 => absurd (by decide) h1963)
  refine lv_iload hx hb dL_law_1968 (lv_at hl 1 rfl) ?_
  refine lv_if_ne (tgt := 1984) hx hb dL_law_1970 (by decide) (fun _ => ?_) (fun h1970 => absurd h1970 (by decide))
  refine lv_goto (tgt := 2042) hx hb dL_law_1984 (by decide) ?_
  refine lv_iinc (v := 4) (lv' := [(4, .int 4), (6, .long 0), (5, .int 1), (3, .ref o), (2, .ref (b 0)), (1, .ref (a 0)), (0, .ref sb)]) hx hb dL_law_2042 hl (k := 2) rfl (by decide) (by decide) rfl (fun ls hl => ?_)
  refine lv_goto (tgt := 23) hx hb dL_law_2045 (by decide) ?_
  refine lv_iload hx hb dL_law_23 (lv_at hl 0 rfl) ?_
  refine lv_aload_n hx hb dL_law_25 rfl (lv_at hl 6 rfl) ?_
  refine va_slen hx hb hX hbl (Nat.not_le_of_lt hbl) hG.2.2.2.1 dL_law_26 ?_
  refine W.eq (g2 := F0 m 27 ls [.int 4, .int 4]) (by rw [hL4]; rfl) ?_
  refine lv_iconst (v := 4) hx hb dL_law_27 (by decide) ?_
  refine lv_isub hx hb dL_law_28 ?_
  refine W.eq (g2 := F0 m 29 ls [.int 0, .int 4]) rfl ?_
  refine lv_icmp_gt (tgt := 2048) hx hb dL_law_29 (by decide) (fun _ => ?_) (fun h29 => absurd (by decide) h29)
  refine lv_iconst (v := 1) hx hb dL_law_2048 (by decide) ?_
  refine W.widen (k := 600002) (n := 7302232) (Nat.le_of_ble_eq_true rfl) (Nat.le_of_ble_eq_true rfl) ?_
  refine va_forget (fun q hq => hG.2.2.2.1.2.2 q hq) ?_
  refine W.base ?_
  exact lw_ret (Drawn.sameBut.refl s.drawn lw_cs) hx hb hr hlocks dL_law_2049
set_option maxHeartbeats 4000000 in
set_option maxRecDepth 100000 in
theorem leaf_56 {p : Program} {e : Env} {s : State} {m : MethodId} {below : List Frame} {meth : Method} {c : Code} (l : Launch) (hst : l.stackTraces = false) {D : va_G} {κ : K4} {E0 : Nat} {a b : Nat → Nat} {o sb L : Nat} {xs : Nat → Int32} (hC : CallFix p m c code 9 s #[Value.ref sb] WALL RL) (hr : meth.sig.returnType = ret) (hlocks : meth.locks = false) (hX : va_X sb L xs s s.heap) (hbl : sb < s.heap.size) (hL4 : L = 4) (hE : EA E0 D κ (fun q => s.heap.size ≤ q) s s.heap) (hT : ET s) (k_1 : 365 ≤ (xs 1).toInt ∧ (xs 1).toInt ≤ 2147483647) (H : Heap) (locs : List Loc) (hG : BW D κ ((xw κ a ++ [(o, .inl (κ.2.1, 1, .inr (.inl (fun _ => 0))))]) ++ mw κ b E0 0) (fun q => s.heap.size ≤ q) s H locs) (ls : Array Slot) (hl : lv_has ls 9 [(4, .int 0), (3, .ref o), (2, .ref (b 0)), (1, .ref (a 0)), (0, .ref sb)]) : W p l e room_1 s m #[Value.ref sb] below meth c H locs 100 6000 (lw_Z below #[Value.ref sb] s) (F0 m 1932 ls []) := by
  have hx := hC.1
  have hb := hC.2.1
  refine lv_aload_n hx hb dL_law_1932 rfl (lv_at hl 3 rfl) ?_
  refine lv_aload_n hx hb dL_law_1933 rfl (lv_at hl 4 rfl) ?_
  refine lv_iload hx hb dL_law_1934 (lv_at hl 0 rfl) ?_
  refine lv_iconst (v := 1) hx hb dL_law_1936 (by decide) ?_
  refine lv_iadd hx hb dL_law_1937 ?_
  refine W.eq (g2 := F0 m 1938 ls [.int 1, .ref sb, .ref (a 0)]) rfl ?_
  refine va_sld hx hb hX hbl (Nat.not_le_of_lt hbl) hG.2.2.2.1 (vp_box (by decide) (by rw [hL4]; decide)) dL_law_1938 ?_
  refine W.eq (g2 := F0 m 1939 ls [.int (xs 1), .ref (a 0)]) rfl ?_
  refine lv_aload_n hx hb dL_law_1939 rfl (lv_at hl 1 rfl) ?_
  have cut1940 : Cut ((xw κ a ++ [(o, .inl (κ.2.1, 1, .inr (.inl (fun _ => 0))))]) ++ mw κ b E0 0) ([(a 0, .inr (7, [.ref (a 1), .ref (a 7), .ref (a 12), .ref (a 23), .ref (a 28), .ref (a 33), .ref (a 37), .ref (a 41), .int (-1), .int 0])), (a 1, .inr (0, [.ref (a 2), .ref (a 3), .ref (a 4), .ref (a 5), .ref (a 6), .int 0])), (a 2, .inl (κ.1, 4, .inl (fun _ => 1000))), (a 3, .inl (κ.1, 10, .inl (fun _ => 0))), (a 4, .inl (κ.1, 10, .inl (fun _ => 0))), (a 5, .inl (κ.1, 10, .inl (fun _ => 0))), (a 6, .inl (κ.2.2.1, 10, .inl (fun _ => 0))), (a 7, .inr (1, [.ref (a 8), .int 0, .int 0, .int 0])), (a 8, .inr (4, [.ref (a 9), .ref (a 10), .ref (a 11), .int 0])), (a 9, .inl (κ.1, 10, .inl (fun _ => 0))), (a 10, .inl (κ.2.1, 10, .inr (.inl (fun _ => 0)))), (a 11, .inl (κ.2.1, 10, .inr (.inl (fun _ => 0)))), (a 12, .inr (3, [.ref (a 13), .ref (a 14), .ref (a 15), .ref (a 16), .ref (a 17), .ref (a 18), .int 0, .ref (a 19), .ref (a 20), .ref (a 21), .ref (a 22), .int 0])), (a 13, .inl (κ.1, 60, .inl (fun _ => 0))), (a 14, .inl (κ.1, 60, .inl (fun _ => 0))), (a 15, .inl (κ.1, 60, .inl (fun _ => 0))), (a 16, .inl (κ.1, 60, .inl (fun _ => 0))), (a 17, .inl (κ.2.2.1, 60, .inl (fun _ => 0))), (a 18, .inl (κ.2.2.1, 60, .inl (fun _ => 0))), (a 19, .inl (κ.1, 600, .inl (fun _ => 0))), (a 20, .inl (κ.1, 600, .inl (fun _ => 0))), (a 21, .inl (κ.2.1, 600, .inr (.inl (fun _ => 0)))), (a 22, .inl (κ.2.1, 600, .inr (.inl (fun _ => 0)))), (a 23, .inr (2, [.ref (a 24), .ref (a 25), .ref (a 26), .ref (a 27), .int 0])), (a 24, .inl (κ.1, 20, .inl (fun _ => 0))), (a 25, .inl (κ.1, 20, .inl (fun _ => 0))), (a 26, .inl (κ.1, 20, .inl (fun _ => 0))), (a 27, .inl (κ.2.2.1, 20, .inl (fun _ => 0))), (a 28, .inr (5, [.ref (a 29), .ref (a 30), .ref (a 31), .ref (a 32), .int 0])), (a 29, .inl (κ.1, 40, .inl (fun _ => 0))), (a 30, .inl (κ.1, 40, .inl (fun _ => 0))), (a 31, .inl (κ.1, 40, .inl (fun _ => 0))), (a 32, .inl (κ.1, 40, .inl (fun _ => 0))), (a 33, .inr (6, [.ref (a 12), .ref (a 28), .ref (a 34), .ref (a 35), .ref (a 36)])), (a 34, .inl (κ.1, 600, .inl (fun _ => (-1)))), (a 35, .inl (κ.1, 40, .inl (fun _ => (-1)))), (a 36, .inl (κ.1, 40, .inl (fun _ => (-1)))), (a 37, .inr (6, [.ref (a 12), .ref (a 28), .ref (a 38), .ref (a 39), .ref (a 40)])), (a 38, .inl (κ.1, 600, .inl (fun _ => (-1)))), (a 39, .inl (κ.1, 40, .inl (fun _ => (-1)))), (a 40, .inl (κ.1, 40, .inl (fun _ => (-1)))), (a 41, .inr (4, [.ref (a 42), .ref (a 43), .ref (a 44), .int 0])), (a 42, .inl (κ.1, 10, .inl (fun _ => 0))), (a 43, .inl (κ.2.1, 10, .inr (.inl (fun _ => 0)))), (a 44, .inl (κ.2.1, 10, .inr (.inl (fun _ => 0)))), (o, .inl (κ.2.1, 1, .inr (.inl (fun _ => 0))))]) ([(b 0, .inr (9, [.int 0, .ref (b 1), .ref (b 2), .ref (b 3), .ref (b 4), .ref (b 5), .ref (b 6), .ref (b 7), .null, .int 0, .int (-1), .int 0, .int 0, .int 0, .ref (b 8)])), (b 1, .inl (κ.1, 4, .inl (fun _ => 1000))), (b 2, .inr (10, [.int 0, .ref E0, .int 0])), (b 3, .inr (10, [.int 0, .ref E0, .int 0])), (b 4, .inr (10, [.int 0, .ref E0, .int 0])), (b 5, .inr (10, [.int 0, .ref E0, .int 0])), (b 6, .inr (10, [.int 0, .ref E0, .int 0])), (b 7, .inr (10, [.int 0, .ref E0, .int 0])), (b 8, .inr (10, [.int 0, .ref E0, .int 0]))]) := (Cut.idx [0, 1, 2, 3, 4, 5, 6, 7, 8, 9, 10, 11, 12, 13, 14, 15, 16, 17, 18, 19, 20, 21, 22, 23, 24, 25, 26, 27, 28, 29, 30, 31, 32, 33, 34, 35, 36, 37, 38, 39, 40, 41, 42, 43, 44, 45] [46, 47, 48, 49, 50, 51, 52, 53, 54] rfl rfl (by decide) (by decide) (by decide))
  refine zc_i hG cut1940 (zr_H (n := 3) (As := [.ref (a 0), .int (xs 1), .ref o]) (rest := []) hC hG hE hT cut1940 (z_249_wouldClose l hst D κ E0 H.size a (xs 1) o ⟨by omega, by omega⟩) w1171 w143 w1173 w1172 (by decide +kernel) ⟨Nat.le_of_ble_eq_true rfl, Nat.le_of_ble_eq_true rfl⟩ rfl hl.1 rfl (Nat.le_of_ble_eq_true rfl) dL_law_1940 ⟨Nat.le_of_ble_eq_true rfl, Nat.le_of_ble_eq_true rfl⟩) (fun z1 H locs hG => ?_)
  have hG : BW D κ (([(b 0, .inr (9, [.int 0, .ref (b 1), .ref (b 2), .ref (b 3), .ref (b 4), .ref (b 5), .ref (b 6), .ref (b 7), .null, .int 0, .int (-1), .int 0, .int 0, .int 0, .ref (b 8)])), (b 1, .inl (κ.1, 4, .inl (fun _ => 1000))), (b 2, .inr (10, [.int 0, .ref E0, .int 0])), (b 3, .inr (10, [.int 0, .ref E0, .int 0])), (b 4, .inr (10, [.int 0, .ref E0, .int 0])), (b 5, .inr (10, [.int 0, .ref E0, .int 0])), (b 6, .inr (10, [.int 0, .ref E0, .int 0])), (b 7, .inr (10, [.int 0, .ref E0, .int 0])), (b 8, .inr (10, [.int 0, .ref E0, .int 0]))]) ++ ([(o, .inl (κ.2.1, 1, .inr (.inl (fun _ => 0))))])) _ s H locs := hG
  refine lv_istore (lv' := [(5, .int 1), (4, .int 0), (3, .ref o), (2, .ref (b 0)), (1, .ref (a 0)), (0, .ref sb)]) hx hb dL_law_1943 hl (by decide) rfl (fun ls hl => ?_)
  refine lv_aload_n hx hb dL_law_1945 rfl (lv_at hl 3 rfl) ?_
  refine lv_aload_n hx hb dL_law_1946 rfl (lv_at hl 5 rfl) ?_
  refine lv_iload hx hb dL_law_1947 (lv_at hl 1 rfl) ?_
  refine lv_iconst (v := 1) hx hb dL_law_1949 (by decide) ?_
  refine lv_iadd hx hb dL_law_1950 ?_
  refine W.eq (g2 := F0 m 1951 ls [.int 1, .ref sb, .ref (b 0)]) rfl ?_
  refine va_sld hx hb hX hbl (Nat.not_le_of_lt hbl) hG.2.2.2.1 (vp_box (by decide) (by rw [hL4]; decide)) dL_law_1951 ?_
  refine W.eq (g2 := F0 m 1952 ls [.int (xs 1), .ref (b 0)]) rfl ?_
  have cut1952 : Cut (([(b 0, .inr (9, [.int 0, .ref (b 1), .ref (b 2), .ref (b 3), .ref (b 4), .ref (b 5), .ref (b 6), .ref (b 7), .null, .int 0, .int (-1), .int 0, .int 0, .int 0, .ref (b 8)])), (b 1, .inl (κ.1, 4, .inl (fun _ => 1000))), (b 2, .inr (10, [.int 0, .ref E0, .int 0])), (b 3, .inr (10, [.int 0, .ref E0, .int 0])), (b 4, .inr (10, [.int 0, .ref E0, .int 0])), (b 5, .inr (10, [.int 0, .ref E0, .int 0])), (b 6, .inr (10, [.int 0, .ref E0, .int 0])), (b 7, .inr (10, [.int 0, .ref E0, .int 0])), (b 8, .inr (10, [.int 0, .ref E0, .int 0]))]) ++ ([(o, .inl (κ.2.1, 1, .inr (.inl (fun _ => 0))))])) (mw κ b E0 0) ([(o, .inl (κ.2.1, 1, .inr (.inl (fun _ => 0))))]) := (Cut.idx [0, 1, 2, 3, 4, 5, 6, 7, 8] [9] rfl rfl (by decide) (by decide) (by decide))
  refine zc_l hG cut1952 (zr_V (k := 0) (ci := 9) (n := 1) (As := [.int (xs 1)]) (rest := []) hC hG hE hT cut1952 (z_250_wouldClose l hst D κ E0 H.size b (xs 1) ⟨by omega, by omega⟩) rfl rfl w1178 w5 w1181 w1179 w1180 (by decide +kernel) ⟨Nat.le_of_ble_eq_true rfl, Nat.le_of_ble_eq_true rfl⟩ rfl hl.1 rfl (Nat.le_of_ble_eq_true rfl) dL_law_1952 ⟨Nat.le_of_ble_eq_true rfl, Nat.le_of_ble_eq_true rfl⟩) (fun z2 H locs hG => ?_)
  have hG : BW D κ (([(o, .inl (κ.2.1, 1, .inr (.inl (fun _ => 0))))]) ++ (mw κ b E0 1)) _ s H locs := hG
  refine lv_lstore (lv' := [(6, .long 0), (5, .int 1), (4, .int 0), (3, .ref o), (2, .ref (b 0)), (1, .ref (a 0)), (0, .ref sb)]) hx hb dL_law_1955 hl (by decide) rfl (fun ls hl => ?_)
  refine lv_aload_n hx hb dL_law_1957 rfl (lv_at hl 4 rfl) ?_
  have cut1958 : Cut (([(o, .inl (κ.2.1, 1, .inr (.inl (fun _ => 0))))]) ++ (mw κ b E0 1)) ([(b 0, .inr (9, [.int 1, .ref (b 1), .ref (b 2), .ref (b 3), .ref (b 4), .ref (b 5), .ref (b 6), .ref (b 7), .null, .int 0, .int (-1), .int 0, .int 0, .int 0, .ref (b 8)]))]) ([(o, .inl (κ.2.1, 1, .inr (.inl (fun _ => 0)))), (b 1, .inl (κ.1, 4, .inl (fun _ => 1000))), (b 2, .inr (10, [.int 0, .ref E0, .int 0])), (b 3, .inr (10, [.int 0, .ref E0, .int 0])), (b 4, .inr (10, [.int 0, .ref E0, .int 0])), (b 5, .inr (10, [.int 0, .ref E0, .int 0])), (b 6, .inr (10, [.int 0, .ref E0, .int 0])), (b 7, .inr (10, [.int 0, .ref E0, .int 0])), (b 8, .inr (10, [.int 0, .ref E0, .int 0]))]) := (Cut.idx [1] [0, 2, 3, 4, 5, 6, 7, 8, 9] rfl rfl (by decide) (by decide) (by decide))
  refine zc_i hG cut1958 (zr_V (k := 1) (ci := 9) (n := 0) (As := []) (rest := []) hC hG hE hT cut1958 (z_6_thrown l hst D κ E0 H.size b) rfl rfl w200 w5 w203 w201 w202 (by decide +kernel) ⟨Nat.le_of_ble_eq_true rfl, Nat.le_of_ble_eq_true rfl⟩ rfl hl.1 rfl (Nat.le_of_ble_eq_true rfl) dL_law_1958 ⟨Nat.le_of_ble_eq_true rfl, Nat.le_of_ble_eq_true rfl⟩) (fun z3 H locs hG => ?_)
  have hG : BW D κ (([(o, .inl (κ.2.1, 1, .inr (.inl (fun _ => 0)))), (b 1, .inl (κ.1, 4, .inl (fun _ => 1000))), (b 2, .inr (10, [.int 0, .ref E0, .int 0])), (b 3, .inr (10, [.int 0, .ref E0, .int 0])), (b 4, .inr (10, [.int 0, .ref E0, .int 0])), (b 5, .inr (10, [.int 0, .ref E0, .int 0])), (b 6, .inr (10, [.int 0, .ref E0, .int 0])), (b 7, .inr (10, [.int 0, .ref E0, .int 0])), (b 8, .inr (10, [.int 0, .ref E0, .int 0]))]) ++ ([(b 0, .inr (9, [.int 1, .ref (b 1), .ref (b 2), .ref (b 3), .ref (b 4), .ref (b 5), .ref (b 6), .ref (b 7), .null, .int 0, .int (-1), .int 0, .int 0, .int 0, .ref (b 8)]))])) _ s H locs := hG
  refine lv_iload hx hb dL_law_1961 (lv_at hl 1 rfl) ?_
  refine lv_icmp_eq (tgt := 1968) hx hb dL_law_1963 (by decide) (fun _ => ?_) (fun h1963 => absurd (by decide) h1963)
  refine lv_iload hx hb dL_law_1968 (lv_at hl 1 rfl) ?_
  refine lv_if_ne (tgt := 1984) hx hb dL_law_1970 (by decide) (fun _ => ?_) (fun h1970 => absurd h1970 (by decide))
  refine lv_goto (tgt := 2042) hx hb dL_law_1984 (by decide) ?_
  refine lv_iinc (v := 4) (lv' := [(4, .int 4), (6, .long 0), (5, .int 1), (3, .ref o), (2, .ref (b 0)), (1, .ref (a 0)), (0, .ref sb)]) hx hb dL_law_2042 hl (k := 2) rfl (by decide) (by decide) rfl (fun ls hl => ?_)
  refine lv_goto (tgt := 23) hx hb dL_law_2045 (by decide) ?_
  refine lv_iload hx hb dL_law_23 (lv_at hl 0 rfl) ?_
  refine lv_aload_n hx hb dL_law_25 rfl (lv_at hl 6 rfl) ?_
  refine va_slen hx hb hX hbl (Nat.not_le_of_lt hbl) hG.2.2.2.1 dL_law_26 ?_
  refine W.eq (g2 := F0 m 27 ls [.int 4, .int 4]) (by rw [hL4]; rfl) ?_
  refine lv_iconst (v := 4) hx hb dL_law_27 (by decide) ?_
  refine lv_isub hx hb dL_law_28 ?_
  refine W.eq (g2 := F0 m 29 ls [.int 0, .int 4]) rfl ?_
  refine lv_icmp_gt (tgt := 2048) hx hb dL_law_29 (by decide) (fun _ => ?_) (fun h29 => absurd (by decide) h29)
  refine lv_iconst (v := 1) hx hb dL_law_2048 (by decide) ?_
  refine W.widen (k := 600002) (n := 7302232) (Nat.le_of_ble_eq_true rfl) (Nat.le_of_ble_eq_true rfl) ?_
  refine va_forget (fun q hq => hG.2.2.2.1.2.2 q hq) ?_
  refine W.base ?_
  exact lw_ret (Drawn.sameBut.refl s.drawn lw_cs) hx hb hr hlocks dL_law_2049
theorem dL_law_1973 : decode code 1973 = .ok (.aload_n 3, 1) := by decide +kernel
theorem dL_law_1974 : decode code 1974 = .ok (.iconst 0, 1) := by decide +kernel
theorem dL_law_1975 : decode code 1975 = .ok (.laload, 1) := by decide +kernel
theorem dL_law_1976 : decode code 1976 = .ok (.lload 6, 2) := by decide +kernel
theorem dL_law_1978 : decode code 1978 = .ok (.lcmp, 1) := by decide +kernel
theorem dL_law_1979 : decode code 1979 = .ok (.ifCond .eq 5, 3) := by decide +kernel
set_option maxHeartbeats 4000000 in
set_option maxRecDepth 100000 in
theorem leaf_57 {p : Program} {e : Env} {s : State} {m : MethodId} {below : List Frame} {meth : Method} {c : Code} (l : Launch) (hst : l.stackTraces = false) {D : va_G} {κ : K4} {E0 : Nat} {a b : Nat → Nat} {o sb L : Nat} {xs : Nat → Int32} (hC : CallFix p m c code 9 s #[Value.ref sb] WALL RL) (hr : meth.sig.returnType = ret) (hlocks : meth.locks = false) (hX : va_X sb L xs s s.heap) (hbl : sb < s.heap.size) (hL4 : L = 4) (hE : EA E0 D κ (fun q => s.heap.size ≤ q) s s.heap) (hT : ET s) (k_1 : 0 ≤ (xs 1).toInt ∧ (xs 1).toInt ≤ 364) (H : Heap) (locs : List Loc) (hG : BW D κ ((xw κ a ++ [(o, .inl (κ.2.1, 1, .inr (.inl (fun _ => 0))))]) ++ mw κ b E0 0) (fun q => s.heap.size ≤ q) s H locs) (ls : Array Slot) (hl : lv_has ls 9 [(4, .int 0), (3, .ref o), (2, .ref (b 0)), (1, .ref (a 0)), (0, .ref sb)]) : W p l e room_1 s m #[Value.ref sb] below meth c H locs 100 6000 (lw_Z below #[Value.ref sb] s) (F0 m 1932 ls []) := by
  have hx := hC.1
  have hb := hC.2.1
  refine lv_aload_n hx hb dL_law_1932 rfl (lv_at hl 3 rfl) ?_
  refine lv_aload_n hx hb dL_law_1933 rfl (lv_at hl 4 rfl) ?_
  refine lv_iload hx hb dL_law_1934 (lv_at hl 0 rfl) ?_
  refine lv_iconst (v := 1) hx hb dL_law_1936 (by decide) ?_
  refine lv_iadd hx hb dL_law_1937 ?_
  refine W.eq (g2 := F0 m 1938 ls [.int 1, .ref sb, .ref (a 0)]) rfl ?_
  refine va_sld hx hb hX hbl (Nat.not_le_of_lt hbl) hG.2.2.2.1 (vp_box (by decide) (by rw [hL4]; decide)) dL_law_1938 ?_
  refine W.eq (g2 := F0 m 1939 ls [.int (xs 1), .ref (a 0)]) rfl ?_
  refine lv_aload_n hx hb dL_law_1939 rfl (lv_at hl 1 rfl) ?_
  have cut1940 : Cut ((xw κ a ++ [(o, .inl (κ.2.1, 1, .inr (.inl (fun _ => 0))))]) ++ mw κ b E0 0) ([(a 0, .inr (7, [.ref (a 1), .ref (a 7), .ref (a 12), .ref (a 23), .ref (a 28), .ref (a 33), .ref (a 37), .ref (a 41), .int (-1), .int 0])), (a 1, .inr (0, [.ref (a 2), .ref (a 3), .ref (a 4), .ref (a 5), .ref (a 6), .int 0])), (a 2, .inl (κ.1, 4, .inl (fun _ => 1000))), (a 3, .inl (κ.1, 10, .inl (fun _ => 0))), (a 4, .inl (κ.1, 10, .inl (fun _ => 0))), (a 5, .inl (κ.1, 10, .inl (fun _ => 0))), (a 6, .inl (κ.2.2.1, 10, .inl (fun _ => 0))), (a 7, .inr (1, [.ref (a 8), .int 0, .int 0, .int 0])), (a 8, .inr (4, [.ref (a 9), .ref (a 10), .ref (a 11), .int 0])), (a 9, .inl (κ.1, 10, .inl (fun _ => 0))), (a 10, .inl (κ.2.1, 10, .inr (.inl (fun _ => 0)))), (a 11, .inl (κ.2.1, 10, .inr (.inl (fun _ => 0)))), (a 12, .inr (3, [.ref (a 13), .ref (a 14), .ref (a 15), .ref (a 16), .ref (a 17), .ref (a 18), .int 0, .ref (a 19), .ref (a 20), .ref (a 21), .ref (a 22), .int 0])), (a 13, .inl (κ.1, 60, .inl (fun _ => 0))), (a 14, .inl (κ.1, 60, .inl (fun _ => 0))), (a 15, .inl (κ.1, 60, .inl (fun _ => 0))), (a 16, .inl (κ.1, 60, .inl (fun _ => 0))), (a 17, .inl (κ.2.2.1, 60, .inl (fun _ => 0))), (a 18, .inl (κ.2.2.1, 60, .inl (fun _ => 0))), (a 19, .inl (κ.1, 600, .inl (fun _ => 0))), (a 20, .inl (κ.1, 600, .inl (fun _ => 0))), (a 21, .inl (κ.2.1, 600, .inr (.inl (fun _ => 0)))), (a 22, .inl (κ.2.1, 600, .inr (.inl (fun _ => 0)))), (a 23, .inr (2, [.ref (a 24), .ref (a 25), .ref (a 26), .ref (a 27), .int 0])), (a 24, .inl (κ.1, 20, .inl (fun _ => 0))), (a 25, .inl (κ.1, 20, .inl (fun _ => 0))), (a 26, .inl (κ.1, 20, .inl (fun _ => 0))), (a 27, .inl (κ.2.2.1, 20, .inl (fun _ => 0))), (a 28, .inr (5, [.ref (a 29), .ref (a 30), .ref (a 31), .ref (a 32), .int 0])), (a 29, .inl (κ.1, 40, .inl (fun _ => 0))), (a 30, .inl (κ.1, 40, .inl (fun _ => 0))), (a 31, .inl (κ.1, 40, .inl (fun _ => 0))), (a 32, .inl (κ.1, 40, .inl (fun _ => 0))), (a 33, .inr (6, [.ref (a 12), .ref (a 28), .ref (a 34), .ref (a 35), .ref (a 36)])), (a 34, .inl (κ.1, 600, .inl (fun _ => (-1)))), (a 35, .inl (κ.1, 40, .inl (fun _ => (-1)))), (a 36, .inl (κ.1, 40, .inl (fun _ => (-1)))), (a 37, .inr (6, [.ref (a 12), .ref (a 28), .ref (a 38), .ref (a 39), .ref (a 40)])), (a 38, .inl (κ.1, 600, .inl (fun _ => (-1)))), (a 39, .inl (κ.1, 40, .inl (fun _ => (-1)))), (a 40, .inl (κ.1, 40, .inl (fun _ => (-1)))), (a 41, .inr (4, [.ref (a 42), .ref (a 43), .ref (a 44), .int 0])), (a 42, .inl (κ.1, 10, .inl (fun _ => 0))), (a 43, .inl (κ.2.1, 10, .inr (.inl (fun _ => 0)))), (a 44, .inl (κ.2.1, 10, .inr (.inl (fun _ => 0)))), (o, .inl (κ.2.1, 1, .inr (.inl (fun _ => 0))))]) ([(b 0, .inr (9, [.int 0, .ref (b 1), .ref (b 2), .ref (b 3), .ref (b 4), .ref (b 5), .ref (b 6), .ref (b 7), .null, .int 0, .int (-1), .int 0, .int 0, .int 0, .ref (b 8)])), (b 1, .inl (κ.1, 4, .inl (fun _ => 1000))), (b 2, .inr (10, [.int 0, .ref E0, .int 0])), (b 3, .inr (10, [.int 0, .ref E0, .int 0])), (b 4, .inr (10, [.int 0, .ref E0, .int 0])), (b 5, .inr (10, [.int 0, .ref E0, .int 0])), (b 6, .inr (10, [.int 0, .ref E0, .int 0])), (b 7, .inr (10, [.int 0, .ref E0, .int 0])), (b 8, .inr (10, [.int 0, .ref E0, .int 0]))]) := (Cut.idx [0, 1, 2, 3, 4, 5, 6, 7, 8, 9, 10, 11, 12, 13, 14, 15, 16, 17, 18, 19, 20, 21, 22, 23, 24, 25, 26, 27, 28, 29, 30, 31, 32, 33, 34, 35, 36, 37, 38, 39, 40, 41, 42, 43, 44, 45] [46, 47, 48, 49, 50, 51, 52, 53, 54] rfl rfl (by decide) (by decide) (by decide))
  refine zc_i hG cut1940 (zr_H (n := 3) (As := [.ref (a 0), .int (xs 1), .ref o]) (rest := []) hC hG hE hT cut1940 (z_254_wouldClose l hst D κ E0 H.size a (xs 1) o ⟨by omega, by omega⟩) w1171 w143 w1173 w1172 (by decide +kernel) ⟨Nat.le_of_ble_eq_true rfl, Nat.le_of_ble_eq_true rfl⟩ rfl hl.1 rfl (Nat.le_of_ble_eq_true rfl) dL_law_1940 ⟨Nat.le_of_ble_eq_true rfl, Nat.le_of_ble_eq_true rfl⟩) (fun z1 H locs hG => ?_)
  have hG : BW D κ (([(b 0, .inr (9, [.int 0, .ref (b 1), .ref (b 2), .ref (b 3), .ref (b 4), .ref (b 5), .ref (b 6), .ref (b 7), .null, .int 0, .int (-1), .int 0, .int 0, .int 0, .ref (b 8)])), (b 1, .inl (κ.1, 4, .inl (fun _ => 1000))), (b 2, .inr (10, [.int 0, .ref E0, .int 0])), (b 3, .inr (10, [.int 0, .ref E0, .int 0])), (b 4, .inr (10, [.int 0, .ref E0, .int 0])), (b 5, .inr (10, [.int 0, .ref E0, .int 0])), (b 6, .inr (10, [.int 0, .ref E0, .int 0])), (b 7, .inr (10, [.int 0, .ref E0, .int 0])), (b 8, .inr (10, [.int 0, .ref E0, .int 0]))]) ++ ([(o, .inl (κ.2.1, 1, .inr (.inl (va_up (fun _ => 0) ((0 : Int32).toNatClampNeg) (-0)))))])) _ s H locs := hG
  refine lv_istore (lv' := [(5, .int 0), (4, .int 0), (3, .ref o), (2, .ref (b 0)), (1, .ref (a 0)), (0, .ref sb)]) hx hb dL_law_1943 hl (by decide) rfl (fun ls hl => ?_)
  refine lv_aload_n hx hb dL_law_1945 rfl (lv_at hl 3 rfl) ?_
  refine lv_aload_n hx hb dL_law_1946 rfl (lv_at hl 5 rfl) ?_
  refine lv_iload hx hb dL_law_1947 (lv_at hl 1 rfl) ?_
  refine lv_iconst (v := 1) hx hb dL_law_1949 (by decide) ?_
  refine lv_iadd hx hb dL_law_1950 ?_
  refine W.eq (g2 := F0 m 1951 ls [.int 1, .ref sb, .ref (b 0)]) rfl ?_
  refine va_sld hx hb hX hbl (Nat.not_le_of_lt hbl) hG.2.2.2.1 (vp_box (by decide) (by rw [hL4]; decide)) dL_law_1951 ?_
  refine W.eq (g2 := F0 m 1952 ls [.int (xs 1), .ref (b 0)]) rfl ?_
  have cut1952 : Cut (([(b 0, .inr (9, [.int 0, .ref (b 1), .ref (b 2), .ref (b 3), .ref (b 4), .ref (b 5), .ref (b 6), .ref (b 7), .null, .int 0, .int (-1), .int 0, .int 0, .int 0, .ref (b 8)])), (b 1, .inl (κ.1, 4, .inl (fun _ => 1000))), (b 2, .inr (10, [.int 0, .ref E0, .int 0])), (b 3, .inr (10, [.int 0, .ref E0, .int 0])), (b 4, .inr (10, [.int 0, .ref E0, .int 0])), (b 5, .inr (10, [.int 0, .ref E0, .int 0])), (b 6, .inr (10, [.int 0, .ref E0, .int 0])), (b 7, .inr (10, [.int 0, .ref E0, .int 0])), (b 8, .inr (10, [.int 0, .ref E0, .int 0]))]) ++ ([(o, .inl (κ.2.1, 1, .inr (.inl (va_up (fun _ => 0) ((0 : Int32).toNatClampNeg) (-0)))))])) (mw κ b E0 0) ([(o, .inl (κ.2.1, 1, .inr (.inl (va_up (fun _ => 0) ((0 : Int32).toNatClampNeg) (-0)))))]) := (Cut.idx [0, 1, 2, 3, 4, 5, 6, 7, 8] [9] rfl rfl (by decide) (by decide) (by decide))
  refine zc_l hG cut1952 (zr_V (k := 0) (ci := 9) (n := 1) (As := [.int (xs 1)]) (rest := []) hC hG hE hT cut1952 (z_258_wouldClose l hst D κ E0 H.size b (xs 1) ⟨by omega, by omega⟩) rfl rfl w1178 w5 w1181 w1179 w1180 (by decide +kernel) ⟨Nat.le_of_ble_eq_true rfl, Nat.le_of_ble_eq_true rfl⟩ rfl hl.1 rfl (Nat.le_of_ble_eq_true rfl) dL_law_1952 ⟨Nat.le_of_ble_eq_true rfl, Nat.le_of_ble_eq_true rfl⟩) (fun z2 H locs hG => ?_)
  have hG : BW D κ (([(o, .inl (κ.2.1, 1, .inr (.inl (va_up (fun _ => 0) ((0 : Int32).toNatClampNeg) (-0)))))]) ++ (mw κ b E0 0)) _ s H locs := hG
  refine lv_lstore (lv' := [(6, .long (-0)), (5, .int 0), (4, .int 0), (3, .ref o), (2, .ref (b 0)), (1, .ref (a 0)), (0, .ref sb)]) hx hb dL_law_1955 hl (by decide) rfl (fun ls hl => ?_)
  refine lv_aload_n hx hb dL_law_1957 rfl (lv_at hl 4 rfl) ?_
  have cut1958 : Cut (([(o, .inl (κ.2.1, 1, .inr (.inl (va_up (fun _ => 0) ((0 : Int32).toNatClampNeg) (-0)))))]) ++ (mw κ b E0 0)) ([(b 0, .inr (9, [.int 0, .ref (b 1), .ref (b 2), .ref (b 3), .ref (b 4), .ref (b 5), .ref (b 6), .ref (b 7), .null, .int 0, .int (-1), .int 0, .int 0, .int 0, .ref (b 8)]))]) ([(o, .inl (κ.2.1, 1, .inr (.inl (va_up (fun _ => 0) ((0 : Int32).toNatClampNeg) (-0))))), (b 1, .inl (κ.1, 4, .inl (fun _ => 1000))), (b 2, .inr (10, [.int 0, .ref E0, .int 0])), (b 3, .inr (10, [.int 0, .ref E0, .int 0])), (b 4, .inr (10, [.int 0, .ref E0, .int 0])), (b 5, .inr (10, [.int 0, .ref E0, .int 0])), (b 6, .inr (10, [.int 0, .ref E0, .int 0])), (b 7, .inr (10, [.int 0, .ref E0, .int 0])), (b 8, .inr (10, [.int 0, .ref E0, .int 0]))]) := (Cut.idx [1] [0, 2, 3, 4, 5, 6, 7, 8, 9] rfl rfl (by decide) (by decide) (by decide))
  refine zc_i hG cut1958 (zr_V (k := 1) (ci := 9) (n := 0) (As := []) (rest := []) hC hG hE hT cut1958 (z_29_thrown l hst D κ E0 H.size b) rfl rfl w200 w5 w203 w201 w202 (by decide +kernel) ⟨Nat.le_of_ble_eq_true rfl, Nat.le_of_ble_eq_true rfl⟩ rfl hl.1 rfl (Nat.le_of_ble_eq_true rfl) dL_law_1958 ⟨Nat.le_of_ble_eq_true rfl, Nat.le_of_ble_eq_true rfl⟩) (fun z3 H locs hG => ?_)
  have hG : BW D κ (([(o, .inl (κ.2.1, 1, .inr (.inl (va_up (fun _ => 0) ((0 : Int32).toNatClampNeg) (-0))))), (b 1, .inl (κ.1, 4, .inl (fun _ => 1000))), (b 2, .inr (10, [.int 0, .ref E0, .int 0])), (b 3, .inr (10, [.int 0, .ref E0, .int 0])), (b 4, .inr (10, [.int 0, .ref E0, .int 0])), (b 5, .inr (10, [.int 0, .ref E0, .int 0])), (b 6, .inr (10, [.int 0, .ref E0, .int 0])), (b 7, .inr (10, [.int 0, .ref E0, .int 0])), (b 8, .inr (10, [.int 0, .ref E0, .int 0]))]) ++ ([(b 0, .inr (9, [.int 0, .ref (b 1), .ref (b 2), .ref (b 3), .ref (b 4), .ref (b 5), .ref (b 6), .ref (b 7), .null, .int 0, .int (-1), .int 0, .int 0, .int 0, .ref (b 8)]))])) _ s H locs := hG
  refine lv_iload hx hb dL_law_1961 (lv_at hl 1 rfl) ?_
  refine lv_icmp_eq (tgt := 1968) hx hb dL_law_1963 (by decide) (fun _ => ?_) (fun h1963 => absurd (by decide) h1963)
  refine lv_iload hx hb dL_law_1968 (lv_at hl 1 rfl) ?_
  refine lv_if_ne (tgt := 1984) hx hb dL_law_1970 (by decide) (fun h1970 => absurd (by decide) h1970) (fun _ => ?_)
  refine lv_aload_n hx hb dL_law_1973 rfl (lv_at hl 3 rfl) ?_
  refine lv_iconst (v := 0) hx hb dL_law_1974 (by decide) ?_
  refine zs_lld 0 (v := (-0)) hC hG rfl (vp_box (by have e0 : (0 : Int32).toInt = 0 := (by decide); omega) (by have e0 : (0 : Int32).toInt = 0 := (by decide); omega)) rfl dL_law_1975 ?_
  refine lv_lload hx hb dL_law_1976 (lv_at hl 0 rfl) ?_
  refine bl_eq (tgt := 1984) hx hb dL_law_1978 dL_law_1979 (by decide) (fun _ => ?_) (fun h9 => absurd (rfl) h9)
  refine lv_goto (tgt := 2042) hx hb dL_law_1984 (by decide) ?_
  refine lv_iinc (v := 4) (lv' := [(4, .int 4), (6, .long (-0)), (5, .int 0), (3, .ref o), (2, .ref (b 0)), (1, .ref (a 0)), (0, .ref sb)]) hx hb dL_law_2042 hl (k := 2) rfl (by decide) (by decide) rfl (fun ls hl => ?_)
  refine lv_goto (tgt := 23) hx hb dL_law_2045 (by decide) ?_
  refine lv_iload hx hb dL_law_23 (lv_at hl 0 rfl) ?_
  refine lv_aload_n hx hb dL_law_25 rfl (lv_at hl 6 rfl) ?_
  refine va_slen hx hb hX hbl (Nat.not_le_of_lt hbl) hG.2.2.2.1 dL_law_26 ?_
  refine W.eq (g2 := F0 m 27 ls [.int 4, .int 4]) (by rw [hL4]; rfl) ?_
  refine lv_iconst (v := 4) hx hb dL_law_27 (by decide) ?_
  refine lv_isub hx hb dL_law_28 ?_
  refine W.eq (g2 := F0 m 29 ls [.int 0, .int 4]) rfl ?_
  refine lv_icmp_gt (tgt := 2048) hx hb dL_law_29 (by decide) (fun _ => ?_) (fun h29 => absurd (by decide) h29)
  refine lv_iconst (v := 1) hx hb dL_law_2048 (by decide) ?_
  refine W.widen (k := 600002) (n := 7302232) (Nat.le_of_ble_eq_true rfl) (Nat.le_of_ble_eq_true rfl) ?_
  refine va_forget (fun q hq => hG.2.2.2.1.2.2 q hq) ?_
  refine W.base ?_
  exact lw_ret (Drawn.sameBut.refl s.drawn lw_cs) hx hb hr hlocks dL_law_2049
theorem dL_law_1987 : decode code 1987 = .ok (.aload_n 1, 1) := by decide +kernel
theorem dL_law_1988 : decode code 1988 = .ok (.invokevirtual 207, 3) := by decide +kernel
theorem dL_law_1991 : decode code 1991 = .ok (.dstore 5, 2) := by decide +kernel
theorem dL_law_1993 : decode code 1993 = .ok (.aload_n 2, 1) := by decide +kernel
theorem dL_law_1994 : decode code 1994 = .ok (.invokevirtual 211, 3) := by decide +kernel
theorem dL_law_1997 : decode code 1997 = .ok (.dstore 7, 2) := by decide +kernel
theorem dL_law_1999 : decode code 1999 = .ok (.dload 5, 2) := by decide +kernel
theorem dL_law_2001 : decode code 2001 = .ok (.dload 7, 2) := by decide +kernel
theorem dL_law_2003 : decode code 2003 = .ok (.dcmp .l, 1) := by decide +kernel
theorem dL_law_2004 : decode code 2004 = .ok (.ifCond .eq 21, 3) := by decide +kernel
theorem dL_law_2025 : decode code 2025 = .ok (.goto 17, 3) := by decide +kernel
set_option maxHeartbeats 4000000 in
set_option maxRecDepth 100000 in
theorem leaf_58 {p : Program} {e : Env} {s : State} {m : MethodId} {below : List Frame} {meth : Method} {c : Code} (l : Launch) (hst : l.stackTraces = false) {D : va_G} {κ : K4} {E0 : Nat} {a b : Nat → Nat} {o sb L : Nat} {xs : Nat → Int32} (hC : CallFix p m c code 9 s #[Value.ref sb] WALL RL) (hr : meth.sig.returnType = ret) (hlocks : meth.locks = false) (hX : va_X sb L xs s s.heap) (hbl : sb < s.heap.size) (hL4 : L = 4) (hE : EA E0 D κ (fun q => s.heap.size ≤ q) s s.heap) (hT : ET s) (H : Heap) (locs : List Loc) (hG : BW D κ ((xw κ a ++ [(o, .inl (κ.2.1, 1, .inr (.inl (fun _ => 0))))]) ++ mw κ b E0 0) (fun q => s.heap.size ≤ q) s H locs) (ls : Array Slot) (hl : lv_has ls 9 [(4, .int 0), (3, .ref o), (2, .ref (b 0)), (1, .ref (a 0)), (0, .ref sb)]) : W p l e room_1 s m #[Value.ref sb] below meth c H locs 100 6000 (lw_Z below #[Value.ref sb] s) (F0 m 1987 ls []) := by
  have hx := hC.1
  have hb := hC.2.1
  refine lv_aload_n hx hb dL_law_1987 rfl (lv_at hl 3 rfl) ?_
  have cut1988 : Cut ((xw κ a ++ [(o, .inl (κ.2.1, 1, .inr (.inl (fun _ => 0))))]) ++ mw κ b E0 0) (xw κ a) ([(o, .inl (κ.2.1, 1, .inr (.inl (fun _ => 0)))), (b 0, .inr (9, [.int 0, .ref (b 1), .ref (b 2), .ref (b 3), .ref (b 4), .ref (b 5), .ref (b 6), .ref (b 7), .null, .int 0, .int (-1), .int 0, .int 0, .int 0, .ref (b 8)])), (b 1, .inl (κ.1, 4, .inl (fun _ => 1000))), (b 2, .inr (10, [.int 0, .ref E0, .int 0])), (b 3, .inr (10, [.int 0, .ref E0, .int 0])), (b 4, .inr (10, [.int 0, .ref E0, .int 0])), (b 5, .inr (10, [.int 0, .ref E0, .int 0])), (b 6, .inr (10, [.int 0, .ref E0, .int 0])), (b 7, .inr (10, [.int 0, .ref E0, .int 0])), (b 8, .inr (10, [.int 0, .ref E0, .int 0]))]) := (Cut.idx [0, 1, 2, 3, 4, 5, 6, 7, 8, 9, 10, 11, 12, 13, 14, 15, 16, 17, 18, 19, 20, 21, 22, 23, 24, 25, 26, 27, 28, 29, 30, 31, 32, 33, 34, 35, 36, 37, 38, 39, 40, 41, 42, 43, 44] [45, 46, 47, 48, 49, 50, 51, 52, 53, 54] rfl rfl (by decide) (by decide) (by decide))
  refine zc_d hG cut1988 (zr_V (k := 0) (ci := 7) (n := 0) (As := []) (rest := []) hC hG hE hT cut1988 (z_259_meanLegs l hst D κ E0 H.size a) rfl rfl w1182 w2 w1185 w1183 w1184 (by decide +kernel) ⟨Nat.le_of_ble_eq_true rfl, Nat.le_of_ble_eq_true rfl⟩ rfl hl.1 rfl (Nat.le_of_ble_eq_true rfl) dL_law_1988 ⟨Nat.le_of_ble_eq_true rfl, Nat.le_of_ble_eq_true rfl⟩) (fun z1 H locs hG => ?_)
  have hG : BW D κ (([(o, .inl (κ.2.1, 1, .inr (.inl (fun _ => 0)))), (b 0, .inr (9, [.int 0, .ref (b 1), .ref (b 2), .ref (b 3), .ref (b 4), .ref (b 5), .ref (b 6), .ref (b 7), .null, .int 0, .int (-1), .int 0, .int 0, .int 0, .ref (b 8)])), (b 1, .inl (κ.1, 4, .inl (fun _ => 1000))), (b 2, .inr (10, [.int 0, .ref E0, .int 0])), (b 3, .inr (10, [.int 0, .ref E0, .int 0])), (b 4, .inr (10, [.int 0, .ref E0, .int 0])), (b 5, .inr (10, [.int 0, .ref E0, .int 0])), (b 6, .inr (10, [.int 0, .ref E0, .int 0])), (b 7, .inr (10, [.int 0, .ref E0, .int 0])), (b 8, .inr (10, [.int 0, .ref E0, .int 0]))]) ++ (xw κ a)) _ s H locs := hG
  refine lv_dstore (lv' := [(5, .double FP.dconst0), (4, .int 0), (3, .ref o), (2, .ref (b 0)), (1, .ref (a 0)), (0, .ref sb)]) hx hb dL_law_1991 hl (by decide) rfl (fun ls hl => ?_)
  refine lv_aload_n hx hb dL_law_1993 rfl (lv_at hl 3 rfl) ?_
  have cut1994 : Cut (([(o, .inl (κ.2.1, 1, .inr (.inl (fun _ => 0)))), (b 0, .inr (9, [.int 0, .ref (b 1), .ref (b 2), .ref (b 3), .ref (b 4), .ref (b 5), .ref (b 6), .ref (b 7), .null, .int 0, .int (-1), .int 0, .int 0, .int 0, .ref (b 8)])), (b 1, .inl (κ.1, 4, .inl (fun _ => 1000))), (b 2, .inr (10, [.int 0, .ref E0, .int 0])), (b 3, .inr (10, [.int 0, .ref E0, .int 0])), (b 4, .inr (10, [.int 0, .ref E0, .int 0])), (b 5, .inr (10, [.int 0, .ref E0, .int 0])), (b 6, .inr (10, [.int 0, .ref E0, .int 0])), (b 7, .inr (10, [.int 0, .ref E0, .int 0])), (b 8, .inr (10, [.int 0, .ref E0, .int 0]))]) ++ (xw κ a)) (mw κ b E0 0) ([(o, .inl (κ.2.1, 1, .inr (.inl (fun _ => 0)))), (a 0, .inr (7, [.ref (a 1), .ref (a 7), .ref (a 12), .ref (a 23), .ref (a 28), .ref (a 33), .ref (a 37), .ref (a 41), .int (-1), .int 0])), (a 1, .inr (0, [.ref (a 2), .ref (a 3), .ref (a 4), .ref (a 5), .ref (a 6), .int 0])), (a 2, .inl (κ.1, 4, .inl (fun _ => 1000))), (a 3, .inl (κ.1, 10, .inl (fun _ => 0))), (a 4, .inl (κ.1, 10, .inl (fun _ => 0))), (a 5, .inl (κ.1, 10, .inl (fun _ => 0))), (a 6, .inl (κ.2.2.1, 10, .inl (fun _ => 0))), (a 7, .inr (1, [.ref (a 8), .int 0, .int 0, .int 0])), (a 8, .inr (4, [.ref (a 9), .ref (a 10), .ref (a 11), .int 0])), (a 9, .inl (κ.1, 10, .inl (fun _ => 0))), (a 10, .inl (κ.2.1, 10, .inr (.inl (fun _ => 0)))), (a 11, .inl (κ.2.1, 10, .inr (.inl (fun _ => 0)))), (a 12, .inr (3, [.ref (a 13), .ref (a 14), .ref (a 15), .ref (a 16), .ref (a 17), .ref (a 18), .int 0, .ref (a 19), .ref (a 20), .ref (a 21), .ref (a 22), .int 0])), (a 13, .inl (κ.1, 60, .inl (fun _ => 0))), (a 14, .inl (κ.1, 60, .inl (fun _ => 0))), (a 15, .inl (κ.1, 60, .inl (fun _ => 0))), (a 16, .inl (κ.1, 60, .inl (fun _ => 0))), (a 17, .inl (κ.2.2.1, 60, .inl (fun _ => 0))), (a 18, .inl (κ.2.2.1, 60, .inl (fun _ => 0))), (a 19, .inl (κ.1, 600, .inl (fun _ => 0))), (a 20, .inl (κ.1, 600, .inl (fun _ => 0))), (a 21, .inl (κ.2.1, 600, .inr (.inl (fun _ => 0)))), (a 22, .inl (κ.2.1, 600, .inr (.inl (fun _ => 0)))), (a 23, .inr (2, [.ref (a 24), .ref (a 25), .ref (a 26), .ref (a 27), .int 0])), (a 24, .inl (κ.1, 20, .inl (fun _ => 0))), (a 25, .inl (κ.1, 20, .inl (fun _ => 0))), (a 26, .inl (κ.1, 20, .inl (fun _ => 0))), (a 27, .inl (κ.2.2.1, 20, .inl (fun _ => 0))), (a 28, .inr (5, [.ref (a 29), .ref (a 30), .ref (a 31), .ref (a 32), .int 0])), (a 29, .inl (κ.1, 40, .inl (fun _ => 0))), (a 30, .inl (κ.1, 40, .inl (fun _ => 0))), (a 31, .inl (κ.1, 40, .inl (fun _ => 0))), (a 32, .inl (κ.1, 40, .inl (fun _ => 0))), (a 33, .inr (6, [.ref (a 12), .ref (a 28), .ref (a 34), .ref (a 35), .ref (a 36)])), (a 34, .inl (κ.1, 600, .inl (fun _ => (-1)))), (a 35, .inl (κ.1, 40, .inl (fun _ => (-1)))), (a 36, .inl (κ.1, 40, .inl (fun _ => (-1)))), (a 37, .inr (6, [.ref (a 12), .ref (a 28), .ref (a 38), .ref (a 39), .ref (a 40)])), (a 38, .inl (κ.1, 600, .inl (fun _ => (-1)))), (a 39, .inl (κ.1, 40, .inl (fun _ => (-1)))), (a 40, .inl (κ.1, 40, .inl (fun _ => (-1)))), (a 41, .inr (4, [.ref (a 42), .ref (a 43), .ref (a 44), .int 0])), (a 42, .inl (κ.1, 10, .inl (fun _ => 0))), (a 43, .inl (κ.2.1, 10, .inr (.inl (fun _ => 0)))), (a 44, .inl (κ.2.1, 10, .inr (.inl (fun _ => 0))))]) := (Cut.idx [1, 2, 3, 4, 5, 6, 7, 8, 9] [0, 10, 11, 12, 13, 14, 15, 16, 17, 18, 19, 20, 21, 22, 23, 24, 25, 26, 27, 28, 29, 30, 31, 32, 33, 34, 35, 36, 37, 38, 39, 40, 41, 42, 43, 44, 45, 46, 47, 48, 49, 50, 51, 52, 53, 54] rfl rfl (by decide) (by decide) (by decide))
  refine zc_d hG cut1994 (zr_V (k := 1) (ci := 9) (n := 0) (As := []) (rest := []) hC hG hE hT cut1994 (z_260_meanLegs l hst D κ E0 H.size b) rfl rfl w1190 w5 w1193 w1191 w1192 (by decide +kernel) ⟨Nat.le_of_ble_eq_true rfl, Nat.le_of_ble_eq_true rfl⟩ rfl hl.1 rfl (Nat.le_of_ble_eq_true rfl) dL_law_1994 ⟨Nat.le_of_ble_eq_true rfl, Nat.le_of_ble_eq_true rfl⟩) (fun z2 H locs hG => ?_)
  have hG : BW D κ (([(o, .inl (κ.2.1, 1, .inr (.inl (fun _ => 0)))), (a 0, .inr (7, [.ref (a 1), .ref (a 7), .ref (a 12), .ref (a 23), .ref (a 28), .ref (a 33), .ref (a 37), .ref (a 41), .int (-1), .int 0])), (a 1, .inr (0, [.ref (a 2), .ref (a 3), .ref (a 4), .ref (a 5), .ref (a 6), .int 0])), (a 2, .inl (κ.1, 4, .inl (fun _ => 1000))), (a 3, .inl (κ.1, 10, .inl (fun _ => 0))), (a 4, .inl (κ.1, 10, .inl (fun _ => 0))), (a 5, .inl (κ.1, 10, .inl (fun _ => 0))), (a 6, .inl (κ.2.2.1, 10, .inl (fun _ => 0))), (a 7, .inr (1, [.ref (a 8), .int 0, .int 0, .int 0])), (a 8, .inr (4, [.ref (a 9), .ref (a 10), .ref (a 11), .int 0])), (a 9, .inl (κ.1, 10, .inl (fun _ => 0))), (a 10, .inl (κ.2.1, 10, .inr (.inl (fun _ => 0)))), (a 11, .inl (κ.2.1, 10, .inr (.inl (fun _ => 0)))), (a 12, .inr (3, [.ref (a 13), .ref (a 14), .ref (a 15), .ref (a 16), .ref (a 17), .ref (a 18), .int 0, .ref (a 19), .ref (a 20), .ref (a 21), .ref (a 22), .int 0])), (a 13, .inl (κ.1, 60, .inl (fun _ => 0))), (a 14, .inl (κ.1, 60, .inl (fun _ => 0))), (a 15, .inl (κ.1, 60, .inl (fun _ => 0))), (a 16, .inl (κ.1, 60, .inl (fun _ => 0))), (a 17, .inl (κ.2.2.1, 60, .inl (fun _ => 0))), (a 18, .inl (κ.2.2.1, 60, .inl (fun _ => 0))), (a 19, .inl (κ.1, 600, .inl (fun _ => 0))), (a 20, .inl (κ.1, 600, .inl (fun _ => 0))), (a 21, .inl (κ.2.1, 600, .inr (.inl (fun _ => 0)))), (a 22, .inl (κ.2.1, 600, .inr (.inl (fun _ => 0)))), (a 23, .inr (2, [.ref (a 24), .ref (a 25), .ref (a 26), .ref (a 27), .int 0])), (a 24, .inl (κ.1, 20, .inl (fun _ => 0))), (a 25, .inl (κ.1, 20, .inl (fun _ => 0))), (a 26, .inl (κ.1, 20, .inl (fun _ => 0))), (a 27, .inl (κ.2.2.1, 20, .inl (fun _ => 0))), (a 28, .inr (5, [.ref (a 29), .ref (a 30), .ref (a 31), .ref (a 32), .int 0])), (a 29, .inl (κ.1, 40, .inl (fun _ => 0))), (a 30, .inl (κ.1, 40, .inl (fun _ => 0))), (a 31, .inl (κ.1, 40, .inl (fun _ => 0))), (a 32, .inl (κ.1, 40, .inl (fun _ => 0))), (a 33, .inr (6, [.ref (a 12), .ref (a 28), .ref (a 34), .ref (a 35), .ref (a 36)])), (a 34, .inl (κ.1, 600, .inl (fun _ => (-1)))), (a 35, .inl (κ.1, 40, .inl (fun _ => (-1)))), (a 36, .inl (κ.1, 40, .inl (fun _ => (-1)))), (a 37, .inr (6, [.ref (a 12), .ref (a 28), .ref (a 38), .ref (a 39), .ref (a 40)])), (a 38, .inl (κ.1, 600, .inl (fun _ => (-1)))), (a 39, .inl (κ.1, 40, .inl (fun _ => (-1)))), (a 40, .inl (κ.1, 40, .inl (fun _ => (-1)))), (a 41, .inr (4, [.ref (a 42), .ref (a 43), .ref (a 44), .int 0])), (a 42, .inl (κ.1, 10, .inl (fun _ => 0))), (a 43, .inl (κ.2.1, 10, .inr (.inl (fun _ => 0)))), (a 44, .inl (κ.2.1, 10, .inr (.inl (fun _ => 0))))]) ++ (mw κ b E0 0)) _ s H locs := hG
  refine lv_dstore (lv' := [(7, .double FP.dconst0), (5, .double FP.dconst0), (4, .int 0), (3, .ref o), (2, .ref (b 0)), (1, .ref (a 0)), (0, .ref sb)]) hx hb dL_law_1997 hl (by decide) rfl (fun ls hl => ?_)
  refine lv_dload hx hb dL_law_1999 (lv_at hl 1 rfl) ?_
  refine lv_dload hx hb dL_law_2001 (lv_at hl 0 rfl) ?_
  refine lv_dcmp hx hb dL_law_2003 ?_
  refine W.eq (g2 := F0 m 2004 ls [.int 0]) (congrArg (fun z9 => F0 m 2004 ls (.int z9 :: [])) (by decide +kernel)) ?_
  refine lv_if_eq (tgt := 2025) hx hb dL_law_2004 (by decide) (fun _ => ?_) (fun h2004 => absurd (by decide) h2004)
  refine lv_goto (tgt := 2042) hx hb dL_law_2025 (by decide) ?_
  refine lv_iinc (v := 4) (lv' := [(4, .int 4), (7, .double FP.dconst0), (5, .double FP.dconst0), (3, .ref o), (2, .ref (b 0)), (1, .ref (a 0)), (0, .ref sb)]) hx hb dL_law_2042 hl (k := 2) rfl (by decide) (by decide) rfl (fun ls hl => ?_)
  refine lv_goto (tgt := 23) hx hb dL_law_2045 (by decide) ?_
  refine lv_iload hx hb dL_law_23 (lv_at hl 0 rfl) ?_
  refine lv_aload_n hx hb dL_law_25 rfl (lv_at hl 6 rfl) ?_
  refine va_slen hx hb hX hbl (Nat.not_le_of_lt hbl) hG.2.2.2.1 dL_law_26 ?_
  refine W.eq (g2 := F0 m 27 ls [.int 4, .int 4]) (by rw [hL4]; rfl) ?_
  refine lv_iconst (v := 4) hx hb dL_law_27 (by decide) ?_
  refine lv_isub hx hb dL_law_28 ?_
  refine W.eq (g2 := F0 m 29 ls [.int 0, .int 4]) rfl ?_
  refine lv_icmp_gt (tgt := 2048) hx hb dL_law_29 (by decide) (fun _ => ?_) (fun h29 => absurd (by decide) h29)
  refine lv_iconst (v := 1) hx hb dL_law_2048 (by decide) ?_
  refine W.widen (k := 600002) (n := 7302232) (Nat.le_of_ble_eq_true rfl) (Nat.le_of_ble_eq_true rfl) ?_
  refine va_forget (fun q hq => hG.2.2.2.1.2.2 q hq) ?_
  refine W.base ?_
  exact lw_ret (Drawn.sameBut.refl s.drawn lw_cs) hx hb hr hlocks dL_law_2049
theorem dL_law_2028 : decode code 2028 = .ok (.aload_n 1, 1) := by decide +kernel
theorem dL_law_2029 : decode code 2029 = .ok (.invokevirtual 212, 3) := by decide +kernel
theorem dL_law_2032 : decode code 2032 = .ok (.aload_n 2, 1) := by decide +kernel
theorem dL_law_2033 : decode code 2033 = .ok (.invokevirtual 216, 3) := by decide +kernel
theorem dL_law_2036 : decode code 2036 = .ok (.lcmp, 1) := by decide +kernel
theorem dL_law_2037 : decode code 2037 = .ok (.ifCond .eq 5, 3) := by decide +kernel
set_option maxHeartbeats 4000000 in
set_option maxRecDepth 100000 in
theorem leaf_59 {p : Program} {e : Env} {s : State} {m : MethodId} {below : List Frame} {meth : Method} {c : Code} (l : Launch) (hst : l.stackTraces = false) {D : va_G} {κ : K4} {E0 : Nat} {a b : Nat → Nat} {o sb L : Nat} {xs : Nat → Int32} (hC : CallFix p m c code 9 s #[Value.ref sb] WALL RL) (hr : meth.sig.returnType = ret) (hlocks : meth.locks = false) (hX : va_X sb L xs s s.heap) (hbl : sb < s.heap.size) (hL4 : L = 4) (hE : EA E0 D κ (fun q => s.heap.size ≤ q) s s.heap) (hT : ET s) (H : Heap) (locs : List Loc) (hG : BW D κ ((xw κ a ++ [(o, .inl (κ.2.1, 1, .inr (.inl (fun _ => 0))))]) ++ mw κ b E0 0) (fun q => s.heap.size ≤ q) s H locs) (ls : Array Slot) (hl : lv_has ls 9 [(4, .int 0), (3, .ref o), (2, .ref (b 0)), (1, .ref (a 0)), (0, .ref sb)]) : W p l e room_1 s m #[Value.ref sb] below meth c H locs 100 6000 (lw_Z below #[Value.ref sb] s) (F0 m 2028 ls []) := by
  have hx := hC.1
  have hb := hC.2.1
  refine lv_aload_n hx hb dL_law_2028 rfl (lv_at hl 3 rfl) ?_
  have cut2029 : Cut ((xw κ a ++ [(o, .inl (κ.2.1, 1, .inr (.inl (fun _ => 0))))]) ++ mw κ b E0 0) (xw κ a) ([(o, .inl (κ.2.1, 1, .inr (.inl (fun _ => 0)))), (b 0, .inr (9, [.int 0, .ref (b 1), .ref (b 2), .ref (b 3), .ref (b 4), .ref (b 5), .ref (b 6), .ref (b 7), .null, .int 0, .int (-1), .int 0, .int 0, .int 0, .ref (b 8)])), (b 1, .inl (κ.1, 4, .inl (fun _ => 1000))), (b 2, .inr (10, [.int 0, .ref E0, .int 0])), (b 3, .inr (10, [.int 0, .ref E0, .int 0])), (b 4, .inr (10, [.int 0, .ref E0, .int 0])), (b 5, .inr (10, [.int 0, .ref E0, .int 0])), (b 6, .inr (10, [.int 0, .ref E0, .int 0])), (b 7, .inr (10, [.int 0, .ref E0, .int 0])), (b 8, .inr (10, [.int 0, .ref E0, .int 0]))]) := (Cut.idx [0, 1, 2, 3, 4, 5, 6, 7, 8, 9, 10, 11, 12, 13, 14, 15, 16, 17, 18, 19, 20, 21, 22, 23, 24, 25, 26, 27, 28, 29, 30, 31, 32, 33, 34, 35, 36, 37, 38, 39, 40, 41, 42, 43, 44] [45, 46, 47, 48, 49, 50, 51, 52, 53, 54] rfl rfl (by decide) (by decide) (by decide))
  refine zc_l hG cut2029 (zr_V (k := 0) (ci := 7) (n := 0) (As := []) (rest := []) hC hG hE hT cut2029 (z_274_digest l hst D κ E0 H.size a) rfl rfl w1194 w2 w1197 w1195 w1196 (by decide +kernel) ⟨Nat.le_of_ble_eq_true rfl, Nat.le_of_ble_eq_true rfl⟩ rfl hl.1 rfl (Nat.le_of_ble_eq_true rfl) dL_law_2029 ⟨Nat.le_of_ble_eq_true rfl, Nat.le_of_ble_eq_true rfl⟩) (fun z1 H locs hG => ?_)
  have hG : BW D κ (([(o, .inl (κ.2.1, 1, .inr (.inl (fun _ => 0)))), (b 0, .inr (9, [.int 0, .ref (b 1), .ref (b 2), .ref (b 3), .ref (b 4), .ref (b 5), .ref (b 6), .ref (b 7), .null, .int 0, .int (-1), .int 0, .int 0, .int 0, .ref (b 8)])), (b 1, .inl (κ.1, 4, .inl (fun _ => 1000))), (b 2, .inr (10, [.int 0, .ref E0, .int 0])), (b 3, .inr (10, [.int 0, .ref E0, .int 0])), (b 4, .inr (10, [.int 0, .ref E0, .int 0])), (b 5, .inr (10, [.int 0, .ref E0, .int 0])), (b 6, .inr (10, [.int 0, .ref E0, .int 0])), (b 7, .inr (10, [.int 0, .ref E0, .int 0])), (b 8, .inr (10, [.int 0, .ref E0, .int 0]))]) ++ (xw κ a)) _ s H locs := hG
  refine lv_aload_n hx hb dL_law_2032 rfl (lv_at hl 2 rfl) ?_
  have cut2033 : Cut (([(o, .inl (κ.2.1, 1, .inr (.inl (fun _ => 0)))), (b 0, .inr (9, [.int 0, .ref (b 1), .ref (b 2), .ref (b 3), .ref (b 4), .ref (b 5), .ref (b 6), .ref (b 7), .null, .int 0, .int (-1), .int 0, .int 0, .int 0, .ref (b 8)])), (b 1, .inl (κ.1, 4, .inl (fun _ => 1000))), (b 2, .inr (10, [.int 0, .ref E0, .int 0])), (b 3, .inr (10, [.int 0, .ref E0, .int 0])), (b 4, .inr (10, [.int 0, .ref E0, .int 0])), (b 5, .inr (10, [.int 0, .ref E0, .int 0])), (b 6, .inr (10, [.int 0, .ref E0, .int 0])), (b 7, .inr (10, [.int 0, .ref E0, .int 0])), (b 8, .inr (10, [.int 0, .ref E0, .int 0]))]) ++ (xw κ a)) (mw κ b E0 0) ([(o, .inl (κ.2.1, 1, .inr (.inl (fun _ => 0)))), (a 0, .inr (7, [.ref (a 1), .ref (a 7), .ref (a 12), .ref (a 23), .ref (a 28), .ref (a 33), .ref (a 37), .ref (a 41), .int (-1), .int 0])), (a 1, .inr (0, [.ref (a 2), .ref (a 3), .ref (a 4), .ref (a 5), .ref (a 6), .int 0])), (a 2, .inl (κ.1, 4, .inl (fun _ => 1000))), (a 3, .inl (κ.1, 10, .inl (fun _ => 0))), (a 4, .inl (κ.1, 10, .inl (fun _ => 0))), (a 5, .inl (κ.1, 10, .inl (fun _ => 0))), (a 6, .inl (κ.2.2.1, 10, .inl (fun _ => 0))), (a 7, .inr (1, [.ref (a 8), .int 0, .int 0, .int 0])), (a 8, .inr (4, [.ref (a 9), .ref (a 10), .ref (a 11), .int 0])), (a 9, .inl (κ.1, 10, .inl (fun _ => 0))), (a 10, .inl (κ.2.1, 10, .inr (.inl (fun _ => 0)))), (a 11, .inl (κ.2.1, 10, .inr (.inl (fun _ => 0)))), (a 12, .inr (3, [.ref (a 13), .ref (a 14), .ref (a 15), .ref (a 16), .ref (a 17), .ref (a 18), .int 0, .ref (a 19), .ref (a 20), .ref (a 21), .ref (a 22), .int 0])), (a 13, .inl (κ.1, 60, .inl (fun _ => 0))), (a 14, .inl (κ.1, 60, .inl (fun _ => 0))), (a 15, .inl (κ.1, 60, .inl (fun _ => 0))), (a 16, .inl (κ.1, 60, .inl (fun _ => 0))), (a 17, .inl (κ.2.2.1, 60, .inl (fun _ => 0))), (a 18, .inl (κ.2.2.1, 60, .inl (fun _ => 0))), (a 19, .inl (κ.1, 600, .inl (fun _ => 0))), (a 20, .inl (κ.1, 600, .inl (fun _ => 0))), (a 21, .inl (κ.2.1, 600, .inr (.inl (fun _ => 0)))), (a 22, .inl (κ.2.1, 600, .inr (.inl (fun _ => 0)))), (a 23, .inr (2, [.ref (a 24), .ref (a 25), .ref (a 26), .ref (a 27), .int 0])), (a 24, .inl (κ.1, 20, .inl (fun _ => 0))), (a 25, .inl (κ.1, 20, .inl (fun _ => 0))), (a 26, .inl (κ.1, 20, .inl (fun _ => 0))), (a 27, .inl (κ.2.2.1, 20, .inl (fun _ => 0))), (a 28, .inr (5, [.ref (a 29), .ref (a 30), .ref (a 31), .ref (a 32), .int 0])), (a 29, .inl (κ.1, 40, .inl (fun _ => 0))), (a 30, .inl (κ.1, 40, .inl (fun _ => 0))), (a 31, .inl (κ.1, 40, .inl (fun _ => 0))), (a 32, .inl (κ.1, 40, .inl (fun _ => 0))), (a 33, .inr (6, [.ref (a 12), .ref (a 28), .ref (a 34), .ref (a 35), .ref (a 36)])), (a 34, .inl (κ.1, 600, .inl (fun _ => (-1)))), (a 35, .inl (κ.1, 40, .inl (fun _ => (-1)))), (a 36, .inl (κ.1, 40, .inl (fun _ => (-1)))), (a 37, .inr (6, [.ref (a 12), .ref (a 28), .ref (a 38), .ref (a 39), .ref (a 40)])), (a 38, .inl (κ.1, 600, .inl (fun _ => (-1)))), (a 39, .inl (κ.1, 40, .inl (fun _ => (-1)))), (a 40, .inl (κ.1, 40, .inl (fun _ => (-1)))), (a 41, .inr (4, [.ref (a 42), .ref (a 43), .ref (a 44), .int 0])), (a 42, .inl (κ.1, 10, .inl (fun _ => 0))), (a 43, .inl (κ.2.1, 10, .inr (.inl (fun _ => 0)))), (a 44, .inl (κ.2.1, 10, .inr (.inl (fun _ => 0))))]) := (Cut.idx [1, 2, 3, 4, 5, 6, 7, 8, 9] [0, 10, 11, 12, 13, 14, 15, 16, 17, 18, 19, 20, 21, 22, 23, 24, 25, 26, 27, 28, 29, 30, 31, 32, 33, 34, 35, 36, 37, 38, 39, 40, 41, 42, 43, 44, 45, 46, 47, 48, 49, 50, 51, 52, 53, 54] rfl rfl (by decide) (by decide) (by decide))
  refine zc_l hG cut2033 (zr_V (k := 1) (ci := 9) (n := 0) (As := []) (rest := [.long ((((((((((((((((((((((((((58089 * 31) + 0) * 31) + 0) * 31) + 0) * 31) + 0) * 31) + 0) * 31) + (-1)) * 31) + 1) * 31) + 0) * 31) + 0) * 31) + 0) * 31) + 0) * 31) + 0) * 31) + (-0))]) hC hG hE hT cut2033 (z_286_digest l hst D κ E0 H.size b) rfl rfl w1220 w5 w1223 w1221 w1222 (by decide +kernel) ⟨Nat.le_of_ble_eq_true rfl, Nat.le_of_ble_eq_true rfl⟩ rfl hl.1 rfl (Nat.le_of_ble_eq_true rfl) dL_law_2033 ⟨Nat.le_of_ble_eq_true rfl, Nat.le_of_ble_eq_true rfl⟩) (fun z2 H locs hG => ?_)
  have hG : BW D κ (([(o, .inl (κ.2.1, 1, .inr (.inl (fun _ => 0)))), (a 0, .inr (7, [.ref (a 1), .ref (a 7), .ref (a 12), .ref (a 23), .ref (a 28), .ref (a 33), .ref (a 37), .ref (a 41), .int (-1), .int 0])), (a 1, .inr (0, [.ref (a 2), .ref (a 3), .ref (a 4), .ref (a 5), .ref (a 6), .int 0])), (a 2, .inl (κ.1, 4, .inl (fun _ => 1000))), (a 3, .inl (κ.1, 10, .inl (fun _ => 0))), (a 4, .inl (κ.1, 10, .inl (fun _ => 0))), (a 5, .inl (κ.1, 10, .inl (fun _ => 0))), (a 6, .inl (κ.2.2.1, 10, .inl (fun _ => 0))), (a 7, .inr (1, [.ref (a 8), .int 0, .int 0, .int 0])), (a 8, .inr (4, [.ref (a 9), .ref (a 10), .ref (a 11), .int 0])), (a 9, .inl (κ.1, 10, .inl (fun _ => 0))), (a 10, .inl (κ.2.1, 10, .inr (.inl (fun _ => 0)))), (a 11, .inl (κ.2.1, 10, .inr (.inl (fun _ => 0)))), (a 12, .inr (3, [.ref (a 13), .ref (a 14), .ref (a 15), .ref (a 16), .ref (a 17), .ref (a 18), .int 0, .ref (a 19), .ref (a 20), .ref (a 21), .ref (a 22), .int 0])), (a 13, .inl (κ.1, 60, .inl (fun _ => 0))), (a 14, .inl (κ.1, 60, .inl (fun _ => 0))), (a 15, .inl (κ.1, 60, .inl (fun _ => 0))), (a 16, .inl (κ.1, 60, .inl (fun _ => 0))), (a 17, .inl (κ.2.2.1, 60, .inl (fun _ => 0))), (a 18, .inl (κ.2.2.1, 60, .inl (fun _ => 0))), (a 19, .inl (κ.1, 600, .inl (fun _ => 0))), (a 20, .inl (κ.1, 600, .inl (fun _ => 0))), (a 21, .inl (κ.2.1, 600, .inr (.inl (fun _ => 0)))), (a 22, .inl (κ.2.1, 600, .inr (.inl (fun _ => 0)))), (a 23, .inr (2, [.ref (a 24), .ref (a 25), .ref (a 26), .ref (a 27), .int 0])), (a 24, .inl (κ.1, 20, .inl (fun _ => 0))), (a 25, .inl (κ.1, 20, .inl (fun _ => 0))), (a 26, .inl (κ.1, 20, .inl (fun _ => 0))), (a 27, .inl (κ.2.2.1, 20, .inl (fun _ => 0))), (a 28, .inr (5, [.ref (a 29), .ref (a 30), .ref (a 31), .ref (a 32), .int 0])), (a 29, .inl (κ.1, 40, .inl (fun _ => 0))), (a 30, .inl (κ.1, 40, .inl (fun _ => 0))), (a 31, .inl (κ.1, 40, .inl (fun _ => 0))), (a 32, .inl (κ.1, 40, .inl (fun _ => 0))), (a 33, .inr (6, [.ref (a 12), .ref (a 28), .ref (a 34), .ref (a 35), .ref (a 36)])), (a 34, .inl (κ.1, 600, .inl (fun _ => (-1)))), (a 35, .inl (κ.1, 40, .inl (fun _ => (-1)))), (a 36, .inl (κ.1, 40, .inl (fun _ => (-1)))), (a 37, .inr (6, [.ref (a 12), .ref (a 28), .ref (a 38), .ref (a 39), .ref (a 40)])), (a 38, .inl (κ.1, 600, .inl (fun _ => (-1)))), (a 39, .inl (κ.1, 40, .inl (fun _ => (-1)))), (a 40, .inl (κ.1, 40, .inl (fun _ => (-1)))), (a 41, .inr (4, [.ref (a 42), .ref (a 43), .ref (a 44), .int 0])), (a 42, .inl (κ.1, 10, .inl (fun _ => 0))), (a 43, .inl (κ.2.1, 10, .inr (.inl (fun _ => 0)))), (a 44, .inl (κ.2.1, 10, .inr (.inl (fun _ => 0))))]) ++ (mw κ b E0 0)) _ s H locs := hG
  refine bl_eq (tgt := 2042) hx hb dL_law_2036 dL_law_2037 (by decide) (fun _ => ?_) (fun h9 => absurd (rfl) h9)
  refine lv_iinc (v := 4) (lv' := [(4, .int 4), (3, .ref o), (2, .ref (b 0)), (1, .ref (a 0)), (0, .ref sb)]) hx hb dL_law_2042 hl (k := 0) rfl (by decide) (by decide) rfl (fun ls hl => ?_)
  refine lv_goto (tgt := 23) hx hb dL_law_2045 (by decide) ?_
  refine lv_iload hx hb dL_law_23 (lv_at hl 0 rfl) ?_
  refine lv_aload_n hx hb dL_law_25 rfl (lv_at hl 4 rfl) ?_
  refine va_slen hx hb hX hbl (Nat.not_le_of_lt hbl) hG.2.2.2.1 dL_law_26 ?_
  refine W.eq (g2 := F0 m 27 ls [.int 4, .int 4]) (by rw [hL4]; rfl) ?_
  refine lv_iconst (v := 4) hx hb dL_law_27 (by decide) ?_
  refine lv_isub hx hb dL_law_28 ?_
  refine W.eq (g2 := F0 m 29 ls [.int 0, .int 4]) rfl ?_
  refine lv_icmp_gt (tgt := 2048) hx hb dL_law_29 (by decide) (fun _ => ?_) (fun h29 => absurd (by decide) h29)
  refine lv_iconst (v := 1) hx hb dL_law_2048 (by decide) ?_
  refine W.widen (k := 600002) (n := 7302232) (Nat.le_of_ble_eq_true rfl) (Nat.le_of_ble_eq_true rfl) ?_
  refine va_forget (fun q hq => hG.2.2.2.1.2.2 q hq) ?_
  refine W.base ?_
  exact lw_ret (Drawn.sameBut.refl s.drawn lw_cs) hx hb hr hlocks dL_law_2049
