set_option maxHeartbeats 4000000 in
set_option maxRecDepth 100000 in
theorem leaf_60 {p : Program} {e : Env} {s : State} {m : MethodId} {below : List Frame} {meth : Method} {c : Code} (l : Launch) (hst : l.stackTraces = false) {D : va_G} {κ : K4} {E0 : Nat} {a b : Nat → Nat} {o sb L : Nat} {xs : Nat → Int32} (hC : CallFix p m c code 9 s #[Value.ref sb] WALL RL) (hr : meth.sig.returnType = ret) (hlocks : meth.locks = false) (hX : va_X sb L xs s s.heap) (hbl : sb < s.heap.size) (hL4 : L = 4) (hE : EA E0 D κ (fun q => s.heap.size ≤ q) s s.heap) (hT : ET s) (H : Heap) (locs : List Loc) (hG : BW D κ ((xw κ a ++ [(o, .inl (κ.2.1, 1, .inr (.inl (fun _ => 0))))]) ++ mw κ b E0 0) (fun q => s.heap.size ≤ q) s H locs) (ls : Array Slot) (hl : lv_has ls 9 [(4, .int 0), (3, .ref o), (2, .ref (b 0)), (1, .ref (a 0)), (0, .ref sb)]) : W p l e room_1 s m #[Value.ref sb] below meth c H locs 100 6000 (lw_Z below #[Value.ref sb] s) (F0 m 2042 ls []) := by
  have hx := hC.1
  have hb := hC.2.1
  refine lv_iinc (v := 4) (lv' := [(4, .int 4), (3, .ref o), (2, .ref (b 0)), (1, .ref (a 0)), (0, .ref sb)]) hx hb dL_law_2042 hl (k := 0) rfl (by decide) (by decide) rfl (fun ls hl => ?_)
  refine lv_goto (tgt := 23) hx hb dL_law_2045 (by decide) ?_
  refine lv_iload hx hb dL_law_23 (lv_at hl 0 rfl) ?_
  refine lv_aload_n hx hb dL_law_25 rfl (lv_at hl 4 rfl) ?_
  refine va_slen hx hb hX hbl (Nat.not_le_of_lt hbl) hG.2.2.2.1 dL_law_26 ?_
  refine W.eq (g2 := F0 m 27 ls [.int 4, .int 4]) (by rw [hL4]; rfl) ?_
  refine lv_iconst (v := 4) hx hb dL_law_27 (by decide) ?_
  refine lv_isub hx hb dL_law_28 ?_
  refine W.eq (g2 := F0 m 29 ls [.int 0, .int 4]) rfl ?_
  refine lv_icmp_gt (tgt := 2048) hx hb dL_law_29 (by decide) (fun _ => ?_) (fun h29 => absurd (by decide) h29)
  refine lv_iconst (v := 1) hx hb dL_law_2048 (by decide) ?_
  refine W.widen (k := 600002) (n := 7302232) (Nat.le_of_ble_eq_true rfl) (Nat.le_of_ble_eq_true rfl) ?_
  refine va_forget (fun q hq => hG.2.2.2.1.2.2 q hq) ?_
  refine W.base ?_
  exact lw_ret (Drawn.sameBut.refl s.drawn lw_cs) hx hb hr hlocks dL_law_2049
